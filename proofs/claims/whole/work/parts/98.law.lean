/-! the law: every call, and the whole script -/
theorem Pic.sw {G : Gx} {A : Nat → Nat} {B : Nat → Nat → Nat} {S : Nat → Nat → Int} {h : hw} {c N : Nat} {xs : Nat → Int32} {z i : Int32} {uc us : Nat} {J : hw → Nat → Nat → Prop} (P : Pic G A B S h) (I : IV S c) (hc : c ≤ 511) (v1 : vp_in (i + 1) N) (v2 : vp_in (i + 2) N) (v3 : vp_in (i + 3) N) (v4 : vp_in (i + 4) N) (hu : uc + 70 ≤ 603072) (hv : us + 48 * c + 260 ≤ 7219306) (q : CK G (A 0) (A 80) (A 90) (A 91) c uc us J) : wp_law_sw G N xs z (A 0) (A 80) (A 90) (A 91) i h uc us J := by
  have eo := I.ki.1.2.1
  have lo352 : ∀ a b : Nat, rg (lossE (EC S) a b) := fun a b => by
    have := lossE_le eo a b
    exact ⟨by omega, by omega⟩
  have lo584 : ∀ a : Nat, vst S (a : Int) → rg (lvE (EC S) a) := fun a _ => by
    have := lvE_le eo a
    exact ⟨by omega, by omega⟩
  have lo982 : ∀ a : Nat, ∀ d, vst S (a : Int) → rg (LC S a d) := fun a d _ => by
    have := lkf_rg (dy := fun e => S 34 (a * 256 + e)) (ch := fun e => S 35 (a * 256 + e)) (fun i => I.ri.2.2.1 _) d (S 33 a).toNat
    exact ⟨by unfold LC; omega, by unfold LC; omega⟩
  have hpr : ∀ j, j < 4 → rg (S 45 j) := fun j hj => by
    have w := I.fb.1 j hj
    have y := wof_in (w := S 46) I.bd.2 hj (t := (S 44 j).toNat) (by omega)
    exact ⟨by omega, by omega⟩
  exact ⟨(fun _ => P.w192 I v1 v2 v3 hu hv q), (fun _ => P.w272 I v1 v2 v3 hu hv q), (fun _ => P.w352 I v1 v2 hu hv lo352 q), (fun _ => P.w420 I v1 v2 v3 v4 hu hv q), (fun _ => P.w528 I v1 hu hv q), (fun _ => P.w584 I v1 hu hv lo584 q), (fun _ => P.w640 I v1 hu hv q), (fun _ => P.w696 I v1 hu hv q), (fun _ => P.w759 I v1 v2 v3 v4 hu hv q), (fun _ => P.w858 I hc v1 v2 hu hv q), (fun _ => P.w926 I hc v1 hu hv q), (fun _ => P.w982 I hc v1 v2 hu hv lo982 q), (fun _ => P.w1050 I v1 v2 hu hv q), (fun _ => P.w1141 I hc v1 v2 hu hv q), (fun _ => P.w1209 I hc v1 v2 hu hv q), (fun _ => P.w1284 I v1 v2 hu hv q), (fun _ => P.w1359 I hc v1 hu hv q), (fun _ => P.w1415 I v1 hu hv q), (fun _ => P.w1478 I v1 v2 hu hv q), (fun _ => P.w1546 I v1 v2 hu hv q), (fun _ => P.w1614 I hc v1 v2 v3 hu hv q), (fun _ => P.w1694 I v1 hu hv q), (fun _ => P.w1750 I q), (fun _ => P.w1763 I v1 v2 v3 hu hv q), (fun _ => P.w1843 I v1 hu hv q), (fun _ => P.w1899 I v1 hu hv q), (fun _ => P.w1955 I v1 hu hv hpr q), (fun _ => P.w2010 I hc v1 hu hv q), (fun _ => P.w2066 I v1 hu hv q), (fun _ => P.w2122 I q), (fun _ => P.w2135 I hu hv q), (fun _ => P.w2201 I hu hv q), (fun _ => P.w2266 I hc q), fun _ => q A B S h uc us P ⟨rfl, rfl, rfl, rfl⟩ I.nx (by omega) (by omega)⟩
theorem law_holds {G : Gx} (hG : GOK G) {b L : Nat} {xs : Nat → Int32} (hL : L ≤ 2560) : wp_law G b L xs (Gro G) := by
  unfold wp_law
  refine init_all (B := fun _ _ => 0) (fun A0 h0 P0 => ?_)
  intro J28 hJ
  have loop : ∀ (m c : Nat) (A : Nat → Nat) (B : Nat → Nat → Nat) (S : Nat → Nat → Int) (h : hw) (uc us : Nat), 5 * c ≤ L → L < 5 * c + 5 * m + 5 → Pic G A B S h → AD A (A0 0) (A0 80) (A0 90) (A0 91) → IV S c → uc ≤ 100 + 70 * c → us ≤ 6000 + 260 * c + 24 * (c * c) → J28 (ii ((5 * c : Nat) : Int)) h uc us := by
    intro m
    induction m with
    | zero =>
      intro c A B S h uc us h1 h2 P a I hu hv
      have cc : c * c ≤ 512 * 512 := Nat.mul_le_mul (by omega) (by omega)
      refine hJ _ _ _ _ ⟨fun _ => ⟨by omega, by omega⟩, fun z => absurd ?_ z⟩
      rw [ii_ofNat, il_5, ii_sub, ii_lt ⟨by omega, by omega⟩ ⟨by omega, by omega⟩]
      omega
    | succ m ih =>
      intro c A B S h uc us h1 h2 P a I hu hv
      have cc : c * c ≤ 512 * 512 := Nat.mul_le_mul (by omega) (by omega)
      refine hJ _ _ _ _ ⟨fun _ => ⟨by omega, by omega⟩, fun z => ?_⟩
      rw [ii_ofNat, il_5, ii_sub, ii_lt ⟨by omega, by omega⟩ ⟨by omega, by omega⟩] at z
      have hc : c ≤ 511 := by omega
      have vp : ∀ k : Nat, k ≤ 4 → vp_in (ii ((5 * c + k : Nat) : Int)) L := fun k hk => vp_ii (by omega) (by omega) (by omega)
      have vq : ∀ (k : Nat) (x : Int32), x = ii (k : Int) → k ≤ 4 → vp_in (ii ((5 * c : Nat) : Int) + x) L := fun k x hx hk => by
        rw [hx, ii_add]
        exact vp k hk
      refine ⟨vp 0 (by decide), fun J2 hJ2 => ?_⟩
      obtain ⟨x0, x80, x90, x91⟩ := a
      rw [← x0, ← x80, ← x90, ← x91]
      refine P.sw I hc (vq 1 _ (by decide) (by decide)) (vq 2 _ (by decide) (by decide)) (vq 3 _ (by decide) (by decide)) (vq 4 _ (by decide) (by decide)) (by omega) (by omega) (fun A' B' S' h' uc' us' P' a' I' hu' hv' => hJ2 _ _ _ ?_)
      have e5 : ii ((5 * c : Nat) : Int) + 5 = ii ((5 * (c + 1) : Nat) : Int) := by
        rw [il_5, ii_add]
        exact congrArg ii (by omega)
      rw [e5]
      have sq : (c + 1) * (c + 1) = c * c + 2 * c + 1 := by rw [Nat.add_mul, Nat.mul_add, Nat.mul_one, Nat.one_mul]; omega
      obtain ⟨y0, y80, y90, y91⟩ := a'
      exact ih (c + 1) A' B' S' h' uc' us' (by omega) (by omega) P' ⟨y0.trans x0, y80.trans x80, y90.trans x90, y91.trans x91⟩ I' (by omega) (by omega)
  have fin := loop (L + 1) 0 A0 _ S0i h0 80 5947 (by omega) (by omega) P0 ⟨rfl, rfl, rfl, rfl⟩ IV_0 (by decide) (by decide)
  rw [show ii ((5 * 0 : Nat) : Int) = 0 by decide] at fin
  exact fin
