/-! the land is built -/
theorem lei {m i : Nat} {a : Int32} (ha : a = ii (m : Int)) (hm : m ≤ 100000) (hi : i ≤ 100000) : (a ≤ ii (i : Int)) = (m ≤ i) := by
  subst ha
  refine propext ?_
  rw [ii_le ⟨by omega, by omega⟩ ⟨by omega, by omega⟩]
  omega
def lkx (k : Nat) : Prop := lkb k ∨ k = 36 ∨ k = 7 ∨ k = 46
def LF (G : Gx) (S : Nat → Nat → Int) (i : Nat) : Prop := KI S ∧ (∀ k, ¬ lkx k → S k = S0i k) ∧ S 50 2 = 10 ∧ S 51 2 = 6 ∧ (∀ j : Nat, j < 6 → EC S 7 j = bI (prt G j) ∧ S (70 + j) 5 = pk G (170 + j) 60) ∧ (∀ j : Nat, 6 ≤ j → j < 8 → S (70 + j) 5 = 0) ∧ (∀ i, i < 8 → S 36 i = 0 ∨ S 36 i = 1) ∧ BD S ∧ S 7 2 = i ∧ ∀ t, t < i → S 46 (t * 3) = pk G (190 + 3 * t) 90 ∧ S 46 (t * 3 + 1) = pk G (190 + 3 * t) 90 / 2 ∧ S 46 (t * 3 + 2) = pk G (190 + 3 * t) 90 / 3
theorem BR_0 : BR S0i := by
  have e31 : S0i 3 1 = 0 := rfl
  have e37 : ∀ j, j < 64 → S0i 37 j = -1 := fun j hj => by rw [S0_30 ⟨by decide, by decide⟩]; exact if_pos hj
  exact ⟨fun i _ => Or.inl (S0_nz ⟨by decide, by decide⟩ rfl i), fun i hi => by rw [e37 i hi, e31]; decide, fun i _ => Or.inl (S0_nz ⟨by decide, by decide⟩ rfl i), by rw [e31]; decide⟩
section BLD
variable {G : Gx} {A : Nat → Nat} {B : Nat → Nat → Nat} {S : Nat → Nat → Int} {h : hw}
theorem LB.fin (L : LB G S 10 6) {r v : Int} (hr : 0 ≤ r ∧ r ≤ 500) : LF G (su (su S 1 2 r) 36 v.toNat 1) 0 := by
  obtain ⟨k0, -, -, l4, l5, l6, l7, l8⟩ := L
  obtain ⟨k1, e1⟩ := KI_su1 k0 hr
  obtain ⟨S1, hS1⟩ : ∃ S1, S1 = su S 1 2 r := ⟨_, rfl⟩
  rw [← hS1] at k1 e1 ⊢
  have g1 : ∀ k, k ≠ 1 → S1 k = S k := fun k hk => by rw [hS1, su_row _ _ hk]
  have nk : ¬ kl 36 := nkl ⟨by decide, by decide, by omega⟩
  have eC : EC (su S1 36 v.toNat 1) = EC S1 := EC_of (kl_su nk)
  have g : ∀ k, k ≠ 1 → k ≠ 36 → su S1 36 v.toNat 1 k = S k := fun k a b => by rw [su_row _ _ b, g1 k a]
  have s7 : S 7 = S0i 7 := l4 7 (fun z => by unfold lkb at z; omega)
  have s46 : S 46 = S0i 46 := l4 46 (fun z => by unfold lkb at z; omega)
  have z46 : ∀ i, S0i 46 i = 0 := S0_nz ⟨by decide, by decide⟩ rfl
  refine ⟨k1.of (kl_su nk) (su_row _ _ (by decide)), fun k hk => ?_, ?_, ?_, fun j hj => ?_, fun j h1 h2 => ?_, fun i hi => ?_, ⟨?_, fun i _ => ?_⟩, ?_, fun t ht => by omega⟩
  · rw [g k (fun z => hk (by unfold lkx lkb; omega)) (fun z => hk (by unfold lkx lkb; omega))]
    exact l4 k (fun z => hk (Or.inl z))
  · rw [g 50 (by decide) (by decide)]; exact l5
  · rw [g 51 (by decide) (by decide)]; exact l6
  · rw [eC, e1 7 j (by decide), g (70 + j) (by omega) (by omega)]
    exact l7 j hj
  · rw [g (70 + j) (by omega) (by omega), l8 j h1 (by omega)]
    exact S0_z (by omega) (by omega) _
  · by_cases w : i = v.toNat
    · rw [w, su_at]; exact Or.inr rfl
    · rw [su_nei _ _ _ w, g1 36 (by decide), l4 36 (fun z => by unfold lkb at z; omega)]
      exact Or.inl (S0_nz ⟨by decide, by decide⟩ rfl i)
  · rw [g 7 (by decide) (by decide), s7, S0_z (by omega) (by decide)]; decide
  · rw [g 46 (by decide) (by decide), s46, z46, z46, z46]; decide
  · rw [g 7 (by decide) (by decide), s7, S0_z (by omega) (by decide)]; rfl
theorem Pic.build (P0 : Pic G A B S0i h) (hL : GsL G ≤ 260) {bc bs : Nat} (hbc : 1000 ≤ bc) (hbs : 10000 ≤ bs) {post : hw → Prop} (q : ∀ A' S' h', Pic G A' B S' h' → A' 0 = A 0 → LF G S' 0 → post h') : wp_L_build G (A 0) (Gsb G) h bc bs post := by
  intro J hJ
  have m1 : ∀ i, i ≤ 30 → ∀ (S : Nat → Nat → Int) (h : hw) (uc us : Nat), Pic G A B S h → LB G S 0 0 → uc ≤ 5 * i → us ≤ 34 * i → J (ii (i : Int)) h uc us := by
    intro i hi
    refine lp_up (J := fun i : Nat => ∀ (S : Nat → Nat → Int) (h : hw) (uc us : Nat), Pic G A B S h → LB G S 0 0 → uc ≤ 5 * i → us ≤ 34 * i → J (ii (i : Int)) h uc us) (n := 30) ?_ ?_ hi
    · intro S h uc us P L hu hs
      refine hJ _ _ _ _ ⟨fun _ => ?_, fun z => absurd (by decide) z⟩
      intro J2 hJ2
      have m2 : ∀ i, i ≤ 10 → ∀ (A' : Nat → Nat) (S : Nat → Nat → Int) (h : hw) (uc us : Nat), Pic G A' B S h → A' 0 = A 0 → LB G S i 0 → uc ≤ 150 + 5 * i → us ≤ 1020 + 34 * i → J2 (ii (i : Int)) h uc us := by
        intro i hi
        refine lp_up (J := fun i : Nat => ∀ (A' : Nat → Nat) (S : Nat → Nat → Int) (h : hw) (uc us : Nat), Pic G A' B S h → A' 0 = A 0 → LB G S i 0 → uc ≤ 150 + 5 * i → us ≤ 1020 + 34 * i → J2 (ii (i : Int)) h uc us) (n := 10) ?_ ?_ hi
        · intro A1 S h uc us P e1 L hu hs
          refine hJ2 _ _ _ _ ⟨fun _ => ?_, fun z => absurd (by decide) z⟩
          intro J3 hJ3
          have m3 : ∀ i, i ≤ 6 → ∀ (A' : Nat → Nat) (S : Nat → Nat → Int) (h : hw) (uc us : Nat), Pic G A' B S h → A' 0 = A 0 → LB G S 10 i → uc ≤ 200 + 10 * i → us ≤ 1360 + 68 * i → J3 (ii (i : Int)) h uc us := by
            intro i hi
            refine lp_up (J := fun i : Nat => ∀ (A' : Nat → Nat) (S : Nat → Nat → Int) (h : hw) (uc us : Nat), Pic G A' B S h → A' 0 = A 0 → LB G S 10 i → uc ≤ 200 + 10 * i → us ≤ 1360 + 68 * i → J3 (ii (i : Int)) h uc us) (n := 6) ?_ ?_ hi
            · intro A2 S h uc us P e2 L hu hs
              refine hJ3 _ _ _ _ ⟨fun _ => ?_, fun z => absurd (by decide) z⟩
              rw [← e2]
              refine pick_of (i := 180) (m := 300) hL (by decide) ⟨by decide, by decide⟩ (by decide) il_300 (fun a0 a1 => ?_)
              refine ⟨by omega, by omega, ?_⟩
              refine deed_3 (P.o (k := 0) rfl) ?_
              refine P.c_setRatio L.c32 ⟨by omega, by omega⟩ (fun hr _ h1 P1 => ?_) (fun z => absurd ⟨by omega, by omega⟩ z) (fun _ z => absurd L.off z)
              refine pick_of (i := 181) (m := 8) hL (by decide) ⟨by decide, by decide⟩ (by decide) il_8 (fun b0 b1 => ?_)
              refine ⟨by omega, by omega, ?_⟩
              have g : ∀ k, k ≠ 1 → ¬ lkb k → su S 1 2 (pk G 180 300) k = S0i k := fun k hk h2 => by rw [su_row _ _ hk]; exact L.2.2.2.1 k h2
              refine deed_6 (P1.o (k := 0) rfl) (b := true) rfl ?_
              refine P1.c_setFor (br_of (g 3 (by decide) (fun z => by unfold lkb at z; omega)) (g 36 (by decide) (fun z => by unfold lkb at z; omega)) (g 37 (by decide) (fun z => by unfold lkb at z; omega)) (g 38 (by decide) (fun z => by unfold lkb at z; omega)) BR_0) ⟨by omega, by omega⟩ (fun _ h2 P2 => ?_) (fun z => absurd ⟨by omega, by omega⟩ z)
              refine told_of (b := false) (by rw [g 36 (by decide) (fun z => by unfold lkb at z; omega), S0_nz ⟨by decide, by decide⟩ rfl]; rfl) ?_
              exact ⟨by omega, by omega, q A2 _ h2 P2 e2 (L.fin hr)⟩
            · intro i hi ih A2 S h uc us P e2 L hu hs
              refine hJ3 _ _ _ _ ?_
              rw [lei (m := 6) (by decide) (by decide) (by omega), ii_inc' i, ← e2]
              refine ⟨fun z => absurd z (by omega), fun _ => ?_⟩
              refine pick_of (i := 140 + 3 * i) (m := 10) hL (by omega) ⟨by decide, by decide⟩ (by rw [show (140 : Int32) = ii 140 by decide, il_3, ii_mul, ii_add]; exact congrArg ii (by omega)) il_10 (fun f0 f1 => ?_)
              refine pick_of (i := 141 + 3 * i) (m := 9) hL (by omega) ⟨by decide, by decide⟩ (by rw [show (141 : Int32) = ii 141 by decide, il_3, ii_mul, ii_add]; exact congrArg ii (by omega)) (by decide) (fun v0 v1 => ?_)
              refine ⟨by decide, ?_⟩
              refine pick_of (i := 142 + 3 * i) (m := 301) hL (by omega) ⟨by decide, by decide⟩ (by rw [show (142 : Int32) = ii 142 by decide, il_3, ii_mul, ii_add]; exact congrArg ii (by omega)) (by decide) (fun w0 w1 => ?_)
              refine pick_of (i := 160 + i) (m := 4) hL (by omega) ⟨by decide, by decide⟩ (by rw [show (160 : Int32) = ii 160 by decide, ii_add]; exact congrArg ii (by omega)) il_4 (fun u0 u1 => ?_)
              intro J4 hJ4
              have l6 := L.2.2.2.2.2.1
              have l5 := L.2.2.2.2.1
              have fin : J4 (A2 0) 2 (ii (pk G (140 + 3 * i) 10)) (((ii (pk G (140 + 3 * i) 10) + 1) + ii (pk G (141 + 3 * i) 9)) - ((ii (pk G (140 + 3 * i) 10) + 1) + ii (pk G (141 + 3 * i) 9)) / 10 * 10) (200 + ii (pk G (142 + 3 * i) 301)) (ii (bI (prt G i))) := by
                refine hJ4 _ _ _ _ _ _ (told_of rfl ?_)
                refine ⟨by omega, by omega, ?_⟩
                have x1 : (ii (pk G (140 + 3 * i) 10) + 1) + ii (pk G (141 + 3 * i) 9) = ii (pk G (140 + 3 * i) 10 + 1 + pk G (141 + 3 * i) 9) := by rw [il_1, ii_add, ii_add]
                have x2 : (200 : Int32) + ii (pk G (142 + 3 * i) 301) = ii (200 + pk G (142 + 3 * i) 301) := by rw [il_200, ii_add]
                rw [x1, mod_of (m := 10) (by omega) ⟨by omega, by omega⟩ ⟨by decide, by decide⟩ il_10, x2]
                refine deed_2 (P.o (k := 0) rfl) (b := prt G i) rfl ?_
                have y1 : vsi S (pk G (140 + 3 * i) 10) := ⟨by omega, by omega⟩
                have y2 : vsi S ((pk G (140 + 3 * i) 10 + 1 + pk G (141 + 3 * i) 9) % ((10 : Nat) : Int)) := ⟨by omega, by omega⟩
                refine P.c_addStation L.1 L.2.2.1 ⟨by omega, by omega⟩ ⟨by omega, by omega⟩ ⟨by omega, by omega⟩ (fun _ _ _ _ _ A3 h3 P3 a3 k3 => ?_) (fun z => absurd ⟨y1, y2⟩ z) (fun _ _ z => absurd ⟨by omega, by omega, by omega⟩ z) (fun _ _ _ _ z => absurd (by omega) z)
                refine pick_of (i := 170 + i) (m := 60) hL (by omega) ⟨by decide, by decide⟩ (by rw [show (170 : Int32) = ii 170 by decide, ii_add]; exact congrArg ii (by omega)) il_60 (fun b0 b1 => ?_)
                refine ⟨by omega, by omega, ?_⟩
                rw [← a3.1]
                refine deed_10 (P3.o (k := 0) rfl) ?_
                have y3 : vst (lsu S 51 70 (statR (S 51 2) (pk G (140 + 3 * i) 10) ((pk G (140 + 3 * i) 10 + 1 + pk G (141 + 3 * i) 9) % ((10 : Nat) : Int)) (200 + pk G (142 + 3 * i) 301) (bI (prt G i)))) (i : Int) := ⟨by omega, by rw [lsu_2]; omega⟩
                refine P3.c_setAsked k3 (rg_n (by omega)) ⟨by omega, by omega⟩ (fun _ _ h4 P4 => ?_) (fun z => absurd y3 z) (fun _ z => absurd ⟨by omega, by omega⟩ z)
                exact ih A3 _ h4 _ _ P4 (a3.1.trans e2) (L.st (by omega) k3) (by omega) (by omega)
              refine ⟨fun z => ?_, fun z => ?_⟩
              · rw [il_0, ii_le ⟨by omega, by omega⟩ ⟨by omega, by omega⟩] at z
                have e : prt G i = false := decide_eq_false (by omega)
                rw [e] at fin
                exact fin
              · rw [il_0, ii_le ⟨by omega, by omega⟩ ⟨by omega, by omega⟩] at z
                have e : prt G i = true := decide_eq_true (by omega)
                rw [e] at fin
                exact fin
          exact m3 0 (by decide) A1 S h uc us P e1 L (by omega) (by omega)
        · intro i hi ih A1 S h uc us P e1 L hu hs
          refine hJ2 _ _ _ _ ?_
          rw [lei (m := 10) (by decide) (by decide) (by omega), ii_inc' i, ← e1]
          refine ⟨fun z => absurd z (by omega), fun _ => ?_⟩
          refine pick_of (i := 100 + 3 * i) (m := 20) hL (by omega) ⟨by decide, by decide⟩ (by rw [il_100, il_3, ii_mul, ii_add]; exact congrArg ii (by omega)) il_20 (fun a0 a1 => ?_)
          refine pick_of (i := 99) (m := 20) hL (by omega) ⟨by decide, by decide⟩ (by decide) il_20 (fun b0 b1 => ?_)
          refine pick_of (i := 101 + 3 * i) (m := (pk G 99 20).toNat + 1) hL (by omega) ⟨by omega, by omega⟩ (by rw [show (101 : Int32) = ii 101 by decide, il_3, ii_mul, ii_add]; exact congrArg ii (by omega)) (by rw [il_1, ii_add]; exact congrArg ii (by omega)) (fun d0 d1 => ?_)
          refine pick_of (i := 102 + 3 * i) (m := 100) hL (by omega) ⟨by decide, by decide⟩ (by rw [show (102 : Int32) = ii 102 by decide, il_3, ii_mul, ii_add]; exact congrArg ii (by omega)) il_100 (fun g0 g1 => ?_)
          refine ⟨by omega, by omega, ?_⟩
          have l5 := L.2.2.2.2.1
          refine deed_1 (P.o (k := 0) rfl) ?_
          refine P.c_addSite L.1 L.2.1 L.2.2.1 ⟨by omega, by omega⟩ ⟨by omega, by omega⟩ ⟨by omega, by omega⟩ (fun _ _ _ _ A2 S2 h2 P2 a2 k2 d2 f2 => ?_) (fun z => absurd ⟨⟨by omega, by omega⟩, by omega, by omega⟩ z) (fun _ _ z => absurd ⟨by omega, by omega⟩ z) (fun _ _ _ z => absurd (by omega) z)
          exact ih A2 S2 h2 _ _ P2 (a2.1.trans e1) (L.si (by omega) k2 d2 f2) (by omega) (by omega)
      exact m2 0 (by decide) A S h uc us P rfl L (by omega) (by omega)
    · intro i hi ih S h uc us P L hu hs
      refine hJ _ _ _ _ ?_
      rw [lei (m := 30) (by decide) (by decide) (by omega), ii_inc' i]
      refine ⟨fun z => absurd z (by omega), fun _ => ?_⟩
      refine pick_of (i := 3 * i) (m := 20) hL (by omega) ⟨by decide, by decide⟩ (by rw [il_3, ii_mul]; exact congrArg ii (by omega)) il_20 (fun a0 a1 => ?_)
      refine pick_of (i := 3 * i + 1) (m := 20) hL (by omega) ⟨by decide, by decide⟩ (by rw [il_3, il_1, ii_mul, ii_add]; exact congrArg ii (by omega)) il_20 (fun b0 b1 => ?_)
      refine pick_of (i := 3 * i + 2) (m := 100) hL (by omega) ⟨by decide, by decide⟩ (by rw [il_3, il_2, ii_mul, ii_add]; exact congrArg ii (by omega)) il_100 (fun d0 d1 => ?_)
      refine ⟨by omega, by omega, ?_⟩
      refine deed_0 (P.o (k := 0) rfl) ?_
      refine P.c_setGround L.1 L.2.1 L.c32 ⟨by omega, by omega⟩ ⟨by omega, by omega⟩ ⟨by omega, by omega⟩ (fun _ _ _ _ S1 h1 P1 k1 d1 f1 _ => ?_) (fun z => absurd ⟨⟨by omega, by omega⟩, by omega, by omega⟩ z) (fun _ _ z => absurd ⟨by omega, by omega⟩ z) (fun _ _ _ z => absurd L.off z)
      exact ih S1 h1 _ _ P1 (L.gr k1 d1 f1 rfl) (by omega) (by omega)
  exact m1 0 (by decide) S0i h 0 0 P0 LB_0 (by decide) (by decide)
end BLD
