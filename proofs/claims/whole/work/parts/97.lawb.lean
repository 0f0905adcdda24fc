/-! the law: shares and levels -/
section LWB
variable {G : Gx} {A : Nat → Nat} {B : Nat → Nat → Nat} {S : Nat → Nat → Int} {h : hw} {c : Nat}
theorem Pic.dld (P : Pic G A B S h) {K : UInt64 → Prop} (q : K (UInt64.ofNat (S 91 0).toNat)) : ldD G h (A 91) 0 K :=
  ⟨1, _, P.1 91 _ rfl, by rw [il_0]; exact vp_ii (by decide) (by decide) (by decide), by rw [il_0, show ii (0 : Int) = ii ((0 : Nat) : Int) from rfl, ii_natN (by decide)]; exact q⟩
theorem Pic.dst (P : Pic G A B S h) {r : UInt64} {K : hw → Prop} (q : ∀ h', Pic G A B (su S 91 0 (r.toNat : Int)) h' → K h') : stD G h (A 91) 0 r K := by
  refine ⟨1, fun i => UInt64.ofNat (S 91 i).toNat, P.1 91 _ rfl, by rw [il_0]; exact vp_ii (by decide) (by decide) (by decide), ?_⟩
  rw [show (0 : Int32).toNatClampNeg = 0 from by rw [il_0, show ii (0 : Int) = ii ((0 : Nat) : Int) from rfl, ii_natN (by decide)]]
  refine q _ (P.wr (k0 := 91) ⟨by decide, by decide, by decide, by decide⟩ rfl (fun j hj => su_row _ _ hj) ?_)
  refine congrArg (fun w => some (Sum.inl (G.2.2.1.2.2.2.1, 1, Sum.inr (Sum.inr (Sum.inr (Sum.inl w)))))) ?_
  funext j
  unfold vf_upd su
  by_cases y : j = 0
  · rw [if_pos ⟨rfl, y⟩, if_pos y, Int.toNat_natCast, UInt64.ofNat_toNat]
  · rw [if_neg (fun w => y w.2), if_neg y]
theorem IV.s91 (I : IV S c) (v : Int) : IV (su S 91 0 v) c := I.of (fun k hk => su_row _ _ (fun z => hk (by unfold scr; omega))) (fun i _ => su_ne _ _ _ (by decide)) (I.pl.of (su_row _ _ (by decide)) (su_row _ _ (by decide))) (by rw [su_row _ _ (by decide)]; exact I.c39) (by rw [su_row _ _ (by decide)]; exact I.c49)
theorem cnt_ex2 {f : Nat → Bool} {n m : Nat} (h : n ≤ m) (hf : ∀ i, n ≤ i → i < m → f i = false) : cnt f m = cnt f n := by
  obtain ⟨d, rfl⟩ : ∃ d, m = n + d := ⟨m - n, by omega⟩
  clear h
  induction d with
  | zero => rfl
  | succ d ih =>
    show cnt f (n + d) + bI (f (n + d)) = _
    rw [ih (fun i a b => hf i a (by omega)), hf _ (by omega) (by omega)]; exact Int.add_zero _
theorem lvs_of {E : Nat → Nat → Int} {now now' : Nat → Int} {n : Nat} (h : ∀ j, j < n → now j = now' j) : lvs E now n = lvs E now' n := by
  induction n with
  | zero => rfl
  | succ n ih => unfold lvs; rw [ih (fun j hj => h j (by omega)), h n (by omega)]
/-- as many are on, by both -/
theorem on_eq (I : IV S c) {S2 : Nat → Nat → Int} (e113 : S2 113 = S 113) (eN : ntM S2 = nt (EC S)) (h8 : nt (EC S) ≤ 8) : cnt (onM S2) (ntM S2) = cnt (onf S) 8 := by
  rw [eN, cnt_ex2 (f := onf S) h8 (fun i a b => by unfold onf; rw [I.off i a b]; exact decide_eq_false (fun z => z rfl))]
  exact cnt_of (fun j hj => by unfold onM onf; rw [e113, I.now j (by omega)])
variable {N : Nat} {xs : Nat → Int32} {i : Int32} {uc us : Nat} {J : hw → Nat → Nat → Prop}
theorem Pic.w2201 (P : Pic G A B S h) (I : IV S c) (hu : uc + 70 ≤ 603072) (hv : us + 48 * c + 260 ≤ 7219306) (q : CK G (A 0) (A 80) (A 90) (A 91) c uc us J) : wp_law_2201 G N xs (A 0) (A 80) (A 90) (A 91) i h uc us J := by
  unfold wp_law_2201
  obtain ⟨h8, hn⟩ := nt8 I.ki
  have n4 := I.n4
  have eN : ntM S = nt (EC S) := by unfold ntM; rw [n4, hn]; rfl
  refine ⟨by omega, by omega, P.o (k := 0) rfl, ?_⟩
  refine P.c_meanLevel I.ki I.ri.2.2.2.1 (fun a => ?_) (fun a => ?_)
  · obtain ⟨r, hr⟩ : ∃ r, r = FP.ddiv (FP.i2d (ii (lvs (EC S) (S 32) (nt (EC S))))) (FP.i2d (ii (cnt (onf S) 8))) := ⟨_, rfl⟩
    rw [← hr]
    have cr := cnt_in (onf S) 8
    have dv : r.toNat % 2 ^ 63 ≤ 9218868437227405312 := by
      have := fl_div (ii (lvs (EC S) (S 32) (nt (EC S)))) (b := (cnt (onf S) 8).toNat) (by omega) (by omega)
      rw [show (((cnt (onf S) 8).toNat : Nat) : Int) = cnt (onf S) 8 by omega] at this
      rw [hr]; exact this
    refine P.dst (fun h2 P2 => ⟨P2.o (k := 80) rfl, ?_⟩)
    have I2 := I.s91 (r.toNat : Int)
    have e113 : su S 91 0 (r.toNat : Int) 113 = S 113 := su_row _ _ (by decide)
    have eN2 : ntM (su S 91 0 (r.toNat : Int)) = nt (EC S) := by rw [← eN]; unfold ntM; rw [su_ne _ _ _ (by decide)]
    have eE2 : EM (su S 91 0 (r.toNat : Int)) = EC S := by rw [← I.eE]; exact (I.mo.of (fun k hk => su_row _ _ (by omega))).2.1
    have on := on_eq I e113 eN2 h8
    refine P2.m_meanLevel I2.mo (fun _ h3 P3 => ?_) (fun a' => absurd (by rw [on] at a'; exact a') a)
    rw [on, eN2, eE2, e113, lvs_of (now' := S 32) (fun j hj => I.now j (by omega)), ← hr]
    refine ⟨P3.o (k := 80) rfl, P3.rI (k := 80) rfl rfl ?_⟩
    rw [su_at, ← il_0]
    refine ⟨fun _ J2 hJ2 => ⟨fun z => absurd rfl z, fun _ => P3.dld ?_⟩, fun z => absurd rfl z⟩
    rw [su_ne _ _ _ (by decide), su_at, Int.toNat_natCast, UInt64.ofNat_toNat]
    exact ⟨fun _ => hJ2 (q A B _ h3 _ _ P3 ⟨rfl, rfl, rfl, rfl⟩ (I2.s8 0).nx (by omega) (by omega)), fun z => absurd (fl_cmp dv) z⟩
  · refine ⟨fun _ => ⟨P.o (k := 80) rfl, ?_⟩, rfl⟩
    have on := on_eq I (S2 := S) rfl eN h8
    refine P.m_meanLevel I.mo (fun a' => absurd (by rw [on]; exact a) a') (fun _ h3 P3 => P3.endX I (Or.inl rfl) il_1 q (by omega) (by omega))
end LWB
