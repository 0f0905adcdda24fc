/-! the law: onShare -/
section LWC
variable {G : Gx} {A : Nat → Nat} {B : Nat → Nat → Nat} {S : Nat → Nat → Int} {h : hw} {c : Nat}
variable {N : Nat} {xs : Nat → Int32} {i : Int32} {uc us : Nat} {J : hw → Nat → Nat → Prop}
theorem Pic.w2135 (P : Pic G A B S h) (I : IV S c) (hu : uc + 70 ≤ 603072) (hv : us + 48 * c + 260 ≤ 7219306) (q : CK G (A 0) (A 80) (A 90) (A 91) c uc us J) : wp_law_2135 G N xs (A 0) (A 80) (A 90) (A 91) i h uc us J := by
  unfold wp_law_2135
  obtain ⟨h8, hn⟩ := nt8 I.ki
  have n4 := I.n4
  have eN : ntM S = nt (EC S) := by unfold ntM; rw [n4, hn]; rfl
  refine ⟨by omega, by omega, P.o (k := 0) rfl, ?_⟩
  refine P.c_onShare I.ki I.ri.2.2.2.1 (fun a => ?_) (fun a => ?_)
  · obtain ⟨r, hr⟩ : ∃ r, r = FP.fdiv (FP.i2f (ii (cnt (onf S) 8))) (FP.i2f (ii (S 51 2))) := ⟨_, rfl⟩
    rw [← hr]
    have cr := cnt_in (onf S) 8
    have dv : (FP.f2d r).toNat % 2 ^ 63 ≤ 9218868437227405312 := by
      have := (fl_share (cnt (onf S) 8).toNat (by omega) (S 51 2).toNat (by omega) (by omega)).2
      rw [show (((cnt (onf S) 8).toNat : Nat) : Int) = cnt (onf S) 8 by omega, show (((S 51 2).toNat : Nat) : Int) = S 51 2 by omega] at this
      rw [hr]; exact this
    refine ⟨fl_n64 dv, P.dst (fun h2 P2 => ⟨P2.o (k := 80) rfl, ?_⟩)⟩
    have I2 := I.s91 ((FP.f2d r).toNat : Int)
    have e113 : su S 91 0 ((FP.f2d r).toNat : Int) 113 = S 113 := su_row _ _ (by decide)
    have eN2 : ntM (su S 91 0 ((FP.f2d r).toNat : Int)) = nt (EC S) := by rw [← eN]; unfold ntM; rw [su_ne _ _ _ (by decide)]
    have e804 : su S 91 0 ((FP.f2d r).toNat : Int) 80 4 = S 51 2 := by rw [su_ne _ _ _ (by decide), n4]
    have on := on_eq I e113 eN2 h8
    refine P2.m_onShare I2.mo (fun _ h3 P3 => ?_) (fun a' => absurd (by rw [e804] at a'; exact a') a)
    rw [on, e804, ← hr]
    refine ⟨P3.o (k := 80) rfl, P3.rI (k := 80) rfl rfl ?_⟩
    rw [su_at, ← il_0]
    refine ⟨fun _ J2 hJ2 => ⟨fun z => absurd rfl z, fun _ => P3.dld ⟨fl_n64 dv, ?_⟩⟩, fun z => absurd rfl z⟩
    rw [su_ne _ _ _ (by decide), su_at, Int.toNat_natCast, UInt64.ofNat_toNat]
    exact ⟨fun _ => hJ2 (q A B _ h3 _ _ P3 ⟨rfl, rfl, rfl, rfl⟩ (I2.s8 0).nx (by omega) (by omega)), fun z => absurd (fl_cmp dv) z⟩
  · refine ⟨fun _ => ⟨P.o (k := 80) rfl, ?_⟩, rfl⟩
    refine P.m_onShare I.mo (fun a' => absurd (by rw [n4]; exact a) a') (fun _ h3 P3 => P3.endX I (Or.inl rfl) il_1 q (by omega) (by omega))
end LWC
