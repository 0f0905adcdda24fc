/-! the law: setForeign -/
section LWA
variable {G : Gx} {A : Nat → Nat} {B : Nat → Nat → Nat} {S : Nat → Nat → Int} {h : hw} {c : Nat}
variable {N : Nat} {xs : Nat → Int32} {i : Int32} {uc us : Nat} {J : hw → Nat → Nat → Prop}
theorem Pic.w1050 (P : Pic G A B S h) (I : IV S c) (v1 : vp_in (i + 1) N) (v2 : vp_in (i + 2) N) (hu : uc + 70 ≤ 603072) (hv : us + 48 * c + 260 ≤ 7219306) (q : CK G (A 0) (A 80) (A 90) (A 91) c uc us J) : wp_law_1050 G N xs (A 0) (A 80) (A 90) (A 91) i h uc us J := by
  obtain ⟨z1, e1, r1⟩ := ii_ex (xs (Int32.toNatClampNeg (i + 1)))
  unfold wp_law_1050
  rw [e1]
  generalize xs (Int32.toNatClampNeg (i + 2)) = y
  refine ⟨v1, v2, fun J1 hJ1 => ?_⟩
  have sel : ∀ {K : Nat → Int32 → Int32 → Prop} {p : Nat} {b : Bool}, (y = 0 ↔ b = false) → K p (ii z1) (ii (bI b)) → ((y = 0 → K p (ii z1) 0) ∧ (¬ y = 0 → K p (ii z1) 1)) := fun {K p b} hb fin => by
    cases b with
    | false => exact ⟨fun _ => by rw [show ii (bI false) = 0 by decide] at fin; exact fin, fun z => absurd (hb.mpr rfl) z⟩
    | true => exact ⟨fun z => (by have := hb.mp z; cases this), fun _ => by rw [show ii (bI true) = 1 by decide] at fin; exact fin⟩
  have go : ∀ b : Bool, (y = 0 ↔ b = false) → J1 (A 0) (ii z1) (ii (bI b)) := fun b hb => by
    apply hJ1
    refine ⟨by omega, by omega, P.o (k := 0) rfl, ?_⟩
    refine P.c_setFor I.br r1 (b := b) (fun a h1 P1 => ?_) (fun a => ?_)
    · obtain ⟨v, ev⟩ : ∃ v, v = z1.toNat := ⟨_, rfl⟩
      have hv8 : v < 8 := by omega
      rw [← ev] at P1 ⊢
      obtain ⟨b0, hb0⟩ : ∃ b0, S 36 v = bI b0 := by
        rcases I.br.1 v hv8 with w | w
        · exact ⟨false, w⟩
        · exact ⟨true, w⟩
      refine P1.outBr (b := b0) (by rw [hb0]) (fun h2 P2 => ⟨v1, v2, fun J2 hJ2 => sel hb (hJ2 _ _ _ ?_)⟩)
      obtain ⟨S2, hS2⟩ : ∃ S2, S2 = su (su S 36 v (bI b)) 90 0 (bI b0) := ⟨_, rfl⟩
      rw [← hS2] at P2
      have f2 : ∀ k, k ≠ 36 → k ≠ 90 → S2 k = S k := fun k x w => by rw [hS2, su_row _ _ w, su_row _ _ x]
      have bm2 : BM S2 := by unfold BM; rw [f2 116 (by decide) (by decide), f2 117 (by decide) (by decide), f2 118 (by decide) (by decide), f2 80 (by decide) (by decide)]; exact I.bm
      refine ⟨P2.o (k := 80) rfl, P2.m_setFor bm2 r1 (b := b) (fun _ h3 P3 => ?_) (fun a' => absurd a a')⟩
      rw [← ev] at P3 ⊢
      rw [show S2 116 v = bI b0 by rw [f2 116 (by decide) (by decide), I.b36 v hv8, hb0]]
      have f3 : ∀ k, k ≠ 36 → k ≠ 90 → k ≠ 80 → k ≠ 116 → su (su S2 80 0 0) 116 v (bI b) k = S k := fun k x w y z => by rw [su_row _ _ z, su_row _ _ y, f2 k x w]
      have e36 : su (su S2 80 0 0) 116 v (bI b) 36 = su S 36 v (bI b) 36 := by rw [su_row _ _ (by decide), su_row _ _ (by decide), hS2, su_row _ _ (by decide)]
      refine P3.tlB (b := b0) (by rw [su_ne _ _ _ (by decide), su_at]) (by rw [su_ne _ _ _ (by decide), su_ne _ _ _ (by decide), hS2, su_at]) rfl (q A B _ h3 _ _ P3 ⟨rfl, rfl, rfl, rfl⟩ (IV.nx (I.bo (fun k x1 x2 x3 x4 x5 x6 hk => f3 k x1 (fun z => hk (by unfold scr; omega)) (fun z => hk (by unfold scr; omega)) x4) (fun i hi => ?_) (I.pl.of (f3 130 (by decide) (by decide) (by decide) (by decide)) (f3 131 (by decide) (by decide) (by decide) (by decide))) (by rw [f3 39 (by decide) (by decide) (by decide) (by decide)]; exact I.c39) (by rw [f3 49 (by decide) (by decide) (by decide) (by decide)]; exact I.c49) (fun i hi => ?_) (fun i hi => ?_) (fun i hi => ?_))) (by omega) (by omega))
      · rw [su_ne _ _ _ (by decide), su_nei _ _ _ hi, f2 80 (by decide) (by decide)]
      · rw [e36]
        by_cases w : i = v
        · subst w; rw [su_at, su_at]; exact ⟨b01 b, rfl⟩
        · rw [su_nei _ _ _ w, su_nei _ _ _ w, su_ne (k := 80) (k' := 116) _ _ _ (by decide), f2 116 (by decide) (by decide)]
          exact ⟨I.br.1 i hi, I.b36 i hi⟩
      · rw [f3 37 (by decide) (by decide) (by decide) (by decide), f3 117 (by decide) (by decide) (by decide) (by decide)]
        exact ⟨I.br.2.1 i hi, I.b37 i hi⟩
      · rw [f3 38 (by decide) (by decide) (by decide) (by decide), f3 118 (by decide) (by decide) (by decide) (by decide)]
        exact ⟨I.br.2.2.1 i hi, I.b38 i hi⟩
    · refine ⟨fun _ => ⟨v1, v2, fun J2 hJ2 => sel hb (hJ2 _ _ _ ⟨P.o (k := 80) rfl, ?_⟩)⟩, rfl⟩
      exact P.m_setFor I.bm r1 (b := b) (fun a' => absurd a' a) (fun a' h3 P3 => P3.endX I (Or.inl rfl) il_1 q (by omega) (by omega))
  by_cases z : y = 0
  · exact sel (b := false) ⟨fun _ => rfl, fun _ => z⟩ (go false ⟨fun _ => rfl, fun _ => z⟩)
  · exact sel (b := true) ⟨fun w => absurd w z, fun w => by cases w⟩ (go true ⟨fun w => absurd w z, fun w => by cases w⟩)
end LWA
