/-! the reference: a whole selling -/
section MSE
variable {G : Gx} {A : Nat → Nat} {B : Nat → Nat → Nat} {S S0 : Nat → Nat → Int} {h : hw}
/-- the rounds -/
theorem Pic.mloop (f : Nat) : ∀ {A : Nat → Nat} {B : Nat → Nat → Nat} {S : Nat → Nat → Int} {h : hw} (P : Pic G A B S h) (hM : MO S) (hP : PL S) {asks : Nat → Int} (hask : ∀ j, j < 8 → S 114 j = asks j) (har : ∀ j, j < 8 → rg (asks j)) {stp C at_ c : Int} (hC : 0 ≤ C ∧ C ≤ 8) (hat : 0 ≤ at_ ∧ at_ ≤ 9999) (hf : at_ < f) (hstp : 1 ≤ stp ∧ stp ≤ 999) {q0 q1 : Sst} (hJ0 : ∀ j, SJ q0 q1 j) (h0 : ∀ j, (q0.1 j || q0.2.1 j) = true → j < ntM S) (hs : SRm S q1) (hc : S 80 20 = c) {bc bs : Nat} {post : Int32 → hw → Prop} (q : ∀ S' h', Pic G A B S' h' → (∀ k, k ≠ 80 → ¬ ksm k → S' k = S k) → (∀ i, i ≠ 20 → S' 80 i = S 80 i) → PL S' → SRm S' (srun (EM S) C asks stp (ntM S) f q1 at_ c).1 → S' 80 20 = (srun (EM S) C asks stp (ntM S) f q1 at_ c).2.2 → ms_end G (A 80) (ii (srun (EM S) C asks stp (ntM S) f q1 at_ c).2.1) h' bc bs post), ∀ J290 : Int32 → Int32 → hw → Prop, (∀ (x5_21 : Int32) (x6_22 : Int32) (h23 : hw), (∀ J453 : Prop, ((ms_end G (A 80) x6_22 h23 bc bs post) → J453) → ((x5_21 ≤ 0 → J453) ∧ (¬ x5_21 ≤ 0 → ((x6_22 < ii stp → J453) ∧ (¬ x6_22 < ii stp → rdI h23 (A 80) 12 20 (fun v48 => wrF h23 (A 80) 12 20 (.int (v48 + 1)) (fun h49 => ms_rnd G (A 80) (ii stp) (ii C) x6_22 x5_21 h49 (fun x h => J290 x (x6_22 - ii stp) h)))))))) → J290 x5_21 x6_22 h23) → J290 (ii (cnt q1.2.1 8)) (ii at_) h := by
  induction f with
  | zero =>
    intro A B S h P hM hP asks hask har stp C at_ c hC hat hf hstp q0 q1 hJ0 h0 hs hc bc bs post q J290 hJ290
    exact absurd hf (by have := hat.1; omega)
  | succ f ih =>
    intro A B S h P hM hP asks hask har stp C at_ c hC hat hf hstp q0 q1 hJ0 h0 hs hc bc bs post q J290 hJ290
    obtain ⟨n8, n4, n5⟩ := ntM_8 hM
    have SN : ∀ j, _ := fun j => SJ_n (hJ0 j) (ntM S) (h0 j)
    have ae := any_ext (f := q1.2.1) n8 (fun j hj => (SN j).2 hj)
    have c8 := cnt_in q1.2.1 8
    apply hJ290
    intro J453 hJ453
    have stop : ¬ (anyb q1.2.1 (ntM S) && decide (stp ≤ at_)) = true → J453 := fun z => by
      apply hJ453
      rw [srun_end z] at q
      exact q S h P (fun _ _ _ => rfl) (fun _ _ => rfl) hP hs hc
    rw [il_0, ii_le ⟨by omega, by omega⟩ ⟨by decide, by decide⟩]
    refine ⟨fun z => stop (fun w => ?_), fun z => ?_⟩
    · rw [Bool.and_eq_true, ae, cnt_any] at w; omega
    · rw [ii_lt ⟨by omega, by omega⟩ ⟨by omega, by omega⟩]
      refine ⟨fun w => stop (fun u => ?_), fun w => ?_⟩
      · rw [Bool.and_eq_true, decide_eq_true_eq] at u; omega
      · have go : (anyb q1.2.1 (ntM S) && decide (stp ≤ at_)) = true := by
          rw [Bool.and_eq_true, decide_eq_true_eq, ae, cnt_any]; omega
        have es : srun (EM S) C asks stp (ntM S) (f + 1) q1 at_ c = srun (EM S) C asks stp (ntM S) f (srnd (EM S) C asks at_ (at_ - stp) q1 (ntM S)) (at_ - stp) (c + 1) := if_pos go
        rw [es] at q
        refine P.rI (k := 80) rfl rfl ?_
        rw [hc, show ii c + 1 = ii (c + 1) from ii_add c 1]
        refine P.wF (k := 80) (z := c + 1) ⟨by decide, by decide, by decide, by decide⟩ rfl (by show 20 < 36; decide) rfl (fun h1 P1 => ?_)
        have f1 : ∀ k, k ≠ 80 → su S 80 20 (c + 1) k = S k := fun k hk => su_row _ _ hk
        obtain ⟨hM1, eE1, eN1⟩ := hM.ofi (S' := su S 80 20 (c + 1)) (fun k _ _ => f1 k (by omega)) (fun i _ _ => su_nei _ _ _ (by omega))
        refine P1.mrnd hM1 (hP.of (f1 130 (by decide)) (f1 131 (by decide))) (asks := asks) (fun j hj => by rw [f1 114 (by decide)]; exact hask j hj) har hC hat ⟨hstp.1, by omega⟩ hJ0 (fun j hj => by rw [eN1]; exact h0 j hj) ⟨fun j hj => by rw [f1 123 (by decide)]; exact hs.1 j hj, fun j hj => by rw [f1 134 (by decide)]; exact hs.2.1 j hj, fun j hj => by rw [f1 122 (by decide)]; exact hs.2.2 j hj⟩ (fun S2 h2 P2 m1 m2 m3 => ?_)
        rw [eE1, eN1] at m3
        rw [eE1, eN1, ii_sub]
        have e80 : ∀ i, i ≠ 20 → S2 80 i = S 80 i := fun i hi => by rw [m1 80 (fun z => by unfold ksm at z; omega), su_nei _ _ _ hi]
        have f2 : ∀ k, k ≠ 80 → ¬ ksm k → S2 k = S k := fun k a b => by rw [m1 k b, f1 k a]
        obtain ⟨hM2, eE2, eN2⟩ := hM.ofi (S' := S2) (fun k _ _ => f2 k (by omega) (fun z => by unfold ksm at z; omega)) (fun i _ _ => e80 i (by omega))
        refine ih P2 hM2 m2 (asks := asks) (fun j hj => by rw [f2 114 (by decide) (fun z => by unfold ksm at z; omega)]; exact hask j hj) har hC (at_ := at_ - stp) (c := c + 1) ⟨by omega, by omega⟩ (by omega) hstp (fun j => SJ_rnd hat (hJ0 j) (ntM S)) (fun j hj => by rw [eN2]; exact h0 j hj) m3 (by rw [m1 80 (fun z => by unfold ksm at z; omega), su_at]) (fun S3 h3 P3 g1 g2 g3 g4 g5 => ?_) J290 hJ290
        rw [eE2, eN2] at g4 g5
        rw [eE2, eN2]
        exact q S3 h3 P3 (fun k a b => by rw [g1 k a b, f2 k a b]) (fun i hi => by rw [g2 i hi, e80 i hi]) g3 g4 g5
/-- the end: who is still in gets the price; who got one is off -/
theorem Pic.mend (P : Pic G A B S h) (hM : MO S) (rm : RM S0 S) (rt0 : ∀ s, s < 8 → S (170 + s) = S0 (170 + s)) (hl0 : ∀ t, t < ntM S → LI S0 t) (eN0 : ntM S = ntM S0) (hday : 0 ≤ S 80 1 ∧ S 80 1 ≤ 100000) (hcap : ∀ t, t < 8 → S0 (170 + t) 3 ≤ 4000) {bc bs : Nat} (hroom : ∀ (S' : Nat → Nat → Int) (uc us : Nat), RT S0 S' uc us → uc ≤ bc ∧ us ≤ bs) {R : Sst × Int × Int} (hs : SRm S R.1) (hr : ∀ j, -1 ≤ spr R j ∧ spr R j ≤ 9999) (hr2 : ∀ j, ntM S ≤ j → R.1.2.1 j = false) {post : Int32 → hw → Prop} (q : ∀ A' B' S' h' uc us, Pic G A' B' S' h' → (∀ k, k < 180 → A' k = A k) → (∀ k, ¬ kM k → k ≠ 122 → S' k = S k) → (∀ j, j < 8 → S' 122 j = spr R j) → (∀ j, S' 113 j = if j < ntM S ∧ spr R j ≠ -1 then -1 else S 113 j) → RM S0 S' → RT S0 S' uc us → post (ii (cnt (fun j => decide (spr R j ≠ -1)) (ntM S))) h') : ms_end G (A 80) (ii R.2.1) h bc bs post := by
  obtain ⟨n8, n4, n5⟩ := ntM_8 hM
  intro J459 hJ459
  have main : ∀ i : Nat, i ≤ ntM S → ∀ (A' : Nat → Nat) (B' : Nat → Nat → Nat) (S' : Nat → Nat → Int) (h' : hw) (uc us : Nat), Pic G A' B' S' h' → (∀ k, k < 180 → A' k = A k) → (∀ k, ¬ kM k → k ≠ 122 → S' k = S k) → (∀ j, j < 8 → S' 122 j = if j < i then spr R j else R.1.2.2 j) → (∀ j, S' 113 j = if j < i ∧ spr R j ≠ -1 then -1 else S 113 j) → RM S0 S' → RT S0 S' uc us → MO S' → (∀ j, i ≤ j → j < 8 → S' (170 + j) = S0 (170 + j)) → J459 (ii (cnt (fun j => decide (spr R j ≠ -1)) i)) (ii (i : Int)) h' uc us := by
    intro i hi
    refine lp_up (J := fun i : Nat => ∀ (A' : Nat → Nat) (B' : Nat → Nat → Nat) (S' : Nat → Nat → Int) (h' : hw) (uc us : Nat), Pic G A' B' S' h' → (∀ k, k < 180 → A' k = A k) → (∀ k, ¬ kM k → k ≠ 122 → S' k = S k) → (∀ j, j < 8 → S' 122 j = if j < i then spr R j else R.1.2.2 j) → (∀ j, S' 113 j = if j < i ∧ spr R j ≠ -1 then -1 else S 113 j) → RM S0 S' → RT S0 S' uc us → MO S' → (∀ j, i ≤ j → j < 8 → S' (170 + j) = S0 (170 + j)) → J459 (ii (cnt (fun j => decide (spr R j ≠ -1)) i)) (ii (i : Int)) h' uc us) (n := ntM S) ?_ ?_ hi
    · intro A' B' S' h' uc us P' a1 m1 m2 m3 m4 m5 m6 m7
      have r := hroom _ _ _ m5
      have e80 : S' 80 = S 80 := m1 80 (fun z => by unfold kM at z; omega) (by decide)
      apply hJ459
      rw [← a1 80 (by decide)]
      refine P'.rI (k := 80) rfl rfl ?_
      rw [e80, n4, ii_le ⟨by omega, by omega⟩ ⟨by omega, by omega⟩]
      refine ⟨fun _ => ⟨r.1, r.2, q A' B' S' h' uc us P' a1 m1 (fun j hj => ?_) m3 m4 m5⟩, fun z => absurd (Int.le_refl _) z⟩
      rw [m2 j hj]
      by_cases w : j < ntM S
      · rw [if_pos w]
      · rw [if_neg w]; unfold spr; rw [if_neg (fun z => by rw [hr2 j (by omega)] at z; cases z)]
    · intro i hi ih A' B' S' h' uc us P' a1 m1 m2 m3 m4 m5 m6 m7
      have e80 : S' 80 = S 80 := m1 80 (fun z => by unfold kM at z; omega) (by decide)
      have eN : ntM S' = ntM S := by unfold ntM; rw [e80]
      have ri := hr i
      have e134 : S' 134 i = bI (R.1.2.1 i) := by rw [m1 134 (fun z => by unfold kM at z; omega) (by decide)]; exact hs.2.1 i (by omega)
      have e122 : S' 122 i = R.1.2.2 i := by rw [m2 i (by omega), if_neg (by omega)]
      apply hJ459
      rw [← a1 80 (by decide)]
      refine P'.rI (k := 80) rfl rfl ?_
      rw [e80, n4, ii_le ⟨by omega, by omega⟩ ⟨by omega, by omega⟩]
      refine ⟨fun z => absurd z (by omega), fun _ => ?_⟩
      refine P'.rR (k := 80) rfl rfl ?_
      refine P'.zd (k := 134) (i := i) ⟨by decide, by decide, rfl, rfl⟩ rfl (show _ < 8 by omega) ?_
      intro J496 hJ496
      have go : J496 (A' 122) (ii (i : Int)) (ii (spr R i)) := by
        apply hJ496
        refine P'.mst (k := 122) (i := i) (z := spr R i) (by decide) (by decide) rfl rfl rfl (show _ < 8 by omega) (fun h2 P2 => ?_)
        refine P2.md (k := 122) (i := i) ⟨by decide, by decide, rfl, rfl⟩ rfl (show _ < 8 by omega) ?_
        have f2 : ∀ k, k ≠ 122 → su S' 122 i (spr R i) k = S' k := fun k hk => su_row _ _ hk
        have m22 : ∀ j, j < 8 → su S' 122 i (spr R i) 122 j = if j < i + 1 then spr R j else R.1.2.2 j := fun j hj => by
          by_cases w : j = i
          · subst w; rw [su_at, if_pos (by omega)]
          · rw [su_nei _ _ _ w, m2 j hj]; exact ite_iff (by omega)
        obtain ⟨hM2, eE2, eN2⟩ := m6.of (S' := su S' 122 i (spr R i)) (fun k hk => f2 k (by omega))
        have rm2 : RM S0 (su S' 122 i (spr R i)) := RM.of (S1 := S') (fun k hk => f2 k (by omega)) (by rw [f2 80 (by decide)]) (by rw [f2 80 (by decide)]) m4
        have rt2 : RT S0 (su S' 122 i (spr R i)) uc us := m5.of (fun t ht => f2 _ (by omega))
        have ec : cnt (fun j => decide (spr R j ≠ -1)) (i + 1) = cnt (fun j => decide (spr R j ≠ -1)) i + bI (decide (spr R i ≠ -1)) := rfl
        rw [ec] at ih
        intro J518 hJ518
        rw [su_at, il_m1, ii_eq ⟨by omega, by omega⟩ ⟨by decide, by decide⟩]
        refine ⟨fun w => ?_, fun w => ?_⟩
        · apply hJ518; rw [ii_inc']
          rw [decide_eq_false (p := spr R i ≠ -1) (fun z => z w)] at ih
          have ih : _ := ih A' B' _ h2 uc us P2 a1 (fun k a b => by rw [f2 k b, m1 k a b]) m22 (fun j => ?_) rm2 rt2 hM2 (fun j hj h8 => by rw [f2 _ (by omega)]; exact m7 j (by omega) h8)
          · rw [show cnt (fun j => decide (spr R j ≠ -1)) i + bI false = cnt (fun j => decide (spr R j ≠ -1)) i from Int.add_zero _] at ih; exact ih
          · rw [f2 113 (by decide), m3 j]
            by_cases y : j = i
            · subst y; rw [if_neg (fun z => z.2 w), if_neg (fun z => z.2 w)]
            · exact ite_iff ⟨fun z => ⟨by omega, z.2⟩, fun z => ⟨by omega, z.2⟩⟩
        · rw [decide_eq_true w] at ih
          refine P2.mset2 hM2 rm2 rt2 (fun t ht => hl0 t (by rw [eN2, eN] at ht; exact ht)) (by rw [eN2, eN]; exact eN0) (s := i) (by rw [eN2, eN]; exact hi) (by rw [f2 _ (by omega), m7 i (Nat.le_refl _) (by omega)]; omega) (c := -1) ⟨by decide, by decide⟩ (by rw [f2 80 (by decide), e80]; exact hday) hcap hroom rfl rfl (post := J518 (ii (cnt (fun j => decide (spr R j ≠ -1)) i) + 1)) (fun A3 B3 S3 h3 uc3 us3 P3 a3 g1 g2 g3 g4 g5 g6 g7 => ?_)
          apply hJ518; rw [ii_inc', show ii (cnt (fun j => decide (spr R j ≠ -1)) i) + 1 = ii (cnt (fun j => decide (spr R j ≠ -1)) i + bI true) from ii_add _ 1]
          refine ih A3 B3 S3 h3 uc3 us3 P3 (fun k hk => by rw [a3 k hk, a1 k hk]) (fun k a b => by rw [g1 k a, f2 k b, m1 k a b]) (fun j hj => by rw [g1 122 (fun z => by unfold kM at z; omega)]; exact m22 j hj) (fun j => ?_) g3 g4 g5 (fun j hj h8 => by rw [g7 j h8 (by omega), f2 _ (by omega)]; exact m7 j (by omega) h8)
          rw [g2, f2 113 (by decide)]; unfold up
          by_cases y : j = i
          · subst y; rw [if_pos rfl, if_pos ⟨by omega, w⟩]
          · rw [if_neg y, m3 j]; exact ite_iff ⟨fun z => ⟨by omega, z.2⟩, fun z => ⟨by omega, z.2⟩⟩
      rw [e134, bI_1, bI_0]
      refine ⟨fun w => ?_, fun w => ?_⟩
      · refine P'.md (k := 122) (i := i) ⟨by decide, by decide, rfl, rfl⟩ rfl (show _ < 8 by omega) ?_
        rw [e122]
        have e : spr R i = R.1.2.2 i := by unfold spr; rw [if_neg (fun z => by rw [w] at z; cases z)]
        rw [e] at go; exact go
      · have e : spr R i = R.2.1 := by unfold spr; rw [if_pos w]
        rw [e] at go; exact go
  refine main 0 (by omega) A B S h 0 0 P (fun _ _ => rfl) (fun _ _ _ => rfl) (fun j hj => by rw [if_neg (by omega)]; exact hs.2.2 j hj) (fun j => by rw [if_neg (fun z => by omega)]) rm (RT.base.of rt0) hM (fun j _ hj => rt0 j hj)
end MSE
