/-! the reference: a selling, its rounds and its end -/
def ms_loop (G : Gx) (p0 : Nat) (p2 p3 x5_0 x6_0 : Int32) (h20 : hw) (bc bs : Nat) (post : Int32 → hw → Prop) : Prop := ∀ J290 : Int32 → Int32 → hw → Prop, (∀ (x5_21 : Int32) (x6_22 : Int32) (h23 : hw), (∀ J453 : Prop, ((∀ J459 : Int32 → Int32 → hw → Nat → Nat → Prop, (∀ (x7_24 : Int32) (x8_25 : Int32) (h26 : hw) (uc27 : Nat) (us28 : Nat), (rdI h26 p0 12 4 (fun v29 => ((v29 ≤ x8_25 → (uc27 ≤ bc ∧ us28 ≤ bs ∧ post x7_24 h26)) ∧ (¬ v29 ≤ x8_25 → rdR h26 p0 12 22 (fun v30 => rdR h26 p0 12 34 (fun v31 => ldZ G h26 v31 x8_25 (fun v32 => ∀ J496 : Nat → Int32 → Int32 → Prop, (∀ (t33 : Nat) (t34 : Int32) (t35 : Int32), (stI G h26 t33 t34 t35 (fun h36 => rdR h36 p0 12 22 (fun v37 => ldI G h36 v37 x8_25 (fun v38 => ∀ J518 : Int32 → hw → Nat → Nat → Prop, (∀ (x7_39 : Int32) (h40 : hw) (uc41 : Nat) (us42 : Nat), (J459 x7_39 (x8_25 + 1) h40 uc41 us42) → J518 x7_39 h40 uc41 us42) → ((v38 = (-1) → J518 x7_24 h36 uc27 us28) ∧ (¬ v38 = (-1) → ∃ bc43 bs44 : Nat, uc27 + bc43 ≤ bc ∧ us28 + bs44 ≤ bs ∧ (isO h36 p0 12 ∧ wp_X12_set G p0 x8_25 (-1) h36 bc43 bs44 (fun h45 => J518 (x7_24 + 1) h45 (uc27 + bc43) (us28 + bs44))))))))) → J496 t33 t34 t35) → ((v32 = 0 → rdR h26 p0 12 22 (fun v46 => ldI G h26 v46 x8_25 (fun v47 => J496 v30 x8_25 v47))) ∧ (¬ v32 = 0 → J496 v30 x8_25 x6_22))))))))) → J459 x7_24 x8_25 h26 uc27 us28) → J459 0 0 h23 0 0) → J453) → ((x5_21 ≤ 0 → J453) ∧ (¬ x5_21 ≤ 0 → ((x6_22 < p2 → J453) ∧ (¬ x6_22 < p2 → rdI h23 p0 12 20 (fun v48 => wrF h23 p0 12 20 (.int (v48 + 1)) (fun h49 => ∀ J314 : Int32 → Int32 → hw → Prop, (∀ (x5_50 : Int32) (x7_51 : Int32) (h52 : hw), (rdI h52 p0 12 4 (fun v53 => ((v53 ≤ x7_51 → J290 x5_50 (x6_22 - p2) h52) ∧ (¬ v53 ≤ x7_51 → rdR h52 p0 12 34 (fun v54 => ldZ G h52 v54 x7_51 (fun v55 => ∀ J438 : Int32 → hw → Prop, (∀ (x5_56 : Int32) (h57 : hw), (J314 x5_56 (x7_51 + 1) h57) → J438 x5_56 h57) → ((v55 = 0 → J438 x5_50 h52) ∧ (¬ v55 = 0 → (isO h52 p0 12 ∧ wp_X12_canStayToo G p0 x7_51 p3 h52 (fun r58 h59 => rdR h59 p0 12 22 (fun v60 => ∀ J359 : Nat → Int32 → Int32 → Prop, (∀ (t61 : Nat) (t62 : Int32) (t63 : Int32), (stI G h59 t61 t62 t63 (fun h64 => rdR h64 p0 12 23 (fun v65 => ∀ J390 : Nat → Int32 → Int32 → Prop, (∀ (t66 : Nat) (t67 : Int32) (t68 : Int32), (stZ G h64 t66 t67 t68 (fun h69 => rdR h69 p0 12 34 (fun v70 => ∀ J417 : Nat → Int32 → Int32 → Prop, (∀ (t71 : Nat) (t72 : Int32) (t73 : Int32), (stZ G h69 t71 t72 t73 (fun h74 => rdR h74 p0 12 34 (fun v75 => ldZ G h74 v75 x7_51 (fun v76 => ∀ J435 : Int32 → Int32 → Prop, (∀ (t77 : Int32) (t78 : Int32), (J438 (t77 - t78) h74) → J435 t77 t78) → ((v76 = 0 → J435 x5_50 1) ∧ (¬ v76 = 0 → J435 x5_50 0)))))) → J417 t71 t72 t73) → ∀ J416 : Nat → Int32 → Prop, (∀ (t79 : Nat) (t80 : Int32), (J417 t79 t80 0) → J416 t79 t80) → ((r58 = 0 → J416 v70 x7_51) ∧ (¬ r58 = 0 → rdR h69 p0 12 23 (fun v81 => ldZ G h69 v81 x7_51 (fun v82 => ((¬ v82 = 0 → J416 v70 x7_51) ∧ (v82 = 0 → J417 v70 x7_51 1))))))))) → J390 t66 t67 t68) → ∀ J389 : Nat → Int32 → Prop, (∀ (t83 : Nat) (t84 : Int32), (J390 t83 t84 0) → J389 t83 t84) → ((r58 = 0 → J389 v65 x7_51) ∧ (¬ r58 = 0 → rdR h64 p0 12 14 (fun v85 => ldI G h64 v85 x7_51 (fun v86 => ((v86 ≤ (x6_22 - p2) → J389 v65 x7_51) ∧ (¬ v86 ≤ (x6_22 - p2) → J390 v65 x7_51 1))))))))) → J359 t61 t62 t63) → ((r58 = 0 → J359 v60 x7_51 x6_22) ∧ (¬ r58 = 0 → J359 v60 x7_51 (-1)))))))))))))) → J314 x5_50 x7_51 h52) → J314 x5_21 0 h49))))))) → J290 x5_21 x6_22 h23) → J290 x5_0 x6_0 h20
theorem sstep_at {E : Nat → Nat → Int} {C : Int} {asks : Nat → Int} {at_ nx : Int} {k : Nat} {q : Sst} (h1 : q.2.1 k = true) (h2 : q.1 k = false) (h3 : q.2.2 k = -1) : (sstep E C asks at_ nx k q).1 k = (okb E C (bu q.1 k true) && decide (nx < asks k)) ∧ (sstep E C asks at_ nx k q).2.1 k = (okb E C (bu q.1 k true) && !decide (nx < asks k)) ∧ (sstep E C asks at_ nx k q).2.2 k = if okb E C (bu q.1 k true) = true then -1 else at_ := by
  unfold sstep
  rw [if_pos h1]
  by_cases o : okb E C (bu q.1 k true) = true
  · rw [if_pos o, if_pos o, o, Bool.true_and, Bool.true_and]
    by_cases w : nx < asks k
    · rw [if_pos w, decide_eq_true w]; exact ⟨bu_at, bu_at, h3⟩
    · rw [if_neg w, decide_eq_false w]; exact ⟨h2, h1, h3⟩
  · rw [if_neg o, if_neg o, Bool.eq_false_iff.mpr o, Bool.false_and, Bool.false_and]
    exact ⟨h2, bu_at, up_at⟩
theorem sstep_ne {E : Nat → Nat → Int} {C : Int} {asks : Nat → Int} {at_ nx : Int} {k j : Nat} {q : Sst} (h : j ≠ k) : (sstep E C asks at_ nx k q).1 j = q.1 j ∧ (sstep E C asks at_ nx k q).2.1 j = q.2.1 j ∧ (sstep E C asks at_ nx k q).2.2 j = q.2.2 j := by
  unfold sstep
  split
  · split
    · split
      · exact ⟨bu_ne h, bu_ne h, rfl⟩
      · exact ⟨rfl, rfl, rfl⟩
    · exact ⟨rfl, bu_ne h, up_ne h⟩
  · exact ⟨rfl, rfl, rfl⟩
theorem sstep_no {E : Nat → Nat → Int} {C : Int} {asks : Nat → Int} {at_ nx : Int} {k : Nat} {q : Sst} (h : q.2.1 k = false) : sstep E C asks at_ nx k q = q := by
  unfold sstep
  rw [if_neg (fun z => by rw [h] at z; cases z)]
theorem cnt_ch {f g : Nat → Bool} {n s : Nat} (hs : s < n) (h : ∀ i, i < n → i ≠ s → g i = f i) : cnt g n = cnt f n + (bI (g s) - bI (f s)) := by
  induction n with
  | zero => omega
  | succ n ih =>
    unfold cnt
    by_cases y : s = n
    · subst y
      rw [cnt_of (g := f) (fun i hi => h i (by omega) (by omega))]; omega
    · rw [ih (by omega) (fun i hi w => h i (by omega) w), h n (by omega) (by omega)]; omega
theorem cnt_ext {f : Nat → Bool} {n m : Nat} (h : n ≤ m) (hf : ∀ i, n ≤ i → f i = false) : cnt f m = cnt f n := by
  obtain ⟨d, rfl⟩ : ∃ d, m = n + d := ⟨m - n, by omega⟩
  clear h
  induction d with
  | zero => rfl
  | succ d ih =>
    show cnt f (n + d) + bI (f (n + d)) = _
    rw [ih, hf _ (by omega)]; exact Int.add_zero _
theorem any_ext {f : Nat → Bool} {n m : Nat} (h : n ≤ m) (hf : ∀ i, f i = true → i < n) : anyb f n = anyb f m := by
  cases e : anyb f m with
  | true => obtain ⟨i, _, w⟩ := anyb_t.mp e; exact anyb_t.mpr ⟨i, hf i w, w⟩
  | false =>
    cases e2 : anyb f n with
    | false => rfl
    | true => obtain ⟨i, a, w⟩ := anyb_t.mp e2; rw [anyb_t.mpr ⟨i, by omega, w⟩] at e; cases e
/-- who plays no part, plays none -/
theorem SJ_n {q0 q : Sst} {j : Nat} (h : SJ q0 q j) (n : Nat) (h0 : (q0.1 j || q0.2.1 j) = true → j < n) : (q.1 j = true → j < n) ∧ (q.2.1 j = true → j < n) := by
  cases e : (q0.1 j || q0.2.1 j) with
  | true => exact ⟨fun _ => h0 e, fun _ => h0 e⟩
  | false => have := h.2.2.2.1 e; exact ⟨(fun z => by rw [this.1] at z; cases z), (fun z => by rw [this.2.1] at z; cases z)⟩
def ksm (k : Nat) : Prop := k = 122 ∨ k = 123 ∨ k = 130 ∨ k = 131 ∨ k = 134
section MSR
variable {G : Gx} {A : Nat → Nat} {B : Nat → Nat → Nat} {S : Nat → Nat → Int} {h : hw}
theorem Pic.mrnd (P : Pic G A B S h) (hM : MO S) (hP : PL S) {asks : Nat → Int} (hask : ∀ j, j < 8 → S 114 j = asks j) (har : ∀ j, j < 8 → rg (asks j)) {stp C at_ : Int} (hC : 0 ≤ C ∧ C ≤ 8) (hat : 0 ≤ at_ ∧ at_ ≤ 9999) (hstp : 1 ≤ stp ∧ stp ≤ at_) {q0 q1 : Sst} (hJ0 : ∀ j, SJ q0 q1 j) (h0 : ∀ j, (q0.1 j || q0.2.1 j) = true → j < ntM S) (hs : SRm S q1) {K : Int32 → hw → Prop} (q : ∀ S' h', Pic G A B S' h' → (∀ k, ¬ ksm k → S' k = S k) → PL S' → SRm S' (srnd (EM S) C asks at_ (at_ - stp) q1 (ntM S)) → K (ii (cnt (srnd (EM S) C asks at_ (at_ - stp) q1 (ntM S)).2.1 8)) h') : ms_rnd G (A 80) (ii stp) (ii C) (ii at_) (ii (cnt q1.2.1 8)) h K := by
  obtain ⟨n8, n4, n5⟩ := ntM_8 hM
  obtain ⟨E, hE⟩ : ∃ E, E = EM S := ⟨_, rfl⟩
  rw [← hE] at q
  intro J hJ
  have main : ∀ i : Nat, i ≤ ntM S → ∀ (S' : Nat → Nat → Int) (h' : hw), Pic G A B S' h' → (∀ k, ¬ ksm k → S' k = S k) → PL S' → SRm S' (srnd E C asks at_ (at_ - stp) q1 i) → J (ii (cnt (srnd E C asks at_ (at_ - stp) q1 i).2.1 8)) (ii (i : Int)) h' := by
    intro i hi
    refine lp_up (J := fun i : Nat => ∀ (S' : Nat → Nat → Int) (h' : hw), Pic G A B S' h' → (∀ k, ¬ ksm k → S' k = S k) → PL S' → SRm S' (srnd E C asks at_ (at_ - stp) q1 i) → J (ii (cnt (srnd E C asks at_ (at_ - stp) q1 i).2.1 8)) (ii (i : Int)) h') (n := ntM S) ?_ ?_ hi
    · intro S' h' P' k1 k2 k3
      have e84 : S' 80 = S 80 := k1 80 (fun z => by unfold ksm at z; omega)
      apply hJ
      refine P'.rI (k := 80) rfl rfl ?_
      rw [e84, n4, ii_le ⟨by omega, by omega⟩ ⟨by omega, by omega⟩]
      exact ⟨fun _ => q S' h' P' k1 k2 k3, fun z => absurd (Int.le_refl _) z⟩
    · intro i hi ih S' h' P' k1 k2 k3
      have e84 : S' 80 = S 80 := k1 80 (fun z => by unfold ksm at z; omega)
      obtain ⟨qi, hqi⟩ : ∃ qi, qi = srnd E C asks at_ (at_ - stp) q1 i := ⟨_, rfl⟩
      have ih : ∀ (S' : Nat → Nat → Int) (h' : hw), Pic G A B S' h' → (∀ k, ¬ ksm k → S' k = S k) → PL S' → SRm S' (sstep E C asks at_ (at_ - stp) i qi) → J (ii (cnt (sstep E C asks at_ (at_ - stp) i qi).2.1 8)) (ii ((i + 1 : Nat) : Int)) h' := by rw [hqi]; exact ih
      have SJi : ∀ j, SJ q0 qi j := fun j => by rw [hqi]; exact SJ_rnd hat (hJ0 j) i
      rw [← hqi] at k3
      rw [← hqi]
      obtain ⟨r1, r2, r3⟩ := k3
      have SN : ∀ j, _ := fun j => SJ_n (SJi j) (ntM S) (h0 j)
      apply hJ
      refine P'.rI (k := 80) rfl rfl ?_
      rw [e84, n4, ii_le ⟨by omega, by omega⟩ ⟨by omega, by omega⟩]
      refine ⟨fun z => absurd z (by omega), fun _ => ?_⟩
      refine P'.zd (k := 134) (i := i) ⟨by decide, by decide, rfl, rfl⟩ rfl (show _ < 8 by omega) ?_
      intro J438 hJ438
      rw [r2 i (by omega), bI_1, bI_0]
      refine ⟨fun c => ?_, fun c => ?_⟩
      · apply hJ438; rw [ii_inc']
        rw [sstep_no c] at ih
        exact ih S' h' P' k1 k2 ⟨r1, r2, r3⟩
      · obtain ⟨z1, z2⟩ := (SJi i).2.1 c
        have z3 : qi.1 i = false := by
          cases e : qi.1 i with
          | false => rfl
          | true => rw [((SJi i).1 e).1] at c; cases c
        obtain ⟨t1, t2, t3⟩ := sstep_at (E := E) (C := C) (asks := asks) (at_ := at_) (nx := at_ - stp) c z3 z1
        obtain ⟨qn, hqn⟩ : ∃ qn, qn = sstep E C asks at_ (at_ - stp) i qi := ⟨_, rfl⟩
        have tn : ∀ j, j ≠ i → qn.1 j = qi.1 j ∧ qn.2.1 j = qi.2.1 j ∧ qn.2.2 j = qi.2.2 j := fun j hj => by rw [hqn]; exact sstep_ne hj
        rw [← hqn] at t1 t2 t3 ih
        obtain ⟨hM', eE, eN⟩ := hM.of (S' := S') (fun k hk => k1 k (fun z => by unfold ksm at z; omega))
        refine ⟨P'.o (k := 80) rfl, P'.mcst hM' k2 (k := i) (by rw [eN]; exact hi) (m := qi.1) r1 (fun j hj => by rw [eN]; exact (SN j).1 hj) hC rfl rfl (fun S5 h5 P5 m1 m2 => ?_)⟩
        rw [eE, ← hE]
        obtain ⟨ok, hok⟩ : ∃ ok, ok = okb E C (bu qi.1 i true) := ⟨_, rfl⟩
        rw [← hok] at t1 t2 t3
        rw [← hok]
        have f5 : ∀ k, ¬ ksm k → S5 k = S k := fun k hk => by rw [m1 k (fun z => hk (by unfold ksm; omega)) (fun z => hk (by unfold ksm; omega)), k1 k hk]
        have g123 : S5 123 = S' 123 := m1 123 (by decide) (by decide)
        have g134 : S5 134 = S' 134 := m1 134 (by decide) (by decide)
        have g122 : S5 122 = S' 122 := m1 122 (by decide) (by decide)
        refine P5.rR (k := 80) rfl rfl ?_
        intro J359 hJ359
        have go : ∀ w : Int, w = qn.2.2 i → J359 (A 122) (ii (i : Int)) (ii w) := fun w hw5 => by
          apply hJ359
          refine P5.mst (k := 122) (i := i) (z := w) (by decide) (by decide) rfl rfl rfl (show _ < 8 by omega) (fun h6 P6 => ?_)
          refine P6.rR (k := 80) rfl rfl ?_
          intro J390 hJ390 J389 hJ389
          have go2 : ∀ u : Int, u = bI (qn.1 i) → J390 (A 123) (ii (i : Int)) (ii u) := fun u hu => by
            apply hJ390
            refine P6.zst (k := 123) (i := i) (z := u) (by decide) (by decide) rfl rfl rfl (by rw [hu]; exact b01 _) (show _ < 8 by omega) (fun h7 P7 => ?_)
            refine P7.rR (k := 80) rfl rfl ?_
            intro J417 hJ417 J416 hJ416
            have go3 : ∀ y : Int, y = bI (qn.2.1 i) → J417 (A 134) (ii (i : Int)) (ii y) := fun y hy => by
              apply hJ417
              refine P7.zst (k := 134) (i := i) (z := y) (by decide) (by decide) rfl rfl rfl (by rw [hy]; exact b01 _) (show _ < 8 by omega) (fun h8 P8 => ?_)
              refine P8.zd (k := 134) (i := i) ⟨by decide, by decide, rfl, rfl⟩ rfl (show _ < 8 by omega) ?_
              have ce := cnt_ch (f := qi.2.1) (g := qn.2.1) (n := 8) (s := i) (by omega) (fun j _ hj => (tn j hj).2.1)
              rw [c] at ce
              have fin : ∀ x : Int, x = 1 - bI (qn.2.1 i) → J438 (ii (cnt qi.2.1 8) - ii x) h8 := fun x hx2 => by
                rw [ii_sub, show cnt qi.2.1 8 - x = cnt qn.2.1 8 from by rw [ce, hx2]; show _ = _ + (_ - (1 : Int)); omega]
                apply hJ438; rw [ii_inc']
                refine ih _ h8 P8 (fun k hk => ?_) (m2.of ?_ ?_) ⟨fun j hj => ?_, fun j hj => ?_, fun j hj => ?_⟩
                · rw [su_row _ _ (fun z => hk (by unfold ksm; omega)), su_row _ _ (fun z => hk (by unfold ksm; omega)), su_row _ _ (fun z => hk (by unfold ksm; omega)), f5 k hk]
                · rw [su_row _ _ (by decide), su_row _ _ (by decide), su_row _ _ (by decide)]
                · rw [su_row _ _ (by decide), su_row _ _ (by decide), su_row _ _ (by decide)]
                · rw [su_ne (k := 134) (k' := 123) _ _ _ (by decide)]
                  by_cases w2 : j = i
                  · subst w2; rw [su_at, hu]
                  · rw [su_nei _ _ _ w2, su_ne _ _ _ (by decide), g123, r1 j hj, (tn j w2).1]
                · by_cases w2 : j = i
                  · subst w2; rw [su_at, hy]
                  · rw [su_nei _ _ _ w2, su_ne _ _ _ (by decide), su_ne _ _ _ (by decide), g134, r2 j hj, (tn j w2).2.1]
                · rw [su_ne (k := 134) (k' := 122) _ _ _ (by decide), su_ne (k := 123) (k' := 122) _ _ _ (by decide)]
                  by_cases w2 : j = i
                  · subst w2; rw [su_at, hw5]
                  · rw [su_nei _ _ _ w2, g122, r3 j hj, (tn j w2).2.2]
              intro J435 hJ435
              rw [su_at, hy, bI_1, bI_0]
              exact ⟨fun w2 => hJ435 _ _ (fin 1 (by rw [w2]; rfl)), fun w2 => hJ435 _ _ (fin 0 (by rw [w2]; rfl))⟩
            have no3 : qn.2.1 i = false → J416 (A 134) (ii (i : Int)) := fun w2 => hJ416 _ _ (go3 0 (by rw [w2]; rfl))
            rw [bI_1, bI_0]
            refine ⟨fun w2 => no3 (by rw [t2, w2]; rfl), fun w2 => ?_⟩
            refine P7.zd (k := 123) (i := i) ⟨by decide, by decide, rfl, rfl⟩ rfl (show _ < 8 by omega) ?_
            rw [su_at, hu, bI_1, bI_0]
            rw [w2, Bool.true_and] at t1 t2
            exact ⟨fun u2 => no3 (by rw [t2, ← t1, u2]; rfl), fun u2 => go3 1 (by rw [t2, ← t1, u2]; rfl)⟩
          have no2 : qn.1 i = false → J389 (A 123) (ii (i : Int)) := fun w2 => hJ389 _ _ (go2 0 (by rw [w2]; rfl))
          rw [bI_1, bI_0]
          refine ⟨fun w2 => no2 (by rw [t1, w2]; rfl), fun w2 => ?_⟩
          refine P6.md (k := 114) (i := i) ⟨by decide, by decide, rfl, rfl⟩ rfl (show _ < 8 by omega) ?_
          have ai := har i (by omega)
          rw [su_ne _ _ _ (by decide), f5 114 (fun z => by unfold ksm at z; omega), hask i (by omega), ii_sub, ii_le ai ⟨by omega, by omega⟩]
          exact ⟨fun u2 => no2 (by rw [t1, decide_eq_false (by omega), Bool.and_false]), fun u2 => go2 1 (by rw [t1, w2, decide_eq_true (by omega)]; rfl)⟩
        rw [bI_1, bI_0]
        exact ⟨fun w => go at_ (by rw [t3, if_neg (fun z => by rw [w] at z; cases z)]), fun w => by rw [il_m1]; exact go (-1) (by rw [t3, if_pos w])⟩
  exact main 0 (by omega) S h P (fun _ _ => rfl) hP hs
end MSR
