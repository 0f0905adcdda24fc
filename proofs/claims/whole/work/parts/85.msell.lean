/-! the reference: a selling, in pieces -/
def ms_rnd (G : Gx) (p0 : Nat) (p2 p3 x6_22 x5_21 : Int32) (h49 : hw) (K : Int32 → hw → Prop) : Prop := ∀ J314 : Int32 → Int32 → hw → Prop, (∀ (x5_50 : Int32) (x7_51 : Int32) (h52 : hw), (rdI h52 p0 12 4 (fun v53 => ((v53 ≤ x7_51 → K x5_50 h52) ∧ (¬ v53 ≤ x7_51 → rdR h52 p0 12 34 (fun v54 => ldZ G h52 v54 x7_51 (fun v55 => ∀ J438 : Int32 → hw → Prop, (∀ (x5_56 : Int32) (h57 : hw), (J314 x5_56 (x7_51 + 1) h57) → J438 x5_56 h57) → ((v55 = 0 → J438 x5_50 h52) ∧ (¬ v55 = 0 → (isO h52 p0 12 ∧ wp_X12_canStayToo G p0 x7_51 p3 h52 (fun r58 h59 => rdR h59 p0 12 22 (fun v60 => ∀ J359 : Nat → Int32 → Int32 → Prop, (∀ (t61 : Nat) (t62 : Int32) (t63 : Int32), (stI G h59 t61 t62 t63 (fun h64 => rdR h64 p0 12 23 (fun v65 => ∀ J390 : Nat → Int32 → Int32 → Prop, (∀ (t66 : Nat) (t67 : Int32) (t68 : Int32), (stZ G h64 t66 t67 t68 (fun h69 => rdR h69 p0 12 34 (fun v70 => ∀ J417 : Nat → Int32 → Int32 → Prop, (∀ (t71 : Nat) (t72 : Int32) (t73 : Int32), (stZ G h69 t71 t72 t73 (fun h74 => rdR h74 p0 12 34 (fun v75 => ldZ G h74 v75 x7_51 (fun v76 => ∀ J435 : Int32 → Int32 → Prop, (∀ (t77 : Int32) (t78 : Int32), (J438 (t77 - t78) h74) → J435 t77 t78) → ((v76 = 0 → J435 x5_50 1) ∧ (¬ v76 = 0 → J435 x5_50 0)))))) → J417 t71 t72 t73) → ∀ J416 : Nat → Int32 → Prop, (∀ (t79 : Nat) (t80 : Int32), (J417 t79 t80 0) → J416 t79 t80) → ((r58 = 0 → J416 v70 x7_51) ∧ (¬ r58 = 0 → rdR h69 p0 12 23 (fun v81 => ldZ G h69 v81 x7_51 (fun v82 => ((¬ v82 = 0 → J416 v70 x7_51) ∧ (v82 = 0 → J417 v70 x7_51 1))))))))) → J390 t66 t67 t68) → ∀ J389 : Nat → Int32 → Prop, (∀ (t83 : Nat) (t84 : Int32), (J390 t83 t84 0) → J389 t83 t84) → ((r58 = 0 → J389 v65 x7_51) ∧ (¬ r58 = 0 → rdR h64 p0 12 14 (fun v85 => ldI G h64 v85 x7_51 (fun v86 => ((v86 ≤ (x6_22 - p2) → J389 v65 x7_51) ∧ (¬ v86 ≤ (x6_22 - p2) → J390 v65 x7_51 1))))))))) → J359 t61 t62 t63) → ((r58 = 0 → J359 v60 x7_51 x6_22) ∧ (¬ r58 = 0 → J359 v60 x7_51 (-1)))))))))))))) → J314 x5_50 x7_51 h52) → J314 x5_21 0 h49
def ms_end (G : Gx) (p0 : Nat) (x6_22 : Int32) (h23 : hw) (bc bs : Nat) (post : Int32 → hw → Prop) : Prop := ∀ J459 : Int32 → Int32 → hw → Nat → Nat → Prop, (∀ (x7_24 : Int32) (x8_25 : Int32) (h26 : hw) (uc27 : Nat) (us28 : Nat), (rdI h26 p0 12 4 (fun v29 => ((v29 ≤ x8_25 → (uc27 ≤ bc ∧ us28 ≤ bs ∧ post x7_24 h26)) ∧ (¬ v29 ≤ x8_25 → rdR h26 p0 12 22 (fun v30 => rdR h26 p0 12 34 (fun v31 => ldZ G h26 v31 x8_25 (fun v32 => ∀ J496 : Nat → Int32 → Int32 → Prop, (∀ (t33 : Nat) (t34 : Int32) (t35 : Int32), (stI G h26 t33 t34 t35 (fun h36 => rdR h36 p0 12 22 (fun v37 => ldI G h36 v37 x8_25 (fun v38 => ∀ J518 : Int32 → hw → Nat → Nat → Prop, (∀ (x7_39 : Int32) (h40 : hw) (uc41 : Nat) (us42 : Nat), (J459 x7_39 (x8_25 + 1) h40 uc41 us42) → J518 x7_39 h40 uc41 us42) → ((v38 = (-1) → J518 x7_24 h36 uc27 us28) ∧ (¬ v38 = (-1) → ∃ bc43 bs44 : Nat, uc27 + bc43 ≤ bc ∧ us28 + bs44 ≤ bs ∧ (isO h36 p0 12 ∧ wp_X12_set G p0 x8_25 (-1) h36 bc43 bs44 (fun h45 => J518 (x7_24 + 1) h45 (uc27 + bc43) (us28 + bs44))))))))) → J496 t33 t34 t35) → ((v32 = 0 → rdR h26 p0 12 22 (fun v46 => ldI G h26 v46 x8_25 (fun v47 => J496 v30 x8_25 v47))) ∧ (¬ v32 = 0 → J496 v30 x8_25 x6_22))))))))) → J459 x7_24 x8_25 h26 uc27 us28) → J459 0 0 h23 0 0
def ms_start (G : Gx) (p0 : Nat) (p1 : Int32) (h14 : hw) (K : Int32 → hw → Prop) : Prop := ∀ J139 : Int32 → Int32 → hw → Prop, (∀ (x5_15 : Int32) (x6_16 : Int32) (h17 : hw), (((8 ≤ x6_16 → K x5_15 h17) ∧ (¬ 8 ≤ x6_16 → rdI h17 p0 12 4 (fun v87 => ∀ J181 : Int32 → Prop, (∀ (t88 : Int32), (rdR h17 p0 12 23 (fun v89 => ∀ J210 : Nat → Int32 → Int32 → Prop, (∀ (t90 : Nat) (t91 : Int32) (t92 : Int32), (stZ G h17 t90 t91 t92 (fun h93 => rdR h93 p0 12 34 (fun v94 => ∀ J237 : Nat → Int32 → Int32 → Prop, (∀ (t95 : Nat) (t96 : Int32) (t97 : Int32), (stZ G h93 t95 t96 t97 (fun h98 => rdR h98 p0 12 22 (fun v99 => stI G h98 v99 x6_16 (-1) (fun h100 => rdR h100 p0 12 34 (fun v101 => ldZ G h100 v101 x6_16 (fun v102 => ∀ J263 : Int32 → Int32 → Prop, (∀ (t103 : Int32) (t104 : Int32), (J139 (t103 + t104) (x6_16 + 1) h100) → J263 t103 t104) → ((v102 = 0 → J263 x5_15 0) ∧ (¬ v102 = 0 → J263 x5_15 1)))))))) → J237 t95 t96 t97) → ∀ J236 : Nat → Int32 → Prop, (∀ (t105 : Nat) (t106 : Int32), (J237 t105 t106 0) → J236 t105 t106) → ((t88 = 0 → J236 v94 x6_16) ∧ (¬ t88 = 0 → rdR h93 p0 12 23 (fun v107 => ldZ G h93 v107 x6_16 (fun v108 => ((¬ v108 = 0 → J236 v94 x6_16) ∧ (v108 = 0 → J237 v94 x6_16 1))))))))) → J210 t90 t91 t92) → ∀ J209 : Nat → Int32 → Prop, (∀ (t109 : Nat) (t110 : Int32), (J210 t109 t110 0) → J209 t109 t110) → ((t88 = 0 → J209 v89 x6_16) ∧ (¬ t88 = 0 → rdR h17 p0 12 14 (fun v111 => ldI G h17 v111 x6_16 (fun v112 => ((v112 ≤ p1 → J209 v89 x6_16) ∧ (¬ v112 ≤ p1 → J210 v89 x6_16 1)))))))) → J181 t88) → ∀ J180 : Prop, ((J181 0) → J180) → ((v87 ≤ x6_16 → J180) ∧ (¬ v87 ≤ x6_16 → rdR h17 p0 12 12 (fun v113 => ldZ G h17 v113 x6_16 (fun v114 => ((v114 = 0 → J180) ∧ (¬ v114 = 0 → rdR h17 p0 12 13 (fun v115 => ldI G h17 v115 x6_16 (fun v116 => ((v116 = (-1) → J180) ∧ (¬ v116 = (-1) → J181 1)))))))))))))) → J139 x5_15 x6_16 h17) → J139 0 0 h14
theorem cnt_bu {f : Nat → Bool} {n k : Nat} (hk : k < n) (hf : f k = true) : cnt (bu f k false) n = cnt f n - 1 := by
  induction n with
  | zero => omega
  | succ n ih =>
    unfold cnt
    by_cases y : k = n
    · subst y
      rw [bu_at, hf, cnt_of (g := f) (fun i hi => bu_ne (by omega))]
      show cnt f k + 0 = cnt f k + 1 - 1
      omega
    · rw [ih (by omega), bu_ne (show n ≠ k by omega)]; omega
theorem cnt_any {f : Nat → Bool} {n : Nat} : anyb f n = true ↔ 0 < cnt f n := by
  induction n with
  | zero => exact ⟨(fun z => by cases z), (fun z => absurd (show (0:Int) < 0 from z) (by decide))⟩
  | succ n ih =>
    have c := cnt_in f n
    unfold anyb cnt
    rw [Bool.or_eq_true, ih]
    have b := bI_in (f n)
    cases e : f n with
    | true => exact ⟨fun _ => by show 0 < cnt f n + 1; omega, fun _ => Or.inr rfl⟩
    | false => exact ⟨fun z => z.elim (fun y => by show 0 < cnt f n + 0; omega) (fun y => by cases y), fun z => Or.inl (by have z : 0 < cnt f n + 0 := z; omega)⟩
theorem anyb_of {f g : Nat → Bool} {n : Nat} (h : ∀ i, i < n → f i = g i) : anyb f n = anyb g n := by
  induction n with
  | zero => rfl
  | succ n ih => unfold anyb; rw [ih (fun i hi => h i (by omega)), h n (by omega)]
/-- a selling's state, in the reference's cells -/
def SRm (S : Nat → Nat → Int) (q : Sst) : Prop := (∀ j, j < 8 → S 123 j = bI (q.1 j)) ∧ (∀ j, j < 8 → S 134 j = bI (q.2.1 j)) ∧ ∀ j, j < 8 → S 122 j = q.2.2 j
section MSL
variable {G : Gx} {A : Nat → Nat} {B : Nat → Nat → Nat} {S : Nat → Nat → Int} {h : hw}
theorem PL.of {S' : Nat → Nat → Int} (hP : PL S) (h1 : S' 130 = S 130) (h2 : S' 131 = S 131) : PL S' := by unfold PL; rw [h1, h2]; exact hP
/-- a row of those that are in, out of any, then the packing's answer -/
theorem Pic.mokb (P : Pic G A B S h) (hM : MO S) (hP : PL S) {m : Nat → Bool} {C : Int} (hC : 0 ≤ C ∧ C ≤ 8) {y : Int32} (hy : y = ii C) (hm : ∀ j, m j = true → j < ntM S) (h130 : ∀ j, j < ntM S → S 130 j = bI (m j)) {post : Int32 → hw → Prop} (q : ∀ S' h', Pic G A B S' h' → (∀ k, k ≠ 131 → S' k = S k) → PL S' → post (ii (bI (okb (EM S) C m))) h') : wp_X12_packs G 10 (A 80) 0 y h (fun r4 h5 => ((r4 = 0 ∨ r4 = 1) ∧ post r4 h5)) := by
  have e : ∀ i, i < 8 → (decide (i < ntM S) && m i) = m i := fun i _ => by
    cases k : m i with
    | true => rw [decide_eq_true (hm i k)]; rfl
    | false => rw [Bool.and_false]
  refine P.mpk hM hP (m := m) hC hy h130 (fun S' h' P' k1 k2 k3 => ?_) (fun S' h' P' k1 k2 k3 => ?_)
  · have q := q S' h' P' k1 k2
    rw [okb_t.mpr (okp_m e (fst_ok k3))] at q
    exact q
  · have q := q S' h' P' k1 k2
    rw [okb_f.mpr (fun z => k3 (okp_m (fun i hi => (e i hi).symm) z))] at q
    exact q
theorem Pic.mcst (P : Pic G A B S h) (hM : MO S) (hP : PL S) {k : Nat} (hk : k < ntM S) {m : Nat → Bool} (h123 : ∀ j, j < 8 → S 123 j = bI (m j)) (hm : ∀ j, m j = true → j < ntM S) {C : Int} (hC : 0 ≤ C ∧ C ≤ 8) {x y : Int32} (hx : x = ii (k : Int)) (hy : y = ii C) {post : Int32 → hw → Prop} (q : ∀ S' h', Pic G A B S' h' → (∀ k, k ≠ 130 → k ≠ 131 → S' k = S k) → PL S' → post (ii (bI (okb (EM S) C (bu m k true)))) h') : wp_X12_canStayToo G (A 80) x y h post := by
  obtain ⟨n8, n4, n5⟩ := ntM_8 hM
  subst hx
  intro J hJ
  have main : ∀ i : Nat, i ≤ ntM S → ∀ (h' : hw), Pic G A B (sf S 130 i (fun j => bI (bu m k true j))) h' → J (ii (i : Int)) h' := by
    intro i hi
    refine lp_up (J := fun i : Nat => ∀ (h' : hw), Pic G A B (sf S 130 i (fun j => bI (bu m k true j))) h' → J (ii (i : Int)) h') (n := ntM S) ?_ ?_ hi
    · intro h' P'
      have f : ∀ k', k' ≠ 130 → sf S 130 (ntM S) (fun j => bI (bu m k true j)) k' = S k' := fun k' hk => sf_ne hk
      obtain ⟨hM', eE, eN⟩ := hM.of (S' := sf S 130 (ntM S) (fun j => bI (bu m k true j))) (fun k' hk => f k' (by omega))
      apply hJ
      refine P'.rI (k := 80) rfl rfl ?_
      rw [f 80 (by decide), n4, ii_le ⟨by omega, by omega⟩ ⟨by omega, by omega⟩]
      refine ⟨fun _ => ⟨P'.o (k := 80) rfl, ?_⟩, fun z => absurd (Int.le_refl _) z⟩
      refine P'.mokb hM' ⟨fun i hi => by rw [f 131 (by decide)]; exact hP.1 i hi, fun j hj => ?_⟩ (m := bu m k true) hC hy (fun j hj => ?_) (fun j hj => ?_) (fun S' h2 P2 k1 k2 => ?_)
      · unfold sf
        by_cases w : j < ntM S
        · rw [if_pos ⟨rfl, w⟩]; exact b01 _
        · rw [if_neg (fun z => w z.2)]; exact hP.2 j hj
      · rw [eN]
        unfold bu at hj
        by_cases w : j = k
        · omega
        · rw [if_neg w] at hj; exact hm j hj
      · rw [eN] at hj
        rw [sf_at hj]
      · rw [eE]
        exact q S' h2 P2 (fun k' a b => by rw [k1 k' b, f k' a]) k2
    · intro i hi ih h' P'
      have f : ∀ k', k' ≠ 130 → sf S 130 i (fun j => bI (bu m k true j)) k' = S k' := fun k' hk => sf_ne hk
      apply hJ
      refine P'.rI (k := 80) rfl rfl ?_
      rw [f 80 (by decide), n4, ii_le ⟨by omega, by omega⟩ ⟨by omega, by omega⟩]
      refine ⟨fun z => absurd z (by omega), fun _ => ?_⟩
      refine P'.rR (k := 80) rfl rfl ?_
      intro J34 hJ34 J29 hJ29
      have go : ∀ z : Int, z = bI (bu m k true i) → J34 (A 130) (ii (i : Int)) (ii z) := fun z hz => by
        apply hJ34
        refine P'.zst (k := 130) (i := i) (z := z) (by decide) (by decide) rfl rfl rfl (by rw [hz]; exact b01 _) (show _ < 8 by omega) (fun h2 P2 => ?_)
        rw [ii_inc']
        rw [hz, sf_s (f := fun j => bI (bu m k true j))] at P2
        exact ih h2 P2
      rw [ii_eq ⟨by omega, by omega⟩ ⟨by omega, by omega⟩]
      refine ⟨fun z => hJ29 _ _ (go 1 ?_), fun z => ?_⟩
      · rw [show i = k by omega, bu_at]; rfl
      · have eb : bu m k true i = m i := bu_ne (by omega)
        refine P'.zd (k := 123) (i := i) ⟨by decide, by decide, rfl, rfl⟩ rfl (show _ < 8 by omega) ?_
        rw [f 123 (by decide), h123 i (by omega), bI_1, bI_0]
        refine ⟨fun w => go 0 (by rw [eb, w]; rfl), fun w => hJ29 _ _ (go 1 (by rw [eb, w]; rfl))⟩
  exact main 0 (by omega) h (by rw [sf_0]; exact P)
theorem Pic.mcs0 (P : Pic G A B S h) (hM : MO S) (hP : PL S) {now asks : Nat → Int} (hnow : ∀ j, j < 8 → S 113 j = now j) (hask : ∀ j, j < 8 → S 114 j = asks j) (har : ∀ j, j < 8 → rg (asks j)) {pr : Int} (hpr : rg pr) {C : Int} (hC : 0 ≤ C ∧ C ≤ 8) {y : Int32} (hy : y = ii C) {post : Int32 → hw → Prop} (q : ∀ S' h', Pic G A B S' h' → (∀ k, k ≠ 130 → k ≠ 131 → S' k = S k) → PL S' → post (ii (bI (okb (EM S) C (st0 (EM S) now asks pr)))) h') : wp_X12_canStay G (A 80) (ii pr) y h post := by
  obtain ⟨n8, n4, n5⟩ := ntM_8 hM
  have p7 := hM.1.2.2.2.2.2.2.2.1
  intro J hJ
  have main : ∀ i : Nat, i ≤ ntM S → ∀ (h' : hw), Pic G A B (sf S 130 i (fun j => bI (st0 (EM S) now asks pr j))) h' → J (ii (i : Int)) h' := by
    intro i hi
    refine lp_up (J := fun i : Nat => ∀ (h' : hw), Pic G A B (sf S 130 i (fun j => bI (st0 (EM S) now asks pr j))) h' → J (ii (i : Int)) h') (n := ntM S) ?_ ?_ hi
    · intro h' P'
      have f : ∀ k', k' ≠ 130 → sf S 130 (ntM S) (fun j => bI (st0 (EM S) now asks pr j)) k' = S k' := fun k' hk => sf_ne hk
      obtain ⟨hM', eE, eN⟩ := hM.of (S' := sf S 130 (ntM S) (fun j => bI (st0 (EM S) now asks pr j))) (fun k' hk => f k' (by omega))
      apply hJ
      refine P'.rI (k := 80) rfl rfl ?_
      rw [f 80 (by decide), n4, ii_le ⟨by omega, by omega⟩ ⟨by omega, by omega⟩]
      refine ⟨fun _ => ⟨P'.o (k := 80) rfl, ?_⟩, fun z => absurd (Int.le_refl _) z⟩
      refine P'.mokb hM' ⟨fun i hi => by rw [f 131 (by decide)]; exact hP.1 i hi, fun j hj => ?_⟩ (m := st0 (EM S) now asks pr) hC hy (fun j hj => ?_) (fun j hj => ?_) (fun S' h2 P2 k1 k2 => ?_)
      · unfold sf
        by_cases w : j < ntM S
        · rw [if_pos ⟨rfl, w⟩]; exact b01 _
        · rw [if_neg (fun z => w z.2)]; exact hP.2 j hj
      · rw [eN]
        unfold st0 at hj; rw [Bool.and_eq_true] at hj; exact (tpf_n hj.1).1
      · rw [eN] at hj
        rw [sf_at hj]
      · rw [eE]
        exact q S' h2 P2 (fun k' a b => by rw [k1 k' b, f k' a]) k2
    · intro i hi ih h' P'
      have f : ∀ k', k' ≠ 130 → sf S 130 i (fun j => bI (st0 (EM S) now asks pr j)) k' = S k' := fun k' hk => sf_ne hk
      have ci := hM.2 i (by omega)
      have e7 := EM_7 (S := S) (show i < 8 by omega)
      have p7i := p7 i
      apply hJ
      refine P'.rI (k := 80) rfl rfl ?_
      rw [f 80 (by decide), n4, ii_le ⟨by omega, by omega⟩ ⟨by omega, by omega⟩]
      refine ⟨fun z => absurd z (by omega), fun _ => ?_⟩
      refine P'.rR (k := 80) rfl rfl ?_
      refine P'.mprot rfl (by omega) ?_
      intro J49 hJ49 J48 hJ48
      have go : ∀ z : Int, z = bI (st0 (EM S) now asks pr i) → J49 (A 130) (ii (i : Int)) (ii z) := fun z hz => by
        apply hJ49
        refine P'.zst (k := 130) (i := i) (z := z) (by decide) (by decide) rfl rfl rfl (by rw [hz]; exact b01 _) (show _ < 8 by omega) (fun h2 P2 => ?_)
        rw [ii_inc']
        rw [hz, sf_s (f := fun j => bI (st0 (EM S) now asks pr j))] at P2
        exact ih h2 P2
      have no : st0 (EM S) now asks pr i = false → J48 (A 130) (ii (i : Int)) := fun z => hJ48 _ _ (go 0 (by rw [z]; rfl))
      have es : st0 (EM S) now asks pr i = (decide (EM S 7 i = 1) && decide (S 113 i ≠ -1) && decide (pr < S 114 i)) := by
        unfold st0 tpf prm
        rw [decide_eq_true (show i < nt (EM S) by rw [n5]; exact hi), Bool.true_and, hnow i (by omega), hask i (by omega)]
      rw [f 112 (by decide), ← e7, il_0, ii_eq ⟨by omega, by omega⟩ ⟨by decide, by decide⟩]
      refine ⟨fun z => no (by rw [es, decide_eq_false (by omega)]; rfl), fun z => ?_⟩
      refine P'.mnow rfl (by omega) ?_
      rw [f 113 (by decide), il_m1, ii_eq ⟨by omega, by omega⟩ ⟨by decide, by decide⟩]
      refine ⟨fun w => no (by rw [es, decide_eq_false (p := S 113 i ≠ -1) (fun u => u w), Bool.and_false]; rfl), fun w => ?_⟩
      refine P'.md (k := 114) (i := i) ⟨by decide, by decide, rfl, rfl⟩ rfl (show _ < 8 by omega) ?_
      rw [f 114 (by decide), ii_le (by rw [hask i (by omega)]; exact har i (by omega)) hpr]
      refine ⟨fun u => no (by rw [es, decide_eq_false (p := pr < S 114 i) (by omega), Bool.and_false]), fun u => go 1 (by rw [es, decide_eq_true (show EM S 7 i = 1 by omega), decide_eq_true w, decide_eq_true (by omega)]; rfl)⟩
  exact main 0 (by omega) h (by rw [sf_0]; exact P)
/-- the start of a selling -/
theorem Pic.mstart (P : Pic G A B S h) (hM : MO S) {now asks : Nat → Int} (hnow : ∀ j, j < 8 → S 113 j = now j) (hask : ∀ j, j < 8 → S 114 j = asks j) (har : ∀ j, j < 8 → rg (asks j)) {pr : Int} (hpr : rg pr) {K : Int32 → hw → Prop} (q : ∀ S' h', Pic G A B S' h' → (∀ k, k ≠ 122 → k ≠ 123 → k ≠ 134 → S' k = S k) → SRm S' (sq0 (EM S) now asks pr) → K (ii (cnt (si0 (EM S) now asks pr) 8)) h') : ms_start G (A 80) (ii pr) h K := by
  obtain ⟨n8, n4, n5⟩ := ntM_8 hM
  have p7 := hM.1.2.2.2.2.2.2.2.1
  obtain ⟨sf0, hsf0⟩ : ∃ f, f = st0 (EM S) now asks pr := ⟨_, rfl⟩
  obtain ⟨si, hsi⟩ : ∃ f, f = si0 (EM S) now asks pr := ⟨_, rfl⟩
  rw [← hsi] at q
  intro J hJ
  have main : ∀ i : Nat, i ≤ 8 → ∀ (S' : Nat → Nat → Int) (h' : hw), Pic G A B S' h' → (∀ k, k ≠ 122 → k ≠ 123 → k ≠ 134 → S' k = S k) → (∀ j, j < i → S' 123 j = bI (sf0 j) ∧ S' 134 j = bI (si j) ∧ S' 122 j = -1) → J (ii (cnt si i)) (ii (i : Int)) h' := by
    intro i hi
    refine lp_up (J := fun i : Nat => ∀ (S' : Nat → Nat → Int) (h' : hw), Pic G A B S' h' → (∀ k, k ≠ 122 → k ≠ 123 → k ≠ 134 → S' k = S k) → (∀ j, j < i → S' 123 j = bI (sf0 j) ∧ S' 134 j = bI (si j) ∧ S' 122 j = -1) → J (ii (cnt si i)) (ii (i : Int)) h') (n := 8) ?_ ?_ hi
    · intro S' h' P' k1 k2
      apply hJ
      rw [il_8, ii_le ⟨by omega, by omega⟩ ⟨by omega, by omega⟩]
      refine ⟨fun _ => q S' h' P' k1 ⟨fun j hj => ?_, fun j hj => ?_, fun j hj => (k2 j hj).2.2⟩, fun z => absurd (Int.le_refl _) z⟩
      · show S' 123 j = bI (st0 (EM S) now asks pr j)
        rw [← hsf0]; exact (k2 j hj).1
      · show S' 134 j = bI (si0 (EM S) now asks pr j)
        rw [← hsi]; exact (k2 j hj).2.1
    · intro i hi ih S' h' P' k1 k2
      have e84 : S' 80 = S 80 := k1 80 (by decide) (by decide) (by decide)
      have ci := hM.2 i hi
      have e7 := EM_7 (S := S) hi
      have p7i := p7 i
      apply hJ
      rw [il_8, ii_le ⟨by omega, by omega⟩ ⟨by omega, by omega⟩]
      refine ⟨fun z => absurd z (by omega), fun _ => ?_⟩
      refine P'.rI (k := 80) rfl rfl ?_
      intro J181 hJ181
      -- behind the question whether it takes part
      have part : ∀ t : Bool, t = tpf (EM S) now i → J181 (ii (bI t)) := by
        intro t ht
        have est : sf0 i = (t && decide (pr < S 114 i)) := by rw [hsf0, ht, hask i hi]; rfl
        have esi : si i = (t && !(decide (pr < S 114 i))) := by rw [hsi, ht, hask i hi]; rfl
        apply hJ181
        refine P'.rR (k := 80) rfl rfl ?_
        intro J210 hJ210 J209 hJ209
        have go : ∀ z : Int, z = bI (sf0 i) → J210 (A 123) (ii (i : Int)) (ii z) := fun z hz => by
          apply hJ210
          refine P'.zst (k := 123) (i := i) (z := z) (by decide) (by decide) rfl rfl rfl (by rw [hz]; exact b01 _) (show _ < 8 from hi) (fun h2 P2 => ?_)
          refine P2.rR (k := 80) rfl rfl ?_
          intro J237 hJ237 J236 hJ236
          have go2 : ∀ y : Int, y = bI (si i) → J237 (A 134) (ii (i : Int)) (ii y) := fun y hy => by
            apply hJ237
            refine P2.zst (k := 134) (i := i) (z := y) (by decide) (by decide) rfl rfl rfl (by rw [hy]; exact b01 _) (show _ < 8 from hi) (fun h3 P3 => ?_)
            refine P3.ms (k := 122) (i := i) (z := -1) ⟨by decide, by decide, rfl, rfl⟩ rfl il_m1 (show _ < 8 from hi) (fun h4 P4 => ?_)
            refine P4.zd (k := 134) (i := i) ⟨by decide, by decide, rfl, rfl⟩ rfl (show _ < 8 from hi) ?_
            have fin : ∀ x : Int, x = bI (si i) → J (ii (cnt si i) + ii x) (ii (i : Int) + 1) h4 := fun x hx2 => by
              rw [ii_inc', ii_add, hx2]
              refine ih _ h4 P4 (fun k a b c => by rw [su_row _ _ a, su_row _ _ c, su_row _ _ b, k1 k a b c]) (fun j hj => ?_)
              rw [su_ne (k := 122) (k' := 123) _ _ _ (by decide), su_ne (k := 134) (k' := 123) _ _ _ (by decide), su_ne (k := 122) (k' := 134) _ _ _ (by decide)]
              by_cases w : j = i
              · subst w; rw [su_at, su_at, su_at]; exact ⟨hz, hy, rfl⟩
              · have o := k2 j (by omega)
                exact ⟨by rw [su_nei _ _ _ w]; exact o.1, by rw [su_nei _ _ _ w, su_ne _ _ _ (by decide)]; exact o.2.1, by rw [su_nei _ _ _ w, su_ne _ _ _ (by decide), su_ne _ _ _ (by decide)]; exact o.2.2⟩
            intro J263 hJ263
            rw [su_ne (k := 122) (k' := 134) _ _ _ (by decide), su_at, hy, bI_1, bI_0]
            exact ⟨fun w => hJ263 _ _ (fin 0 (by rw [w]; rfl)), fun w => hJ263 _ _ (fin 1 (by rw [w]; rfl))⟩
          have no2 : si i = false → J236 (A 134) (ii (i : Int)) := fun w => hJ236 _ _ (go2 0 (by rw [w]; rfl))
          rw [bI_1, bI_0]
          refine ⟨fun w => no2 (by rw [esi, w]; rfl), fun w => ?_⟩
          refine P2.zd (k := 123) (i := i) ⟨by decide, by decide, rfl, rfl⟩ rfl (show _ < 8 from hi) ?_
          rw [su_at, hz, bI_1, bI_0]
          rw [w, Bool.true_and] at est esi
          refine ⟨fun u => no2 (by rw [esi, ← est, u]; rfl), fun u => go2 1 (by rw [esi, ← est, u]; rfl)⟩
        have no : sf0 i = false → J209 (A 123) (ii (i : Int)) := fun w => hJ209 _ _ (go 0 (by rw [w]; rfl))
        rw [bI_1, bI_0]
        refine ⟨fun w => no (by rw [est, w]; rfl), fun w => ?_⟩
        refine P'.md (k := 114) (i := i) ⟨by decide, by decide, rfl, rfl⟩ rfl (show _ < 8 from hi) ?_
        rw [k1 114 (by decide) (by decide) (by decide), ii_le (by rw [hask i hi]; exact har i hi) hpr]
        refine ⟨fun u => no (by rw [est, decide_eq_false (by omega), Bool.and_false]), fun u => go 1 (by rw [est, w, decide_eq_true (by omega)]; rfl)⟩
      intro J180 hJ180
      have et : tpf (EM S) now i = (decide (i < ntM S) && decide (EM S 7 i = 1) && decide (S 113 i ≠ -1)) := by unfold tpf prm; rw [n5, hnow i hi]
      have no : tpf (EM S) now i = false → J180 := fun z => hJ180 (part false z.symm)
      rw [e84, n4, ii_le ⟨by omega, by omega⟩ ⟨by omega, by omega⟩]
      refine ⟨fun z => no (by rw [et, decide_eq_false (show ¬ i < ntM S by omega)]; rfl), fun z => ?_⟩
      refine P'.mprot rfl hi ?_
      rw [k1 112 (by decide) (by decide) (by decide), ← e7, il_0, ii_eq ⟨by omega, by omega⟩ ⟨by decide, by decide⟩]
      refine ⟨fun w => no (by rw [et, decide_eq_false (show ¬ EM S 7 i = 1 by omega), Bool.and_false]; rfl), fun w => ?_⟩
      refine P'.mnow rfl hi ?_
      rw [k1 113 (by decide) (by decide) (by decide), il_m1, ii_eq ⟨by omega, by omega⟩ ⟨by decide, by decide⟩]
      refine ⟨fun u => no (by rw [et, decide_eq_false (show ¬ S 113 i ≠ -1 from fun k => k u), Bool.and_false]), fun u => part true (by rw [et, decide_eq_true (show i < ntM S by omega), decide_eq_true (show EM S 7 i = 1 by omega), decide_eq_true u]; rfl)⟩
  exact main 0 (by omega) S h P (fun _ _ _ _ => rfl) (fun j hj => by omega)
end MSL
