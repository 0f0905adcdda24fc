/-! the reference: sell -/
section MSS
variable {G : Gx} {A : Nat → Nat} {B : Nat → Nat → Nat} {S : Nat → Nat → Int} {h : hw}
theorem Pic.m_sell (P : Pic G A B S h) (hM : MO S) (hP : PL S) (hR : RG S) (hlm : ∀ j : Nat, j < ntM S → ∀ d, S 80 1 ≤ d → LM S j d = S 113 j) (hday : 0 ≤ S 80 1 ∧ S 80 1 ≤ 100000) (hcap : ∀ t, t < 8 → S (170 + t) 3 ≤ 4000) {bc bs : Nat} (hroom : ∀ (S' : Nat → Nat → Int) (uc us : Nat), RT S S' uc us → uc ≤ bc ∧ us ≤ bs) {now asks : Nat → Int} (hnow : ∀ j, j < 8 → S 113 j = now j) (hask : ∀ j, j < 8 → S 114 j = asks j) (har : ∀ j, j < 8 → rg (asks j)) {pr stp C : Int} (hpr : rg pr) (hst : rg stp) (hC : rg C) {post : Int32 → hw → Prop} (q1 : (1 ≤ pr ∧ pr ≤ 9999) → (1 ≤ stp ∧ stp ≤ 999) → (1 ≤ C ∧ C ≤ 8) → anyb (tpf (EM S) now) (ntM S) = true → okb (EM S) C (st0 (EM S) now asks pr) = true → ∀ Z, Z = sres (EM S) C now asks pr stp → ∀ A' B' S' h' uc us, Pic G A' B' S' h' → (∀ k, k < 180 → A' k = A k) → (∀ k, ¬ kM k → k ≠ 80 → ¬ ksm k → S' k = S k) → (∀ i, i ≠ 0 → i ≠ 19 → i ≠ 20 → i ≠ 21 → S' 80 i = S 80 i) → S' 80 0 = 0 → S' 80 19 = 1 → S' 80 21 = C → S' 80 20 = Z.2.2 → (∀ j, j < 8 → S' 123 j = bI (Z.1.1 j)) → (∀ j, j < 8 → S' 122 j = spr Z j) → (∀ j, S' 113 j = if j < ntM S ∧ spr Z j ≠ -1 then -1 else S 113 j) → PL S' → RM S S' → RT S S' uc us → post (ii (cnt (fun j => decide (spr Z j ≠ -1)) 8)) h') (x1 : ¬ ((1 ≤ pr ∧ pr ≤ 9999) ∧ (1 ≤ stp ∧ stp ≤ 999) ∧ 1 ≤ C ∧ C ≤ 8) → ∀ h', Pic G A B (su S 80 0 1) h' → post 0 h') (x2 : (1 ≤ pr ∧ pr ≤ 9999) → (1 ≤ stp ∧ stp ≤ 999) → (1 ≤ C ∧ C ≤ 8) → ¬ (anyb (tpf (EM S) now) (ntM S) = true ∧ okb (EM S) C (st0 (EM S) now asks pr) = true) → ∀ S' h', Pic G A B S' h' → (∀ k, k ≠ 130 → k ≠ 131 → S' k = su S 80 0 2 k) → PL S' → post 0 h') : wp_X12_sell G (A 80) (ii pr) (ii stp) (ii C) h bc bs post := by
  obtain ⟨n8, n4, n5⟩ := ntM_8 hM
  obtain ⟨hM1, e1, e2⟩ := hM.t 0
  have p7 := hM.1.2.2.2.2.2.2.2.1
  refine P.thr0 (fun h1 P1 => ?_)
  have f0 : ∀ k, k ≠ 80 → su S 80 0 0 k = S k := fun k hk => su_row _ _ hk
  refine in_ii hpr (a := 1) (b := 9999) ⟨by omega, by omega⟩ ⟨by omega, by omega⟩ rfl il_1 il_9999 ?_
  intro J43 hJ43 J38 hJ38
  have bad : ¬ ((1 ≤ pr ∧ pr ≤ 9999) ∧ (1 ≤ stp ∧ stp ≤ 999) ∧ 1 ≤ C ∧ C ≤ 8) → J38 (A 80) := fun z => by
    apply hJ38; apply hJ43
    exact P1.mF (b := true) (e := 1) (Or.inl rfl) rfl il_1 (fun _ h' P' => ⟨fun u => absurd u (by decide), fun _ => ⟨Nat.zero_le _, Nat.zero_le _, x1 z h' P'⟩⟩) (fun u => by cases u)
  rw [bI_1, bI_0]
  refine ⟨fun w => bad (fun z => by rw [inr_f] at w; exact w z.1), fun w1 => ?_⟩
  rw [inr_t] at w1
  refine in_ii hst (a := 1) (b := 999) ⟨by omega, by omega⟩ ⟨by omega, by omega⟩ rfl il_1 il_999 ?_
  rw [bI_1, bI_0]
  refine ⟨fun w => bad (fun z => by rw [inr_f] at w; exact w z.2.1), fun w2 => ?_⟩
  rw [inr_t] at w2
  refine in_ii hC (a := 1) (b := 8) ⟨by omega, by omega⟩ ⟨by omega, by omega⟩ rfl il_1 il_8 ?_
  rw [bI_1, bI_0]
  refine ⟨fun w3 => ?_, fun w => bad (fun z => by rw [inr_f] at w; exact w z.2.2)⟩
  rw [inr_t] at w3
  have q1 := q1 w1 w2 w3
  have x2 := x2 w1 w2 w3
  apply hJ43
  refine P1.mF (b := false) (e := 1) (Or.inl rfl) rfl il_1 (fun u => by cases u) (fun _ => ⟨fun _ => ?_, fun u => absurd rfl u⟩)
  intro J58 hJ58
  -- behind the count of those that take part
  have body : J58 (ii (cnt (tpf (EM S) now) (ntM S))) (ii ((ntM S : Nat) : Int)) := by
    apply hJ58
    refine P1.rI (k := 80) rfl rfl ?_
    rw [su_nei _ _ _ (by decide), n4, ii_le ⟨by omega, by omega⟩ ⟨by omega, by omega⟩]
    refine ⟨fun _ => ?_, fun z => absurd (Int.le_refl _) z⟩
    intro J124 hJ124 J119 hJ119
    have stop : ∀ S' h', Pic G A B S' h' → (∀ k, k ≠ 130 → k ≠ 131 → S' k = su S 80 0 0 k) → PL S' → ¬ (anyb (tpf (EM S) now) (ntM S) = true ∧ okb (EM S) C (st0 (EM S) now asks pr) = true) → J119 (A 80) h' := fun S' h' P' k1 k2 z => by
      apply hJ119; apply hJ124
      have e80 : S' 80 = su S 80 0 0 80 := k1 80 (by decide) (by decide)
      refine ⟨P'.o (k := 80) rfl, P'.fails (b := true) (e := 2) (Or.inr (Or.inl rfl)) (by rw [e80, su_at]) rfl il_2 (fun _ h2 P2 => ⟨fun u => absurd u (by decide), fun _ => ⟨Nat.zero_le _, Nat.zero_le _, x2 z _ h2 P2 (fun k a b => ?_) (k2.of (su_row _ _ (by decide)) (su_row _ _ (by decide)))⟩⟩) (fun u => by cases u)⟩
      by_cases y : k = 80
      · subst y
        funext i
        by_cases yi : i = 0
        · subst yi; rw [su_at, su_at]
        · rw [su_nei _ _ _ yi, su_nei _ _ _ yi, e80, su_nei _ _ _ yi]
      · rw [su_row _ _ y, su_row _ _ y, k1 k a b, su_row _ _ y]
    have c8 := cnt_in (tpf (EM S) now) (ntM S)
    rw [il_0, ii_eq ⟨by omega, by omega⟩ ⟨by decide, by decide⟩, ← il_0]
    refine ⟨fun z => stop _ h1 P1 (fun _ _ _ => rfl) (hP.of (f0 130 (by decide)) (f0 131 (by decide))) (fun w => ?_), fun z => ?_⟩
    · have := cnt_any.mp w.1; omega
    · have any : anyb (tpf (EM S) now) (ntM S) = true := cnt_any.mpr (by omega)
      refine ⟨P1.o (k := 80) rfl, P1.mcs0 hM1 (hP.of (f0 130 (by decide)) (f0 131 (by decide))) (now := now) (asks := asks) (fun j hj => by rw [f0 113 (by decide)]; exact hnow j hj) (fun j hj => by rw [f0 114 (by decide)]; exact hask j hj) har hpr (C := C) ⟨by omega, by omega⟩ rfl (fun S2 h2 P2 k1 k2 => ?_)⟩
      rw [e1, bI_1, bI_0]
      refine ⟨fun ok => ?_, fun no => stop S2 h2 P2 k1 k2 (fun w => by rw [no] at w; exact absurd w.2 (by decide))⟩
      apply hJ124
      have e80 : S2 80 = su S 80 0 0 80 := k1 80 (by decide) (by decide)
      have f2 : ∀ k, k ≠ 80 → ¬ ksm k → S2 k = S k := fun k a b => by rw [k1 k (fun z => b (by unfold ksm; omega)) (fun z => b (by unfold ksm; omega)), f0 k a]
      obtain ⟨hM2, eE2, eN2⟩ := hM1.of (S' := S2) (fun k hk => k1 k (by omega) (by omega))
      refine ⟨P2.o (k := 80) rfl, P2.fails (b := false) (e := 2) (Or.inr (Or.inl rfl)) (by rw [e80, su_at]) rfl il_2 (fun u => by cases u) (fun _ => ⟨fun _ => ?_, fun u => absurd rfl u⟩)⟩
      obtain ⟨Z, hZ⟩ : ∃ Z, Z = sres (EM S) C now asks pr stp := ⟨_, rfl⟩
      have q1 := q1 any ok Z hZ
      refine P2.mstart hM2 (now := now) (asks := asks) (fun j hj => by rw [f2 113 (by decide) (fun z => by unfold ksm at z; omega)]; exact hnow j hj) (fun j hj => by rw [f2 114 (by decide) (fun z => by unfold ksm at z; omega)]; exact hask j hj) har hpr (K := fun x5_15 h17 => wrF h17 (A 80) 12 19 (.int 1) (fun h18 => wrF h18 (A 80) 12 21 (.int (ii C)) (fun h19 => wrF h19 (A 80) 12 20 (.int 0) (fun h20 => ms_loop G (A 80) (ii stp) (ii C) x5_15 (ii pr) h20 bc bs post)))) (fun S3 h3 P3 m1 m2 => ?_)
      rw [eE2, e1] at m2
      rw [eE2, e1]
      refine P3.wF (k := 80) (z := 1) ⟨by decide, by decide, by decide, by decide⟩ rfl (by show 19 < 36; decide) rfl (fun h4 P4 => ?_)
      refine P4.wF (k := 80) (z := C) ⟨by decide, by decide, by decide, by decide⟩ rfl (by show 21 < 36; decide) rfl (fun h5 P5 => ?_)
      refine P5.wF (k := 80) (z := 0) ⟨by decide, by decide, by decide, by decide⟩ rfl (by show 20 < 36; decide) rfl (fun h6 P6 => ?_)
      obtain ⟨S6, hS6⟩ : ∃ S6, S6 = su (su (su S3 80 19 1) 80 21 C) 80 20 0 := ⟨_, rfl⟩
      rw [← hS6] at P6
      have f6 : ∀ k, k ≠ 80 → S6 k = S3 k := fun k hk => by rw [hS6, su_row _ _ hk, su_row _ _ hk, su_row _ _ hk]
      have g6 : ∀ i, i ≠ 0 → i ≠ 19 → i ≠ 20 → i ≠ 21 → S6 80 i = S 80 i := fun i a b c d => by rw [hS6, su_nei _ _ _ c, su_nei _ _ _ d, su_nei _ _ _ b, m1 80 (by decide) (by decide) (by decide), e80, su_nei _ _ _ a]
      have g60 : S6 80 0 = 0 := by rw [hS6, su_nei _ _ _ (by decide), su_nei _ _ _ (by decide), su_nei _ _ _ (by decide), m1 80 (by decide) (by decide) (by decide), e80, su_at]
      have g619 : S6 80 19 = 1 := by rw [hS6, su_nei _ _ _ (by decide), su_nei _ _ _ (by decide), su_at]
      have g621 : S6 80 21 = C := by rw [hS6, su_nei _ _ _ (by decide), su_at]
      have g620 : S6 80 20 = 0 := by rw [hS6, su_at]
      clear hS6
      have f6k : ∀ k, k ≠ 80 → ¬ ksm k → S6 k = S k := fun k a b => by rw [f6 k a, m1 k (fun z => b (by unfold ksm; omega)) (fun z => b (by unfold ksm; omega)) (fun z => b (by unfold ksm; omega)), f2 k a b]
      obtain ⟨hM6, eE6, eN6⟩ := hM.ofi (S' := S6) (fun k _ _ => f6k k (by omega) (fun z => by unfold ksm at z; omega)) (fun i _ _ => g6 i (by omega) (by omega) (by omega) (by omega))
      have hJ0 : ∀ j, SJ (sq0 (EM S) now asks pr) (sq0 (EM S) now asks pr) j := fun j => SJ_0
      have h0 : ∀ j, ((sq0 (EM S) now asks pr).1 j || (sq0 (EM S) now asks pr).2.1 j) = true → j < ntM S := fun j hj => by
        have hj : (st0 (EM S) now asks pr j || si0 (EM S) now asks pr j) = true := hj
        rw [Bool.or_eq_true] at hj
        rcases hj with t | t
        · unfold st0 at t; rw [Bool.and_eq_true] at t; exact (tpf_n t.1).1
        · unfold si0 at t; rw [Bool.and_eq_true] at t; exact (tpf_n t.1).1
      refine P6.mloop 10000 hM6 (k2.of (by rw [f6 130 (by decide), m1 130 (by decide) (by decide) (by decide)]) (by rw [f6 131 (by decide), m1 131 (by decide) (by decide) (by decide)])) (asks := asks) (fun j hj => by rw [f6k 114 (by decide) (fun z => by unfold ksm at z; omega)]; exact hask j hj) har (C := C) ⟨by omega, by omega⟩ (at_ := pr) ⟨by omega, w1.2⟩ (by omega) w2 hJ0 (fun j hj => by rw [eN6]; exact h0 j hj) ⟨fun j hj => by rw [f6 123 (by decide)]; exact m2.1 j hj, fun j hj => by rw [f6 134 (by decide)]; exact m2.2.1 j hj, fun j hj => by rw [f6 122 (by decide)]; exact m2.2.2 j hj⟩ g620 (fun S7 h7 P7 r1 r2 r3 r4 r5 => ?_)
      rw [eE6, eN6] at r4 r5
      rw [eE6, eN6]
      have hZ' : srun (EM S) C asks stp (ntM S) 10000 (sq0 (EM S) now asks pr) pr 0 = Z := hZ.symm
      rw [hZ'] at r4 r5
      rw [hZ']
      have f7 : ∀ k, k ≠ 80 → ¬ ksm k → S7 k = S k := fun k a b => by rw [r1 k a b, f6k k a b]
      have g7 : ∀ i, i ≠ 0 → i ≠ 19 → i ≠ 20 → i ≠ 21 → S7 80 i = S 80 i := fun i a b c d => by rw [r2 i c, g6 i a b c d]
      obtain ⟨hM7, eE7, eN7⟩ := hM.ofi (S' := S7) (fun k _ _ => f7 k (by omega) (fun z => by unfold ksm at z; omega)) (fun i _ _ => g7 i (by omega) (by omega) (by omega) (by omega))
      have si := fun j => spr_i (E := EM S) (C := C) (now := now) (asks := asks) (pr := pr) (stp := stp) ⟨by omega, w1.2⟩ w2.1 j
      have SJz := fun j => (sres_i (E := EM S) (C := C) (now := now) (asks := asks) (pr := pr) (stp := stp) ⟨by omega, w1.2⟩ w2.1 j).1
      rw [← hZ] at si SJz
      have out : ∀ j, ntM S ≤ j → spr Z j = -1 ∧ Z.1.2.1 j = false := fun j hj => by
        have e : (((sq0 (EM S) now asks pr).1 j || (sq0 (EM S) now asks pr).2.1 j)) = false := Bool.eq_false_iff.mpr (fun z => by have := h0 j z; omega)
        have := (SJz j).2.2.2.1 e
        refine ⟨?_, this.2.1⟩
        unfold spr; rw [this.2.1, if_neg (by decide)]; exact this.2.2
      refine P7.mend (S0 := S) hM7 (RM.of (S1 := S) (fun k hk => f7 k (by omega) (fun z => by unfold ksm at z; omega)) (g7 4 (by decide) (by decide) (by decide) (by decide)) (g7 1 (by decide) (by decide) (by decide) (by decide)) (RM.base hR hlm)) (fun s hs => f7 _ (by omega) (fun z => by unfold ksm at z; omega)) (fun t ht => (hR.2.2.2 t (by rw [hR.1]; rw [eN7] at ht; omega)).1) eN7 (by rw [g7 1 (by decide) (by decide) (by decide) (by decide)]; exact hday) hcap hroom r4 (fun j => (si j).1) (fun j hj => (out j (by omega)).2) (fun A8 B8 S8 h8 uc us P8 a8 t1 t2 t3 t4 t5 => ?_)
      rw [eN7, ← cnt_ext n8 (f := fun j => decide (spr Z j ≠ -1)) (fun i hi => decide_eq_false (fun z => z (out i hi).1))]
      have t80 : S8 80 = S7 80 := t1 80 (fun z => by unfold kM at z; omega) (by decide)
      refine q1 A8 B8 S8 h8 uc us P8 a8 (fun k a b c => by rw [t1 k a (fun z => c (by unfold ksm; omega)), f7 k b c]) (fun i a b c d => by rw [t80, g7 i a b c d]) (by rw [t80, r2 0 (by decide), g60]) (by rw [t80, r2 19 (by decide), g619]) (by rw [t80, r2 21 (by decide), g621]) (by rw [t80, r5]) (fun j hj => by rw [t1 123 (fun z => by unfold kM at z; omega) (by decide)]; exact r4.1 j hj) t2 (fun j => ?_) (r3.of (t1 130 (fun z => by unfold kM at z; omega) (by decide)) (t1 131 (fun z => by unfold kM at z; omega) (by decide))) t4 t5
      rw [t3 j, eN7, f7 113 (by decide) (fun z => by unfold ksm at z; omega)]
  have main : ∀ i : Nat, i ≤ ntM S → J58 (ii (cnt (tpf (EM S) now) i)) (ii (i : Int)) := by
    intro i hi
    refine lp_up (J := fun i : Nat => J58 (ii (cnt (tpf (EM S) now) i)) (ii (i : Int))) (n := ntM S) body ?_ hi
    intro i hi ih
    have ci := hM.2 i (by omega)
    have e7 := EM_7 (S := S) (show i < 8 by omega)
    have p7i := p7 i
    have ec : cnt (tpf (EM S) now) (i + 1) = cnt (tpf (EM S) now) i + bI (tpf (EM S) now i) := rfl
    rw [ec] at ih
    have et : tpf (EM S) now i = (decide (EM S 7 i = 1) && decide (S 113 i ≠ -1)) := by unfold tpf prm; rw [n5, hnow i (by omega), decide_eq_true hi, Bool.true_and]
    apply hJ58
    refine P1.rI (k := 80) rfl rfl ?_
    rw [su_nei _ _ _ (by decide), n4, ii_le ⟨by omega, by omega⟩ ⟨by omega, by omega⟩]
    refine ⟨fun z => absurd z (by omega), fun _ => ?_⟩
    refine P1.mprot rfl (by omega) ?_
    rw [f0 112 (by decide), ← e7]
    intro J95 hJ95 J94 hJ94
    have go : ∀ x : Int, x = bI (tpf (EM S) now i) → J95 (ii (cnt (tpf (EM S) now) i)) (ii x) := fun x hx => by
      apply hJ95; rw [ii_add, ii_inc', hx]; exact ih
    have no : tpf (EM S) now i = false → J94 (ii (cnt (tpf (EM S) now) i)) := fun z => hJ94 _ (go 0 (by rw [z]; rfl))
    rw [il_0, ii_eq ⟨by omega, by omega⟩ ⟨by decide, by decide⟩]
    refine ⟨fun w => no (by rw [et, decide_eq_false (show ¬ EM S 7 i = 1 by omega)]; rfl), fun w => ?_⟩
    refine P1.mnow rfl (by omega) ?_
    rw [f0 113 (by decide), il_m1, ii_eq ⟨by omega, by omega⟩ ⟨by decide, by decide⟩]
    exact ⟨fun u => no (by rw [et, decide_eq_false (show ¬ S 113 i ≠ -1 from fun k => k u), Bool.and_false]), fun u => go 1 (by rw [et, decide_eq_true (show EM S 7 i = 1 by omega), decide_eq_true u]; rfl)⟩
  exact main 0 (by omega)
end MSS
