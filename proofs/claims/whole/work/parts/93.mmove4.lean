/-! the reference: move -/
section MVM
variable {G : Gx} {A : Nat → Nat} {B : Nat → Nat → Nat} {S : Nat → Nat → Int} {h : hw}
/-- the same, with nothing said of what comes out -/
theorem Pic.mpk2 (P : Pic G A B S h) (hM : MO S) (hP : PL S) {m : Nat → Bool} {C : Int} (hC : 0 ≤ C ∧ C ≤ 8) {y : Int32} (hy : y = ii C) (h130 : ∀ j, j < ntM S → S 130 j = bI (m j)) {post : Int32 → hw → Prop} (q1 : ∀ S' h', Pic G A B S' h' → (∀ k, k ≠ 131 → S' k = S k) → PL S' → fst (EM S) (fun j => decide (j < ntM S) && m j) C 0 (fun _ => -1) (S' 131) → post 1 h') (q0 : ∀ S' h', Pic G A B S' h' → (∀ k, k ≠ 131 → S' k = S k) → PL S' → ¬ okp (EM S) (fun j => decide (j < ntM S) && m j) C 0 (fun _ => -1) → post 0 h') : wp_X12_packs G 10 (A 80) 0 y h post := by
  obtain ⟨n8, n4, n5⟩ := ntM_8 hM
  have em : ∀ i, i < 8 → memM S i = (decide (i < ntM S) && m i) := fun i hi => by
    unfold memM
    by_cases w : i < ntM S
    · rw [h130 i w, decide_eq_true w, Bool.true_and]
      cases m i
      · exact decide_eq_false (fun z => by have := z.2; cases this)
      · exact decide_eq_true ⟨w, rfl⟩
    · rw [decide_eq_false (fun z => w z.1), decide_eq_false w, Bool.false_and]
  refine Pic.mpacks (ntM S) 0 10 (by omega) (by omega) P hM hP hC il_0 hy (fun S3 h3 P3 k1 k2 k3 => q1 S3 h3 P3 k1 k2 ?_) (fun S3 h3 P3 k1 k2 k3 k4 => q0 S3 h3 P3 k1 k2 (fun z => k4 (okp_0 (okp_m (fun i hi => (em i hi).symm) z))))
  exact fst_m em ⟨fun i hi => by omega, k3.2⟩
theorem Pic.m_move (P : Pic G A B S h) (hM : MO S) (hP : PL S) (hR : RG S) (hlm : ∀ j : Nat, j < ntM S → ∀ d, S 80 1 ≤ d → LM S j d = S 113 j) (hday : 0 ≤ S 80 1 ∧ S 80 1 ≤ 100000) (hcap : ∀ t, t < 8 → S (170 + t) 3 ≤ 4000) {bc bs : Nat} (hroom : ∀ (S' : Nat → Nat → Int) (uc us : Nat), RT S S' uc us → uc ≤ bc ∧ us ≤ bs) {now : Nat → Int} (hnow : ∀ j, j < 8 → S 113 j = now j) {mv : Nat → Bool} (hmv : ∀ j, j < ntM S → mv j = (decide (S 123 j = 1) && decide (now j ≠ -1))) (hmn : ∀ j, mv j = true → j < ntM S ∧ EM S 7 j = 1) (h123 : ∀ j, j < 8 → S 123 j = 0 ∨ S 123 j = 1) (h19 : S 80 19 = 0 ∨ S 80 19 = 1) {C : Int} (hC : S 80 21 = C) (hC8 : 0 ≤ C ∧ C ≤ 8) {cr : Int} (hcr : rg cr) {p : Nat → Int} (hp : (1 ≤ cr ∧ cr ≤ 4) → S 80 19 = 1 → okp (EM S) mv C 0 (fun _ => -1) → fst (EM S) mv C 0 (fun _ => -1) p) {post : Int32 → hw → Prop} (q1 : (1 ≤ cr ∧ cr ≤ 4) → S 80 19 = 1 → okp (EM S) mv C 0 (fun _ => -1) → ∀ Z, Z = mres (EM S) mv p now cr → ∀ A' B' S' h' uc us, Pic G A' B' S' h' → (∀ k, k < 180 → A' k = A k) → (∀ k, ¬ kmv k → k ≠ 80 → k ≠ 130 → k ≠ 131 → k ≠ 135 → S' k = S k) → (∀ i, i ≠ 0 → i ≠ 28 → S' 80 i = S 80 i) → S' 80 0 = 0 → S' 80 28 = Z.2.2.1 → (∀ j, j < 8 → S' 113 j = Z.1 j) → (∀ j, j < 8 → S' 129 j = Z.2.1 j) → (∀ j, j < 8 → -1 ≤ S' 129 j ∧ S' 129 j ≤ 16) → MO S' → PL S' → RM S S' → RT S S' uc us → post (ii Z.2.2.2) h') (x1 : ¬ (1 ≤ cr ∧ cr ≤ 4) → ∀ h', Pic G A B (su S 80 0 1) h' → post 0 h') (x2 : (1 ≤ cr ∧ cr ≤ 4) → ¬ (S 80 19 = 1 ∧ okp (EM S) mv C 0 (fun _ => -1)) → ∀ S' h', Pic G A B S' h' → (∀ k, k ≠ 130 → k ≠ 131 → S' k = su S 80 0 2 k) → PL S' → post 0 h') : wp_X12_move G (A 80) (ii cr) h bc bs post := by
  obtain ⟨n8, n4, n5⟩ := ntM_8 hM
  obtain ⟨hM1, e1, e2⟩ := hM.t 0
  refine P.thr0 (fun h1 P1 => ?_)
  have f0 : ∀ k, k ≠ 80 → su S 80 0 0 k = S k := fun k hk => su_row _ _ hk
  have g0 : ∀ i, i ≠ 0 → su S 80 0 0 80 i = S 80 i := fun i hi => su_nei _ _ _ hi
  refine P1.mIn hcr (a := 1) (b := 4) ⟨by omega, by omega⟩ ⟨by omega, by omega⟩ (e := 1) (Or.inl rfl) rfl il_1 il_4 il_1 (fun z h' P' => ⟨fun u => absurd u (by decide), fun _ => ⟨Nat.zero_le _, Nat.zero_le _, x1 z h' P'⟩⟩) (fun z => ⟨fun _ => ?_, fun u => absurd rfl u⟩)
  have q1 := q1 z
  have x2 := x2 z
  obtain ⟨m0, hm0⟩ : ∃ m0 : Nat → Bool, m0 = fun j => decide (S 80 19 = 1) && mv j := ⟨_, rfl⟩
  intro J31 hJ31
  have main : ∀ i : Nat, i ≤ ntM S → ∀ (S' : Nat → Nat → Int) (h' : hw), Pic G A B S' h' → (∀ k, k ≠ 130 → S' k = su S 80 0 0 k) → (∀ j, j < i → S' 130 j = bI (m0 j)) → (∀ j, i ≤ j → S' 130 j = S 130 j) → J31 (ii (i : Int)) h' := by
    intro i hi
    refine lp_up (J := fun i : Nat => ∀ (S' : Nat → Nat → Int) (h' : hw), Pic G A B S' h' → (∀ k, k ≠ 130 → S' k = su S 80 0 0 k) → (∀ j, j < i → S' 130 j = bI (m0 j)) → (∀ j, i ≤ j → S' 130 j = S 130 j) → J31 (ii (i : Int)) h') (n := ntM S) ?_ ?_ hi
    · intro S2 h2 P2 k1 k2 k3
      have e80 : S2 80 = su S 80 0 0 80 := k1 80 (by decide)
      have pl2 : PL S2 := ⟨fun i hi => by rw [k1 131 (by decide), f0 131 (by decide)]; exact hP.1 i hi, fun j hj => by
        by_cases w : j < ntM S
        · rw [k2 j w]; exact b01 _
        · rw [k3 j (by omega)]; exact hP.2 j hj⟩
      obtain ⟨hM2, eE2, eN2⟩ := hM1.of (S' := S2) (fun k hk => k1 k (by omega))
      rw [e1] at eE2
      rw [e2] at eN2
      apply hJ31
      refine P2.rI (k := 80) rfl rfl ?_
      rw [e80, g0 4 (by decide), n4, ii_le ⟨by omega, by omega⟩ ⟨by omega, by omega⟩]
      refine ⟨fun _ => ?_, fun z => absurd (Int.le_refl _) z⟩
      refine P2.rI (k := 80) rfl rfl ?_
      rw [e80, g0 19 (by decide)]
      intro J107 hJ107 J102 hJ102
      have stop : ∀ S' h', Pic G A B S' h' → (∀ k, k ≠ 130 → k ≠ 131 → S' k = su S 80 0 0 k) → PL S' → ¬ (S 80 19 = 1 ∧ okp (EM S) mv C 0 (fun _ => -1)) → J102 (A 80) h' := fun S' h' P' k1 k2 z => by
        apply hJ102; apply hJ107
        have e80 : S' 80 = su S 80 0 0 80 := k1 80 (by decide) (by decide)
        refine ⟨P'.o (k := 80) rfl, P'.fails (b := true) (e := 2) (Or.inr (Or.inl rfl)) (by rw [e80, su_at]) rfl il_2 (fun _ h2 P2 => ⟨fun u => absurd u (by decide), fun _ => ⟨Nat.zero_le _, Nat.zero_le _, x2 z _ h2 P2 (fun k a b => ?_) (k2.of (su_row _ _ (by decide)) (su_row _ _ (by decide)))⟩⟩) (fun u => by cases u)⟩
        by_cases y : k = 80
        · subst y
          funext i
          by_cases yi : i = 0
          · subst yi; rw [su_at, su_at]
          · rw [su_nei _ _ _ yi, su_nei _ _ _ yi, e80, su_nei _ _ _ yi]
        · rw [su_row _ _ y, su_row _ _ y, k1 k a b, su_row _ _ y]
      rw [show (ii (S 80 19) = 0) = (ii (S 80 19) = ii 0) from rfl, ii_eq ⟨by omega, by omega⟩ ⟨by decide, by decide⟩]
      refine ⟨fun w => stop S2 h2 P2 (fun k a _ => k1 k a) pl2 (fun u => by omega), fun w => ?_⟩
      have s1 : S 80 19 = 1 := by omega
      have em0 : ∀ j, m0 j = mv j := fun j => by rw [hm0]; show (decide (S 80 19 = 1) && mv j) = mv j; rw [decide_eq_true s1]; rfl
      refine P2.rI (k := 80) rfl rfl ?_
      rw [e80, g0 21 (by decide), hC]
      have mm : ∀ i, i < 8 → (decide (i < ntM S2) && mv i) = mv i := fun i _ => by
        rw [eN2]
        cases y : mv i with
        | true => rw [decide_eq_true (hmn i y).1]; rfl
        | false => rw [Bool.and_false]
      refine ⟨P2.o (k := 80) rfl, ?_⟩
      refine P2.mpk2 hM2 pl2 (m := mv) hC8 rfl (fun j hj => by rw [eN2] at hj; rw [k2 j hj, em0]) (post := fun r92 h93 => ((¬ r92 = 0 → J107 (A 80) 0 h93) ∧ (r92 = 0 → J102 (A 80) h93))) (fun S3 h3 P3 r1 r2 r3 => ?_) (fun S3 h3 P3 r1 r2 r3 => ⟨fun u => absurd rfl u, fun _ => stop S3 h3 P3 (fun k a b => by rw [r1 k b, k1 k a]) r2 (fun y => r3 (by rw [eE2]; exact okp_m (fun i hi => (mm i hi).symm) y.2))⟩)
      · refine ⟨fun _ => ?_, fun u => absurd u (by decide)⟩
        rw [eE2] at r3
        have r3 := fst_m mm r3
        have ok := fst_ok r3
        have q1 := q1 s1 ok
        have pe : ∀ j, j < 8 → mv j = true → S3 131 j = p j := fun j hj hm => fst_one (fun i hi => by omega) r3 (hp z s1 ok) j hj hm
        have e80b : S3 80 = su S 80 0 0 80 := by rw [r1 80 (by decide), e80]
        have f3 : ∀ k, k ≠ 80 → k ≠ 130 → k ≠ 131 → S3 k = S k := fun k a b c => by rw [r1 k c, k1 k b, f0 k a]
        apply hJ107
        refine ⟨P3.o (k := 80) rfl, P3.fails (b := false) (e := 2) (Or.inr (Or.inl rfl)) (by rw [e80b, su_at]) rfl il_2 (fun u => by cases u) (fun _ => ⟨fun _ => ?_, fun u => absurd rfl u⟩)⟩
        refine P3.wF (k := 80) (z := 0) ⟨by decide, by decide, by decide, by decide⟩ rfl (by show 28 < 36; decide) rfl (fun h4 P4 => ?_)
        obtain ⟨S4, hS4⟩ : ∃ S4, S4 = su S3 80 28 0 := ⟨_, rfl⟩
        rw [← hS4] at P4
        have f4 : ∀ k, k ≠ 80 → S4 k = S3 k := fun k hk => by rw [hS4, su_row _ _ hk]
        have g4 : ∀ i, i ≠ 0 → i ≠ 28 → S4 80 i = S 80 i := fun i a b => by rw [hS4, su_nei _ _ _ b, e80b, g0 i a]
        have g40 : S4 80 0 = 0 := by rw [hS4, su_nei _ _ _ (by decide), e80b, su_at]
        have g428 : S4 80 28 = 0 := by rw [hS4, su_at]
        clear hS4
        have d130 : ∀ j, j < ntM S → S4 130 j = bI (mv j) := fun j hj => by rw [f4 130 (by decide), r1 130 (by decide), k2 j hj, em0]
        have d131 : ∀ j, j < 8 → mv j = true → S4 131 j = p j := fun j hj hm => by rw [f4 131 (by decide)]; exact pe j hj hm
        have pl4 : PL S4 := r2.of (f4 130 (by decide)) (f4 131 (by decide))
        obtain ⟨wt, hwt⟩ : ∃ wt : Nat → Bool, wt = fun j => mv j && !(decide (now j = p j)) := ⟨_, rfl⟩
        obtain ⟨ph, hph⟩ : ∃ ph : Nat → Int, ph = fun j => if (mv j && decide (now j = p j)) = true then 0 else -1 := ⟨_, rfl⟩
        obtain ⟨to_, hto_⟩ : ∃ to_ : Nat → Int, to_ = fun j => if mv j = true then p j else -1 := ⟨_, rfl⟩
        have pr : ∀ j, j < 8 → mv j = true → 0 ≤ p j ∧ p j ≤ 7 := fun j hj hm => by rw [← d131 j hj hm]; exact pl4.1 j hj
        intro J125 hJ125
        have lp : ∀ i : Nat, i ≤ 8 → ∀ (S' : Nat → Nat → Int) (h' : hw), Pic G A B S' h' → (∀ k, k ≠ 129 → k ≠ 135 → S' k = S4 k) → (∀ j, j < i → S' 135 j = to_ j ∧ S' 129 j = ph j) → J125 (ii (cnt wt i)) (ii (i : Int)) h' := by
          intro i hi
          refine lp_up (J := fun i : Nat => ∀ (S' : Nat → Nat → Int) (h' : hw), Pic G A B S' h' → (∀ k, k ≠ 129 → k ≠ 135 → S' k = S4 k) → (∀ j, j < i → S' 135 j = to_ j ∧ S' 129 j = ph j) → J125 (ii (cnt wt i)) (ii (i : Int)) h') (n := 8) ?_ ?_ hi
          · intro S5 h5 P5 t1 t2
            apply hJ125
            rw [il_8, ii_le ⟨by omega, by omega⟩ ⟨by omega, by omega⟩]
            refine ⟨fun _ => ?_, fun z => absurd (Int.le_refl _) z⟩
            intro J247 hJ247
            have e5 : S5 80 = S4 80 := t1 80 (by decide) (by decide)
            have f5 : ∀ k, k ≠ 80 → k ≠ 129 → k ≠ 130 → k ≠ 131 → k ≠ 135 → S5 k = S k := fun k a b c d e => by rw [t1 k b e, f4 k a, f3 k a c d]
            have g5 : ∀ i, i ≠ 0 → i ≠ 28 → S5 80 i = S 80 i := fun i a b => by rw [e5, g4 i a b]
            obtain ⟨hM5, eE5, eN5⟩ := hM.ofi (S' := S5) (fun k _ _ => f5 k (by omega) (by omega) (by omega) (by omega) (by omega)) (fun i _ _ => g5 i (by omega) (by omega))
            have ce : cnt wt 8 = cnt wt (ntM S) := cnt_ext n8 (fun i hi => by
              rw [hwt]; show (mv i && _) = false
              cases y : mv i with
              | true => have := (hmn i y).1; omega
              | false => rfl)
            have wn : ∀ i, wt i = true → mv i = true := fun i hi => by
              rw [hwt] at hi
              have hi : (mv i && !(decide (now i = p i))) = true := hi
              rw [Bool.and_eq_true] at hi; exact hi.1
            have run : J247 (ii (bI (anyb wt (ntM S)))) := by
              apply hJ247
              intro J249 hJ249
              rw [ce]
              refine Pic.mvrun (S0 := S) 16 (a80 := A 80) (E := EM S) (N := ntM S) (bc := bc) (bs := bs) (fun t ht => (hR.2.2.2 t (by rw [hR.1]; omega)).1) rfl hcap hroom (pl := p) (to_ := to_) (fun j hj => ?_) z (post := post) hJ249 (wt := wt) (now := now) (ph := ph) (dk := 0) (ps := 0) P5 rfl hM5 eE5 eN5 (RM.of (S1 := S) (fun k hk => f5 k (by omega) (by omega) (by omega) (by omega) (by omega)) (g5 4 (by decide) (by decide)) (g5 1 (by decide) (by decide)) (RM.base hR hlm)) (RT.base.of (fun t ht => f5 _ (by omega) (by omega) (by omega) (by omega) (by omega))) (by rw [g5 1 (by decide) (by decide)]; exact hday) ⟨by decide, by decide⟩ ⟨fun j hj => (t2 j hj).1, fun j hj => (t2 j hj).2, fun j hj => by rw [f5 113 (by decide) (by decide) (by decide) (by decide) (by decide)]; exact hnow j hj, fun j hj => ?_, fun j hj => ?_⟩ (fun j hj => ?_) (by have := sm_pw wt now (ntM S); omega) (by rw [e5, g428]) (fun Z hZ A6 B6 S6 h6 uc us P6 a6 y1 y2 y3 y4 y5 y6 y7 y8 y9 => ?_)
              · rw [hto_]; show -1 ≤ (if mv j = true then p j else -1) ∧ (if mv j = true then p j else -1) ≤ 7 ∧ ((if mv j = true then p j else -1) ≠ -1 → (if mv j = true then p j else -1) = p j ∧ _)
                by_cases y : mv j = true
                · rw [if_pos y]; have := pr j hj y; exact ⟨by omega, by omega, fun _ => ⟨rfl, hmn j y⟩⟩
                · rw [if_neg y]; exact ⟨by omega, by omega, fun u => absurd rfl u⟩
              · rw [hwt, hto_, hph]
                show (mv j && !(decide (now j = p j))) = (decide ((if mv j = true then p j else -1) ≠ -1) && decide ((if (mv j && decide (now j = p j)) = true then (0 : Int) else -1) = -1))
                cases y : mv j with
                | true =>
                  have := pr j hj y
                  rw [if_pos rfl, decide_eq_true (p := p j ≠ -1) (by omega), Bool.true_and, Bool.true_and, Bool.true_and]
                  by_cases w : now j = p j
                  · rw [decide_eq_true w]; rfl
                  · rw [decide_eq_false w]; rfl
                | false => rfl
              · rw [hph]; show -1 ≤ (if _ then (0 : Int) else -1) ∧ (if _ then (0 : Int) else -1) ≤ 16
                split <;> omega
              · rw [f5 _ (by omega) (by omega) (by omega) (by omega) (by omega)]
                have : pot (EM S) wt now j ≤ 2 := by
                  unfold pot
                  split
                  · split <;> omega
                  · split
                    · omega
                    · split <;> omega
                omega
              · have hZ' : Z = mres (EM S) mv p now cr := by rw [hZ, hwt, hph]; rfl
                refine q1 Z hZ' A6 B6 S6 h6 uc us P6 a6 (fun k a b c d e => by rw [y1 k a b, f5 k b (fun y => a (Or.inr y)) c d e]) (fun i a b => by rw [y2 i b, g5 i a b]) (by rw [y2 0 (by decide), e5, g40]) y9 y6 y7 y8 y5 (pl4.of ?_ ?_) y3 y4
                · rw [y1 130 (fun z => by unfold kmv kM at z; omega) (by decide), t1 130 (by decide) (by decide)]
                · rw [y1 131 (fun z => by unfold kmv kM at z; omega) (by decide), t1 131 (by decide) (by decide)]
            have c8 := cnt_in wt 8
            rw [il_0, ii_le ⟨by omega, by omega⟩ ⟨by omega, by omega⟩]
            refine ⟨fun y => ?_, fun y => ?_⟩
            · have : anyb wt (ntM S) = false := Bool.eq_false_iff.mpr (fun u => by have := cnt_any.mp u; omega)
              rw [this] at run; exact run
            · have : anyb wt (ntM S) = true := cnt_any.mpr (by omega)
              rw [this] at run; exact run
          · intro i hi ih S5 h5 P5 t1 t2
            have e5 : S5 80 = S4 80 := t1 80 (by decide) (by decide)
            have ci := hM.2 i hi
            have ec : cnt wt (i + 1) = cnt wt i + bI (wt i) := rfl
            rw [ec] at ih
            have ewt : wt i = (mv i && !(decide (now i = p i))) := by rw [hwt]
            have eph : ph i = if (mv i && decide (now i = p i)) = true then 0 else -1 := by rw [hph]
            have eto : to_ i = if mv i = true then p i else -1 := by rw [hto_]
            apply hJ125
            rw [il_8, ii_le ⟨by omega, by omega⟩ ⟨by omega, by omega⟩]
            refine ⟨fun z => absurd z (by omega), fun _ => ?_⟩
            refine P5.rI (k := 80) rfl rfl ?_
            rw [e5, g4 4 (by decide) (by decide), n4, ii_le ⟨by omega, by omega⟩ ⟨by omega, by omega⟩]
            intro J153 hJ153 J152 hJ152
            have part : ∀ b : Bool, b = mv i → J153 (ii (bI b)) := fun b hb => by
              apply hJ153
              refine P5.rR (k := 80) rfl rfl ?_
              intro J175 hJ175
              have go : ∀ y : Int, y = to_ i → J175 (A 135) (ii (i : Int)) (ii y) := fun y hy => by
                apply hJ175
                refine P5.mst (k := 135) (i := i) (z := y) (by decide) (by decide) rfl rfl rfl (show _ < 8 from hi) (fun h6 P6 => ?_)
                refine P6.rR (k := 80) rfl rfl ?_
                intro J206 hJ206 J205 hJ205
                have f113 : su S5 135 i y 113 i = now i := by rw [su_row _ _ (by decide), t1 113 (by decide) (by decide), f4 113 (by decide), f3 113 (by decide) (by decide) (by decide)]; exact hnow i hi
                have go2 : ∀ w : Int, w = ph i → J206 (A 129) (ii (i : Int)) (ii w) := fun w hw5 => by
                  apply hJ206
                  refine P6.mst (k := 129) (i := i) (z := w) (by decide) (by decide) rfl rfl rfl (show _ < 8 from hi) (fun h7 P7 => ?_)
                  intro J228 hJ228 J227 hJ227
                  have fin : ∀ x : Int, x = bI (wt i) → J228 (ii (cnt wt i)) (ii x) := fun x hx => by
                    apply hJ228
                    rw [ii_inc', ii_add, hx]
                    refine ih _ h7 P7 (fun k a b => by rw [su_row _ _ a, su_row _ _ b, t1 k a b]) (fun j hj => ?_)
                    rw [su_ne (k := 129) (k' := 135) _ _ _ (by decide)]
                    by_cases y5 : j = i
                    · subst y5; rw [su_at, su_at]; exact ⟨hy, hw5⟩
                    · have := t2 j (by omega)
                      rw [su_nei _ _ _ y5, su_nei _ _ _ y5, su_ne (k := 135) (k' := 129) _ _ _ (by decide)]; exact this
                  have no : wt i = false → J227 (ii (cnt wt i)) := fun u => hJ227 _ (fin 0 (by rw [u]; rfl))
                  rw [bI_1, bI_0]
                  refine ⟨fun u => no (by rw [ewt, ← hb, u]; rfl), fun u => ?_⟩
                  refine P7.md (k := 129) (i := i) ⟨by decide, by decide, rfl, rfl⟩ rfl (show _ < 8 from hi) ?_
                  rw [← hb, u, Bool.true_and] at ewt eph
                  have wr : w = 0 ∨ w = -1 := by rw [hw5, eph]; split <;> omega
                  rw [su_at, show ((-1) : Int32) = ii (-1) from il_m1, ii_eq ⟨by omega, by omega⟩ ⟨by decide, by decide⟩]
                  refine ⟨fun v => no ?_, fun v => fin 1 ?_⟩
                  · rw [ewt]
                    by_cases y6 : now i = p i
                    · rw [decide_eq_true y6]; rfl
                    · rw [decide_eq_false y6, if_neg (by decide)] at eph; omega
                  · rw [ewt]
                    by_cases y6 : now i = p i
                    · rw [decide_eq_true y6, if_pos rfl] at eph; omega
                    · rw [decide_eq_false y6]; rfl
                have no : ph i = -1 → J205 (A 129) (ii (i : Int)) := fun u => hJ205 _ _ (by rw [il_m1]; exact go2 (-1) u.symm)
                rw [bI_1, bI_0]
                refine ⟨fun u => no (by rw [eph, ← hb, u]; rfl), fun u => ?_⟩
                refine P6.mnow rfl hi ?_
                refine P6.md (k := 135) (i := i) ⟨by decide, by decide, rfl, rfl⟩ rfl (show _ < 8 from hi) ?_
                rw [← hb, u, if_pos rfl] at eto
                rw [← hb, u, Bool.true_and] at eph
                have pri := pr i hi (by rw [← hb, u])
                rw [f113, su_at, ii_eq ⟨by rw [← hnow i hi]; omega, by rw [← hnow i hi]; omega⟩ ⟨by omega, by omega⟩, hy, eto]
                refine ⟨fun v => no (by rw [eph, decide_eq_false v, if_neg (by decide)]), fun v => go2 0 (by rw [eph, decide_eq_true v, if_pos rfl])⟩
              rw [bI_1, bI_0]
              refine ⟨fun u => by rw [il_m1]; exact go (-1) (by rw [eto, ← hb, u, if_neg (by decide)]), fun u => ?_⟩
              refine P5.md (k := 131) (i := i) ⟨by decide, by decide, rfl, rfl⟩ rfl (show _ < 8 from hi) ?_
              refine go _ ?_
              rw [t1 131 (by decide) (by decide), d131 i hi (by rw [← hb, u]), eto, ← hb, u, if_pos rfl]
            have no : mv i = false → J152 := fun u => hJ152 (part false u.symm)
            refine ⟨fun u => no (Bool.eq_false_iff.mpr (fun v => by have := (hmn i v).1; omega)), fun u => ?_⟩
            refine P5.zd (k := 130) (i := i) ⟨by decide, by decide, rfl, rfl⟩ rfl (show _ < 8 from hi) ?_
            rw [t1 130 (by decide) (by decide), d130 i (by omega), bI_1, bI_0]
            exact ⟨fun v => no v, fun v => part true v.symm⟩
        have := lp 0 (by omega) S4 h4 P4 (fun _ _ _ => rfl) (fun j hj => by omega)
        exact this
    · intro i hi ih S2 h2 P2 k1 k2 k3
      have e80 : S2 80 = su S 80 0 0 80 := k1 80 (by decide)
      have ci := hM.2 i (by omega)
      have f113 : S2 113 i = now i := by rw [k1 113 (by decide), f0 113 (by decide)]; exact hnow i (by omega)
      have f123 : S2 123 i = S 123 i := by rw [k1 123 (by decide), f0 123 (by decide)]
      have em : m0 i = (decide (S 80 19 = 1) && (decide (S 123 i = 1) && decide (now i ≠ -1))) := by rw [hm0, ← hmv i hi]
      apply hJ31
      refine P2.rI (k := 80) rfl rfl ?_
      rw [e80, g0 4 (by decide), n4, ii_le ⟨by omega, by omega⟩ ⟨by omega, by omega⟩]
      refine ⟨fun z => absurd z (by omega), fun _ => ?_⟩
      refine P2.rR (k := 80) rfl rfl ?_
      refine P2.rI (k := 80) rfl rfl ?_
      rw [e80, g0 19 (by decide)]
      intro J75 hJ75 J74 hJ74
      have go : ∀ y : Int, y = bI (m0 i) → J75 (A 130) (ii (i : Int)) (ii y) := fun y hy => by
        apply hJ75
        refine P2.zst (k := 130) (i := i) (z := y) (by decide) (by decide) rfl rfl rfl (by rw [hy]; exact b01 _) (show _ < 8 by omega) (fun h3 P3 => ?_)
        rw [ii_inc']
        refine ih _ h3 P3 (fun k hk => by rw [su_row _ _ hk, k1 k hk]) (fun j hj => ?_) (fun j hj => ?_)
        · by_cases w : j = i
          · subst w; rw [su_at, hy]
          · rw [su_nei _ _ _ w, k2 j (by omega)]
        · rw [su_nei _ _ _ (by omega), k3 j (by omega)]
      have no : m0 i = false → J74 (A 130) (ii (i : Int)) := fun u => hJ74 _ _ (go 0 (by rw [u]; rfl))
      have z0 : (0 : Int32) = ii 0 := il_0
      rw [z0, ii_eq ⟨by omega, by omega⟩ ⟨by decide, by decide⟩, ← z0]
      refine ⟨fun u => no (by rw [em, decide_eq_false (p := S 80 19 = 1) (by omega), Bool.false_and]), fun u => ?_⟩
      rw [decide_eq_true (p := S 80 19 = 1) (by omega), Bool.true_and] at em
      refine P2.zd (k := 123) (i := i) ⟨by decide, by decide, rfl, rfl⟩ rfl (show _ < 8 by omega) ?_
      have c123 := h123 i (by omega)
      rw [f123, z0, ii_eq ⟨by omega, by omega⟩ ⟨by decide, by decide⟩]
      refine ⟨fun u => no (by rw [em, decide_eq_false (p := S 123 i = 1) (by omega), Bool.false_and]), fun u => ?_⟩
      rw [decide_eq_true (p := S 123 i = 1) (by omega), Bool.true_and] at em
      refine P2.mnow rfl (by omega) ?_
      rw [f113, il_m1, ii_eq ⟨by rw [← hnow i (by omega)]; omega, by rw [← hnow i (by omega)]; omega⟩ ⟨by decide, by decide⟩]
      exact ⟨fun u => no (by rw [em, decide_eq_false (p := now i ≠ -1) (fun k => k u)]), fun u => go 1 (by rw [em, decide_eq_true u]; rfl)⟩
  have := main 0 (Nat.zero_le _) _ h1 P1 (fun _ _ => rfl) (fun j hj => by omega) (fun j _ => by rw [f0 130 (by decide)])
  exact this
end MVM
