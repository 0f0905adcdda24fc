/-! the class: a whole selling; buying -/
section CS2
variable {G : Gx} {A : Nat → Nat} {B : Nat → Nat → Nat} {S : Nat → Nat → Int} {h : hw}
theorem srun_end {E : Nat → Nat → Int} {C : Int} {asks : Nat → Int} {stp : Int} {n f : Nat} {q : Sst} {at_ c : Int} (h : ¬ (anyb q.2.1 n && decide (stp ≤ at_)) = true) : srun E C asks stp n f q at_ c = (q, at_, c) := by
  cases f with
  | zero => rfl
  | succ f => exact if_neg h
theorem Pic.selRun (P : Pic G A B S h) (hK : KI S) {C : Int} (hR : PR S (EC S) C) {pr stp : Int} (hpr : 0 ≤ pr ∧ pr ≤ 9999) (hstp : 1 ≤ stp ∧ stp ≤ 999) {x : Int32} {q0 : Sst} (hq : SR S x q0) (hst : ∀ j, q0.1 j = true → j < nt (EC S)) (hsi : ∀ j, q0.2.1 j = true → j < nt (EC S)) (has : ∀ j, j < 8 → 0 ≤ S (70 + j) 5 ∧ S (70 + j) 5 ≤ 9999) (hle : ∀ j, q0.2.1 j = true → S (70 + j) 5 ≤ pr) (hf : FA S) {post : Int32 → hw → Prop} (q : ∀ (R : Sst × Int × Int), R = srun (EC S) C (fun j => S (70 + j) 5) stp (nt (EC S)) 10000 q0 pr (S 6 4) → ∀ S' h' x', Pic G A B S' h' → (∀ k, ¬ ks k → S' k = S k) → (∀ i, i ≠ 3 → i ≠ 4 → S' 6 i = S 6 i) → PR S' (EC S) C → (∀ j, bt (ii (S' 6 3)) j = R.1.1 j) → S' 6 4 = R.2.2 → (∀ j, j < 8 → S' 42 j = if R.1.2.1 j = true then R.2.1 else R.1.2.2 j) → FA S' → (∀ j, bt x' j = (bt x j && !(R.1.1 j))) → post x' h') : wp_X8_run G (A 6) (A 1) (A 5) x (ii pr) (ii stp) h post := by
  obtain ⟨h8, hn⟩ := nt8 hK
  obtain ⟨R, hRR⟩ : ∃ R, R = srun (EC S) C (fun j => S (70 + j) 5) stp (nt (EC S)) 10000 q0 pr (S 6 4) := ⟨_, rfl⟩
  have q := q R hRR
  intro J hJ
  -- behind the rounds: those that are still in get the price
  have fin : ∀ (S1 : Nat → Nat → Int) (h1 : hw) (x1 : Int32) (a1 : Int), Pic G A B S1 h1 → (∀ k, ¬ ks k → S1 k = S k) → (∀ i, i ≠ 3 → i ≠ 4 → S1 6 i = S 6 i) → PR S1 (EC S) C → SR S1 x1 R.1 → (∀ j, R.1.2.1 j = true → j < nt (EC S)) → a1 = R.2.1 → S1 6 4 = R.2.2 → (0 ≤ a1 ∧ a1 ≤ 9999) → (∀ j, R.1.2.1 j = true → S (70 + j) 5 ≤ a1) → FA S1 → ∀ J73 : Int32 → hw → Prop, (∀ (x8_5 : Int32) (h6 : hw), (rdR h6 (A 1) 0 1 (fun v7 => (isO h6 v7 14 ∧ wp_Jx4a65c_size_8abf5 G v7 h6 (fun r8 => ((r8 ≤ x8_5 → rdI h6 (A 6) 8 3 (fun v9 => post (x &&& (v9 ^^^ (-1))) h6)) ∧ (¬ r8 ≤ x8_5 → wp_X11_isIn G x8_5 x1 h6 (fun r10 => ∀ J113 : hw → Prop, (∀ (h11 : hw), (J73 (x8_5 + 1) h11) → J113 h11) → ((r10 = 0 → J113 h6) ∧ (¬ r10 = 0 → rdR h6 (A 1) 0 1 (fun v12 => (isO h6 v12 14 ∧ wp_Jx4a65c_get_915e3 G v12 x8_5 h6 (fun r13 => (isO h6 r13 10 ∧ (isO h6 (A 6) 8 ∧ wp_X8_take G (A 6) r13 (ii a1) h6 (fun h14 => J113 h14))))))))))))))) → J73 x8_5 h6) → J73 0 h1 := by
    intro S1 h1 x1 a1 P1 k1 k2 k3 k4 ksi ka kc ka2 kle kf J73 hJ73
    have main : ∀ i : Nat, i ≤ nt (EC S) → ∀ (S' : Nat → Nat → Int) (h' : hw), Pic G A B S' h' → (∀ k, k ≠ 42 → k ≠ 43 → S' k = S1 k) → (∀ j, j < 8 → S' 42 j = if (R.1.2.1 j = true ∧ j < i) then a1 else S1 42 j) → FA S' → J73 (ii (i : Int)) h' := by
      intro i hi
      refine lp_up (J := fun i : Nat => ∀ (S' : Nat → Nat → Int) (h' : hw), Pic G A B S' h' → (∀ k, k ≠ 42 → k ≠ 43 → S' k = S1 k) → (∀ j, j < 8 → S' 42 j = if (R.1.2.1 j = true ∧ j < i) then a1 else S1 42 j) → FA S' → J73 (ii (i : Int)) h') (n := nt (EC S)) ?_ ?_ hi
      · intro S' h' P' m1 m2 m3
        have k1' : ∀ k, ¬ ks k → S' k = S k := fun k hk => by rw [m1 k (fun z => hk (Or.inr (Or.inr (Or.inr (Or.inr (Or.inl z)))))) (fun z => hk (Or.inr (Or.inr (Or.inr (Or.inr (Or.inr z)))))), k1 k hk]
        obtain ⟨hK', eE, e51, e7⟩ := ks_K k1' hK
        apply hJ73
        refine P'.nT ?_
        rw [e51, hn, ii_le ⟨by omega, by omega⟩ ⟨by omega, by omega⟩]
        refine ⟨fun _ => ?_, fun z => absurd (Int.le_refl _) z⟩
        refine P'.rI (k := 6) rfl rfl ?_
        have f6 : S' 6 = S1 6 := m1 6 (by omega) (by omega)
        refine q S' h' _ P' k1' (fun j a b => by rw [f6]; exact k2 j a b) (k3.of (by rw [m1 5 (by omega) (by omega)]) (m1 40 (by omega) (by omega)) (m1 41 (by omega) (by omega)) (m1 39 (by omega) (by omega))) (fun j => by rw [f6]; exact k4.1 j) (by rw [f6]; exact kc) (fun j hj => ?_) m3 (fun j => ?_)
        · rw [m2 j hj, k4.2.2 j hj, ← ka]
          by_cases c : R.1.2.1 j = true
          · rw [if_pos ⟨c, ksi j c⟩, if_pos c]
          · rw [if_neg (fun z => c z.1), if_neg c]
        · rw [b_and, b_xor, f6, k4.1 j]
          by_cases hj : j < 32
          · rw [b_m1 j hj]; simp
          · rw [b_big (x := x) (by omega)]; simp
      · intro i hi ih S' h' P' m1 m2 m3
        have k1' : ∀ k, ¬ ks k → S' k = S k := fun k hk => by rw [m1 k (fun z => hk (Or.inr (Or.inr (Or.inr (Or.inr (Or.inl z)))))) (fun z => hk (Or.inr (Or.inr (Or.inr (Or.inr (Or.inr z)))))), k1 k hk]
        obtain ⟨hK', eE, e51, e7⟩ := ks_K k1' hK
        apply hJ73
        refine P'.nT ?_
        rw [e51, hn, ii_le ⟨by omega, by omega⟩ ⟨by omega, by omega⟩]
        refine ⟨fun z => absurd z (by omega), fun _ => ?_⟩
        refine isIn_of (i := i) (by omega) rfl ?_
        intro J113 hJ113
        rw [bI_1, bI_0, k4.2.1 i]
        refine ⟨fun c => ?_, fun c => ?_⟩
        · apply hJ113
          rw [ii_inc']
          refine ih S' h' P' m1 (fun j hj => ?_) m3
          rw [m2 j hj]
          by_cases y : j = i
          · subst y; rw [if_neg (fun z => by rw [c] at z; exact absurd z.1 (by decide)), if_neg (fun z => by rw [c] at z; exact absurd z.1 (by decide))]
          · by_cases w : R.1.2.1 j = true ∧ j < i
            · rw [if_pos w, if_pos ⟨w.1, by omega⟩]
            · rw [if_neg w, if_neg (fun z => w ⟨z.1, by omega⟩)]
        · refine P'.gT hK'.1.1 rfl (by omega) ?_
          refine ⟨P'.o (k := 6) rfl, ?_⟩
          refine P'.take hK' (by omega) rfl (fun h3 P3 => ?_)
          apply hJ113
          rw [ii_inc']
          refine ih _ h3 P3 (fun k a b => by rw [su_row _ _ b, su_row _ _ a, m1 k a b]) (fun j hj => ?_) (fun j hj => ?_)
          · rw [su_ne _ _ _ (by omega), su_up]
            unfold up
            by_cases y : j = i
            · subst y; rw [if_pos rfl, if_pos ⟨c, by omega⟩]
            · rw [if_neg y, m2 j hj]
              by_cases w : R.1.2.1 j = true ∧ j < i
              · rw [if_pos w, if_pos ⟨w.1, by omega⟩]
              · rw [if_neg w, if_neg (fun z => w ⟨z.1, by omega⟩)]
          · rw [su_row (k := 43) (k' := 42) _ _ (by omega), su_up, su_up, su_row (k := 42) (k' := 43) _ _ (by omega)]
            unfold up
            by_cases y : j = i
            · subst y
              rw [if_pos rfl, if_pos rfl, e7 j (by omega)]
              exact ⟨has j hj, fun _ => kle j c⟩
            · rw [if_neg y, if_neg y]; exact m3 j hj
    exact main 0 (by omega) S1 h1 P1 (fun _ _ _ => rfl) (fun j hj => by rw [if_neg (fun z => by omega)]) kf
  have main : ∀ (f : Nat) (Q : Sst) (a c : Int) (r : Nat) (S' : Nat → Nat → Int) (h' : hw) (x' : Int32), f + r = 10000 → r ≤ 9999 → (0 ≤ a ∧ a + r ≤ 9999) → srun (EC S) C (fun j => S (70 + j) 5) stp (nt (EC S)) f Q a c = R → Pic G A B S' h' → (∀ k, ¬ ks k → S' k = S k) → (∀ i, i ≠ 3 → i ≠ 4 → S' 6 i = S 6 i) → PR S' (EC S) C → SR S' x' Q → S' 6 4 = c → (∀ j, Q.1 j = true → j < nt (EC S)) → (∀ j, Q.2.1 j = true → j < nt (EC S)) → (∀ j, Q.2.1 j = true → S (70 + j) 5 ≤ a) → FA S' → J x' (ii a) (ii (r : Int)) h' := by
    intro f
    induction f with
    | zero => intro Q a c r S' h' x' hf1 hr; omega
    | succ f ih =>
      intro Q a c r S' h' x' hf1 hr ha hsr P' k1 k2 k3 k4 k5 k6 k7 k8 k9
      obtain ⟨hK', eE, e51, e7⟩ := ks_K k1 hK
      apply hJ
      intro J70 hJ70
      have stop : ¬ (anyb Q.2.1 (nt (EC S)) && decide (stp ≤ a)) = true → J70 := by
        intro c0
        rw [srun_end c0] at hsr
        apply hJ70
        subst hsr
        exact fin S' h' x' a P' k1 k2 k3 k4 k7 rfl k5 ⟨ha.1, by omega⟩ k8 k9
      rw [il_9999, ii_le ⟨by omega, by omega⟩ ⟨by omega, by omega⟩, ii_lt ⟨by omega, by omega⟩ ⟨by omega, by omega⟩]
      refine ⟨fun w => stop (fun z => ?_), fun w => ⟨fun w2 => stop (fun z => ?_), fun w2 => ⟨fun w3 => stop (fun z => ?_), fun w3 => ?_⟩⟩⟩
      · rw [Bool.and_eq_true, decide_eq_true_eq] at z; omega
      · rw [Bool.and_eq_true, anyb_t] at z
        obtain ⟨⟨i, hi, hb⟩, -⟩ := z
        rw [← k4.2.1 i, w2, b_0] at hb
        cases hb
      · rw [Bool.and_eq_true, decide_eq_true_eq] at z; omega
      · have any : (anyb Q.2.1 (nt (EC S)) && decide (stp ≤ a)) = true := by
          rw [Bool.and_eq_true, decide_eq_true_eq, anyb_t]
          refine ⟨?_, by omega⟩
          obtain ⟨i, hi, hb⟩ := b_ne0.mp w2
          rw [k4.2.1 i] at hb
          exact ⟨i, k7 i hb, hb⟩
        have hsr2 : srun (EC S) C (fun j => S (70 + j) 5) stp (nt (EC S)) f (srnd (EC S) C (fun j => S (70 + j) 5) a (a - stp) Q (nt (EC S))) (a - stp) (c + 1) = R := by
          rw [← hsr]
          exact (if_pos any).symm
        refine ⟨P'.o (k := 6) rfl, ?_⟩
        rw [ii_sub]
        have ea : (fun j => S' (70 + j) 5) = (fun j => S (70 + j) 5) ∨ True := Or.inr trivial
        have hrd : srnd (EC S') C (fun j => S' (70 + j) 5) a (a - stp) Q (nt (EC S')) = srnd (EC S) C (fun j => S (70 + j) 5) a (a - stp) Q (nt (EC S)) := by
          rw [eE]
          have g : ∀ i, i ≤ nt (EC S) → srnd (EC S) C (fun j => S' (70 + j) 5) a (a - stp) Q i = srnd (EC S) C (fun j => S (70 + j) 5) a (a - stp) Q i := by
            intro i
            induction i with
            | zero => intro _; rfl
            | succ i ih2 =>
              intro hi
              unfold srnd
              rw [ih2 (by omega)]
              unfold sstep
              rw [show (fun j => S' (70 + j) 5) i = (fun j => S (70 + j) 5) i from congrFun (e7 i (by omega)) 5]
          exact g _ (Nat.le_refl _)
        refine P'.holdRound hK' (by rw [eE]; exact k3) ⟨ha.1, by omega⟩ ⟨by omega, by omega⟩ k4 (by rw [eE]; exact k6) (by rw [eE]; exact k7) (fun j hj => by rw [e7 j (by omega)]; exact has j hj) (fun j hj => by rw [e7 j (by have := k7 j hj; omega)]; exact k8 j hj) k9 (fun S2 h2 x2 P2 m1 m2 m3 m4 m5 m6 m7 => ?_)
        rw [hrd] at m4 m5 m6
        rw [eE] at m3 m5 m6
        refine P2.rI (k := 6) rfl rfl ?_
        refine P2.wF (k := 6) (z := S2 6 4 + 1) ⟨by decide, by decide, by decide, by decide⟩ rfl (show 4 < 6 by decide) (congrArg (fun v => some (Sum.inr (8, [Value.ref (A 22), Value.int (ii (S2 6 1)), Value.int (ii (S2 6 2)), Value.int (ii (S2 6 3)), Value.int v, Value.ref (A 23)]))) (by rw [il_1, ii_add]; rfl)) (fun h3 P3 => ?_)
        rw [ii_inc']
        refine ih _ (a - stp) (c + 1) (r + 1) _ h3 x2 (by omega) (by omega) ⟨by omega, by omega⟩ hsr2 P3 (fun k hk => by rw [su_row _ _ (fun z => hk (Or.inr (Or.inl z))), m1 k hk, k1 k hk]) (fun i i3 i4 => by rw [su_nei _ _ _ i4, m2 i i3]; exact k2 i i3 i4) (m3.of (su_ne _ _ _ (by omega)) (su_row _ _ (by omega)) (su_row _ _ (by omega)) (su_row _ _ (by omega))) ⟨fun j => ?_, m4.2.1, fun j hj => ?_⟩ ?_ m5 m6 (fun j hj => ?_) ?_
        · rw [su_nei _ _ _ (by omega)]; exact m4.1 j
        · rw [su_ne _ _ _ (by omega)]; exact m4.2.2 j hj
        · rw [su_at, m2 4 (by omega), k5]
        · exact srnd_nx Q (nt (EC S)) j (m6 j hj) hj
        · unfold FA; rw [su_row _ _ (by omega), su_row _ _ (by omega)]; exact m7
  exact main 10000 q0 pr (S 6 4) 0 S h x (by omega) (by omega) ⟨hpr.1, by omega⟩ hRR.symm P (fun _ _ => rfl) (fun _ _ _ => rfl) hR hq rfl hst hsi hle hf
theorem Pic.selFair (P : Pic G A B S h) (hf : FA S) (h1 : ∀ j, j < 8 → rg (S 42 j)) (h2 : ∀ j, j < 8 → rg (S 43 j)) {post : Int32 → Prop} (q : post 1) : wp_X8_isFair G (A 6) h post := by
  intro J hJ
  have main : ∀ i : Nat, i ≤ 8 → J (ii (i : Int)) := by
    intro i hi
    refine lp_up (J := fun i : Nat => J (ii (i : Int))) (n := 8) ?_ ?_ hi
    · apply hJ
      rw [il_8, ii_le ⟨by omega, by omega⟩ ⟨by omega, by omega⟩]
      exact ⟨fun _ => q, fun z => absurd (Int.le_refl _) z⟩
    · intro i hi ih
      apply hJ
      rw [il_8, ii_le ⟨by omega, by omega⟩ ⟨by omega, by omega⟩]
      refine ⟨fun z => absurd z (by omega), fun _ => ?_⟩
      refine P.oat (k := 6) (r := 22) (rk := 42) (i := i) rfl rfl ⟨by omega, by omega⟩ rfl (show _ < 8 by omega) ?_
      intro J2 hJ2
      rw [il_m1, ii_eq (h1 i hi) ⟨by omega, by omega⟩]
      refine ⟨fun _ => by apply hJ2; rw [ii_inc']; exact ih, fun c => ?_⟩
      refine P.oat (k := 6) (r := 22) (rk := 42) (i := i) rfl rfl ⟨by omega, by omega⟩ rfl (show _ < 8 by omega) ?_
      refine P.oat (k := 6) (r := 23) (rk := 43) (i := i) rfl rfl ⟨by omega, by omega⟩ rfl (show _ < 8 by omega) ?_
      rw [ii_le (h2 i hi) (h1 i hi)]
      exact ⟨fun _ => by apply hJ2; rw [ii_inc']; exact ih, fun c2 => absurd ((hf i hi).2 c) c2⟩
  exact main 0 (by omega)
end CS2
