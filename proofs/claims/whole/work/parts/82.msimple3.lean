/-! the reference's own calls: prices, bidders, phases, shares, the register -/
section MT
variable {G : Gx} {A : Nat → Nat} {B : Nat → Nat → Nat} {S : Nat → Nat → Int} {h : hw}
theorem Pic.m_setAsked (P : Pic G A B S h) (hM : MO S) {v p : Int} (hv : rg v) (hp : rg p) {post : Int32 → hw → Prop} (q : inM S v → (0 ≤ p ∧ p ≤ 9999) → ∀ h', Pic G A B (su (su S 80 0 0) 114 v.toNat p) h' → post (ii (S 114 v.toNat)) h') (x1 : ¬ inM S v → ∀ h', Pic G A B (su S 80 0 1) h' → post 0 h') (x2 : inM S v → ¬ (0 ≤ p ∧ p ≤ 9999) → ∀ h', Pic G A B (su S 80 0 2) h' → post 0 h') : wp_X12_setAsked G (A 80) (ii v) (ii p) h post := by
  obtain ⟨n8, n4, n5⟩ := ntM_8 hM
  refine P.thr0 (fun h1 P1 => P1.mNo hM hv (Or.inl rfl) rfl il_1 (fun z h' P' => ⟨fun _ => x1 z h' P', fun u => absurd u (by decide)⟩) (fun z => ⟨fun u => absurd rfl u, fun _ => ?_⟩))
  have z2 := z
  unfold inM at z2
  refine P1.mIn hp (a := 0) (b := 9999) ⟨by omega, by omega⟩ ⟨by omega, by omega⟩ (e := 2) (Or.inr (Or.inl rfl)) rfl il_0 il_9999 il_2 (fun w h' P' => ⟨fun u => absurd u (by decide), fun _ => x2 z w h' P'⟩) (fun w => ⟨fun _ => ?_, fun u => absurd rfl u⟩)
  have f : su S 80 0 0 114 = S 114 := su_row _ _ (by decide)
  refine P1.md (k := 114) (i := v.toNat) ⟨by decide, by decide, rfl, rfl⟩ (congrArg ii (by omega)) (show _ < 8 by omega) ?_
  refine P1.ms (k := 114) (i := v.toNat) (z := p) ⟨by decide, by decide, rfl, rfl⟩ (congrArg ii (by omega)) rfl (show _ < 8 by omega) (fun h2 P2 => ?_)
  rw [f]
  exact q z w h2 P2
theorem Pic.m_priceOf (P : Pic G A B S h) (hM : MO S) (hr : ∀ j, j < 8 → -1 ≤ S 122 j ∧ S 122 j ≤ 9999) {v : Int} (hv : rg v) {post : Int32 → hw → Prop} (q : inM S v → S 122 v.toNat ≠ -1 → ∀ h', Pic G A B (su S 80 0 0) h' → post (ii (S 122 v.toNat)) h') (x1 : ¬ inM S v → ∀ h', Pic G A B (su S 80 0 1) h' → post 0 h') (x2 : inM S v → S 122 v.toNat = -1 → ∀ h', Pic G A B (su S 80 0 2) h' → post 0 h') : wp_X12_priceOf G (A 80) (ii v) h post := by
  obtain ⟨n8, n4, n5⟩ := ntM_8 hM
  refine P.thr0 (fun h1 P1 => P1.mNo hM hv (Or.inl rfl) rfl il_1 (fun z h' P' => ?_) (fun z => ?_))
  · intro J hJ
    exact ⟨fun _ => hJ _ (x1 z h' P'), fun u => absurd u (by decide)⟩
  · have z2 := z
    unfold inM at z2
    have r := hr v.toNat (by omega)
    have f : su S 80 0 0 122 = S 122 := su_row _ _ (by decide)
    intro J hJ
    refine ⟨fun u => absurd rfl u, fun _ => ?_⟩
    refine P1.md (k := 122) (i := v.toNat) ⟨by decide, by decide, rfl, rfl⟩ (congrArg ii (by omega)) (show _ < 8 by omega) ?_
    rw [f, il_m1, ii_eq ⟨by omega, by omega⟩ ⟨by decide, by decide⟩]
    intro J34 hJ34
    refine ⟨fun w => ?_, fun w => ?_⟩
    · apply hJ34
      refine P1.mF (b := false) (e := 2) (Or.inr (Or.inl rfl)) rfl il_2 (fun u => by cases u) (fun _ => ⟨fun _ => ?_, fun u => absurd rfl u⟩)
      refine P1.md (k := 122) (i := v.toNat) ⟨by decide, by decide, rfl, rfl⟩ (congrArg ii (by omega)) (show _ < 8 by omega) ?_
      rw [f]; exact q z w h1 P1
    · apply hJ34
      exact P1.mF (b := true) (e := 2) (Or.inr (Or.inl rfl)) rfl il_2 (fun _ h' P' => ⟨fun u => absurd u (by decide), fun _ => hJ _ (x2 z w h' P')⟩) (fun u => by cases u)
theorem Pic.m_phaseOf (P : Pic G A B S h) (hM : MO S) (hr : ∀ j, j < 8 → -1 ≤ S 129 j ∧ S 129 j ≤ 16) {v : Int} (hv : rg v) {post : Int32 → hw → Prop} (q : inM S v → S 129 v.toNat ≠ -1 → ∀ h', Pic G A B (su S 80 0 0) h' → post (ii (S 129 v.toNat)) h') (x1 : ¬ inM S v → ∀ h', Pic G A B (su S 80 0 1) h' → post 0 h') (x2 : inM S v → S 129 v.toNat = -1 → ∀ h', Pic G A B (su S 80 0 2) h' → post 0 h') : wp_X12_phaseOf G (A 80) (ii v) h post := by
  obtain ⟨n8, n4, n5⟩ := ntM_8 hM
  refine P.thr0 (fun h1 P1 => P1.mNo hM hv (Or.inl rfl) rfl il_1 (fun z h' P' => ?_) (fun z => ?_))
  · intro J hJ
    exact ⟨fun _ => hJ _ (x1 z h' P'), fun u => absurd u (by decide)⟩
  · have z2 := z
    unfold inM at z2
    have r := hr v.toNat (by omega)
    have f : su S 80 0 0 129 = S 129 := su_row _ _ (by decide)
    intro J hJ
    refine ⟨fun u => absurd rfl u, fun _ => ?_⟩
    refine P1.md (k := 129) (i := v.toNat) ⟨by decide, by decide, rfl, rfl⟩ (congrArg ii (by omega)) (show _ < 8 by omega) ?_
    rw [f, il_m1, ii_eq ⟨by omega, by omega⟩ ⟨by decide, by decide⟩]
    intro J34 hJ34
    refine ⟨fun w => ?_, fun w => ?_⟩
    · apply hJ34
      refine P1.mF (b := false) (e := 2) (Or.inr (Or.inl rfl)) rfl il_2 (fun u => by cases u) (fun _ => ⟨fun _ => ?_, fun u => absurd rfl u⟩)
      refine P1.md (k := 129) (i := v.toNat) ⟨by decide, by decide, rfl, rfl⟩ (congrArg ii (by omega)) (show _ < 8 by omega) ?_
      rw [f]; exact q z w h1 P1
    · apply hJ34
      exact P1.mF (b := true) (e := 2) (Or.inr (Or.inl rfl)) rfl il_2 (fun _ h' P' => ⟨fun u => absurd u (by decide), fun _ => hJ _ (x2 z w h' P')⟩) (fun u => by cases u)
theorem Pic.m_rounds (P : Pic G A B S h) {post : Int32 → hw → Prop} (q : ∀ h', Pic G A B (su S 80 0 0) h' → post (ii (S 80 20)) h') : wp_X12_rounds G (A 80) h post :=
  P.thr0 (fun h1 P1 => P1.rI (k := 80) rfl rfl (by rw [su_nei _ _ _ (by decide)]; exact q h1 P1))
theorem Pic.m_dark (P : Pic G A B S h) {post : Int32 → hw → Prop} (q : ∀ h', Pic G A B (su S 80 0 0) h' → post (ii (S 80 28)) h') : wp_X12_dark G (A 80) h post :=
  P.thr0 (fun h1 P1 => P1.rI (k := 80) rfl rfl (by rw [su_nei _ _ _ (by decide)]; exact q h1 P1))
theorem Pic.m_isSound (P : Pic G A B S h) {post : Int32 → hw → Prop} (q : ∀ h', Pic G A B (su S 80 0 0) h' → post 1 h') : wp_X12_isSound G (A 80) h post := P.thr0 (fun h1 P1 => q h1 P1)
theorem Pic.jld (P : Pic G A B S h) {k n i : Nat} {x : Int32} {K : Int64 → Prop} (e : ctn G A B S k = some (.inl (G.2.2.1.2.1, n, .inr (.inl (fun i => Int64.ofInt (S k i)))))) (hx : x = ii (i : Int)) (hi : i < n) (hn : n < 2147483648) (q : K (Int64.ofInt (S k i))) : ldJ G h (A k) x K := by
  subst hx
  exact ⟨n, _, P.1 k _ e, vp_ii (by omega) (by omega) (by omega), by rw [ii_natN (by omega)]; exact q⟩
theorem Pic.jst (P : Pic G A B S h) {k i n : Nat} {x : Int32} {v : Int64} {z : Int} {K : hw → Prop} (hs : ns k) (e : ∀ S, ctn G A B S k = some (.inl (G.2.2.1.2.1, n, .inr (.inl (fun i => Int64.ofInt (S k i)))))) (hx : x = ii (i : Int)) (hv : v = Int64.ofInt z) (hi : i < n) (hn : n < 2147483648) (q : ∀ h', Pic G A B (su S k i z) h' → K h') : stJ G h (A k) x v K := by
  subst hx hv
  refine ⟨n, _, P.1 k _ (e S), vp_ii (by omega) (by omega) (by omega), ?_⟩
  rw [ii_natN (by omega)]
  refine q _ (P.wr hs (e S) (fun j hj => su_row i z hj) ?_)
  rw [e]
  refine congrArg (fun w => some (Sum.inl (G.2.2.1.2.1, n, Sum.inr (Sum.inl w)))) ?_
  funext j
  unfold vp_updL su
  by_cases y : j = i
  · rw [if_pos ⟨rfl, y⟩, if_pos y]
  · rw [if_neg (fun w => y w.2), if_neg y]
theorem ctn_127 : ctn G A B S 127 = some (.inl (G.2.2.1.2.1, 4, .inr (.inl (fun i => Int64.ofInt (S 127 i))))) := by
  rw [ctn_m (by decide) (by decide)]; rfl
theorem Pic.mNoB (P : Pic G A B S h) (h4 : 0 ≤ S 80 24 ∧ S 80 24 ≤ 4) {v : Int} (hv : rg v) {post : Int32 → Prop} (q : post (ii (bI (!inr v 0 (S 80 24 - 1))))) : wp_X12_noBidder G (A 80) (ii v) h post := by
  refine P.rI (k := 80) rfl rfl ?_
  refine in_ii hv (a := 0) (b := S 80 24 - 1) ⟨by omega, by omega⟩ ⟨by omega, by omega⟩ rfl il_0 (by rw [il_1, ii_sub]) ?_
  rw [bI_1, bI_0]
  refine ⟨fun c => ?_, fun c => ?_⟩
  · rw [c] at q; exact q
  · rw [c] at q; exact q
theorem Pic.m_bought (P : Pic G A B S h) (h4 : 0 ≤ S 80 24 ∧ S 80 24 ≤ 4) {v : Int} (hv : rg v) {post : Int32 → hw → Prop} (q : 0 ≤ v ∧ v < S 80 24 → ∀ h', Pic G A B (su S 80 0 0) h' → post (ii (S 126 v.toNat)) h') (x1 : ¬ (0 ≤ v ∧ v < S 80 24) → ∀ h', Pic G A B (su S 80 0 1) h' → post 0 h') : wp_X12_bought G (A 80) (ii v) h post := by
  have f : su S 80 0 0 126 = S 126 := su_row _ _ (by decide)
  refine P.thr0 (fun h1 P1 => ⟨P1.o (k := 80) rfl, P1.mNoB (by rw [su_nei _ _ _ (by decide)]; exact h4) hv ?_⟩)
  rw [su_nei _ _ _ (by decide)]
  refine P1.mF (Or.inl rfl) rfl il_1 (fun z h' P' => ⟨fun u => absurd u (by decide), fun _ => x1 ?_ h' P'⟩) (fun z => ⟨fun _ => ?_, fun u => absurd rfl u⟩)
  · rw [Bool.not_eq_true', inr_f] at z; omega
  · rw [Bool.not_eq_false', inr_t] at z
    refine P1.md (k := 126) (i := v.toNat) ⟨by decide, by decide, rfl, rfl⟩ (congrArg ii (by omega)) (show _ < 4 by omega) ?_
    rw [f]; exact q ⟨by omega, by omega⟩ h1 P1
theorem Pic.m_pays (P : Pic G A B S h) (h4 : 0 ≤ S 80 24 ∧ S 80 24 ≤ 4) {v : Int} (hv : rg v) {post : Int64 → hw → Prop} (q : 0 ≤ v ∧ v < S 80 24 → ∀ h', Pic G A B (su S 80 0 0) h' → post (Int64.ofInt (S 127 v.toNat)) h') (x1 : ¬ (0 ≤ v ∧ v < S 80 24) → ∀ h', Pic G A B (su S 80 0 1) h' → post 0 h') : wp_X12_pays G (A 80) (ii v) h post := by
  have f : su S 80 0 0 127 = S 127 := su_row _ _ (by decide)
  refine P.thr0 (fun h1 P1 => ⟨P1.o (k := 80) rfl, P1.mNoB (by rw [su_nei _ _ _ (by decide)]; exact h4) hv ?_⟩)
  rw [su_nei _ _ _ (by decide)]
  refine P1.mF (Or.inl rfl) rfl il_1 (fun z h' P' => ⟨fun u => absurd u (by decide), fun _ => x1 ?_ h' P'⟩) (fun z => ⟨fun _ => ?_, fun u => absurd rfl u⟩)
  · rw [Bool.not_eq_true', inr_f] at z; omega
  · rw [Bool.not_eq_false', inr_t] at z
    refine P1.rR (k := 80) rfl rfl (P1.jld ctn_127 (i := v.toNat) (congrArg ii (by omega)) (by omega) (by decide) ?_)
    rw [f]; exact q ⟨by omega, by omega⟩ h1 P1
theorem Pic.m_addBidder (P : Pic G A B S h) (h4 : 0 ≤ S 80 24 ∧ S 80 24 ≤ 4) {a b c : Int} (ha : rg a) (hb : rg b) (hc : rg c) {post : Int32 → hw → Prop} (q : (0 ≤ a ∧ a ≤ 9999) → (0 ≤ b ∧ b ≤ a) → (0 ≤ c ∧ c ≤ b) → S 80 24 ≠ 4 → ∀ h', Pic G A B (su (su (su (su (su S 80 0 0) 125 (3 * (S 80 24).toNat) a) 125 (3 * (S 80 24).toNat + 1) b) 125 (3 * (S 80 24).toNat + 2) c) 80 24 (S 80 24 + 1)) h' → post (ii (S 80 24)) h') (x1 : ¬ ((0 ≤ a ∧ a ≤ 9999) ∧ (0 ≤ b ∧ b ≤ a) ∧ 0 ≤ c ∧ c ≤ b) → ∀ h', Pic G A B (su S 80 0 1) h' → post 0 h') (x2 : (0 ≤ a ∧ a ≤ 9999) → (0 ≤ b ∧ b ≤ a) → (0 ≤ c ∧ c ≤ b) → S 80 24 = 4 → ∀ h', Pic G A B (su S 80 0 2) h' → post 0 h') : wp_X12_addBidder G (A 80) (ii a) (ii b) (ii c) h post := by
  refine P.thr0 (fun h1 P1 => ?_)
  refine in_ii ha (a := 0) (b := 9999) ⟨by omega, by omega⟩ ⟨by omega, by omega⟩ rfl il_0 il_9999 ?_
  intro J39 hJ39 J38 hJ38
  have bad : ¬ ((0 ≤ a ∧ a ≤ 9999) ∧ (0 ≤ b ∧ b ≤ a) ∧ 0 ≤ c ∧ c ≤ b) → J38 := fun z => by
    apply hJ38; apply hJ39
    intro J52 hJ52
    refine ⟨fun u => absurd rfl u, fun _ => ?_⟩
    apply hJ52
    exact P1.mF (b := true) (e := 1) (Or.inl rfl) rfl il_1 (fun _ h' P' => ⟨fun _ => x1 z h' P', fun u => absurd u (by decide)⟩) (fun u => by cases u)
  rw [bI_1, bI_0]
  refine ⟨fun z => bad (fun y => inr_f.mp z y.1), fun z => ?_⟩
  refine in_ii hb (a := 0) (b := a) ⟨by omega, by omega⟩ ha rfl il_0 rfl ?_
  rw [bI_1, bI_0]
  refine ⟨fun w => bad (fun y => inr_f.mp w y.2.1), fun w => ?_⟩
  refine in_ii hc (a := 0) (b := b) ⟨by omega, by omega⟩ hb rfl il_0 rfl ?_
  rw [bI_1, bI_0]
  refine ⟨fun y => bad (fun k => inr_f.mp y k.2.2), fun y => ?_⟩
  rw [inr_t] at z w y
  apply hJ39
  intro J52 hJ52
  refine ⟨fun _ => ?_, fun u => absurd u (by decide)⟩
  apply hJ52
  refine P1.mF (b := false) (e := 1) (Or.inl rfl) rfl il_1 (fun u => by cases u) (fun _ => ⟨fun u => absurd rfl u, fun _ => ?_⟩)
  refine P1.rI (k := 80) rfl rfl ?_
  intro J73 hJ73
  rw [su_nei _ _ _ (by decide), il_4, ii_eq ⟨by omega, by omega⟩ ⟨by decide, by decide⟩]
  refine ⟨fun k => ?_, fun k => ?_⟩
  · apply hJ73
    refine P1.mF (b := false) (e := 2) (Or.inr (Or.inl rfl)) rfl il_2 (fun u => by cases u) (fun _ => ⟨fun _ => ?_, fun u => absurd rfl u⟩)
    obtain ⟨n, en⟩ : ∃ n : Nat, n = (S 80 24).toNat := ⟨_, rfl⟩
    rw [← en] at q
    have e4 : S 80 24 = (n : Int) := by omega
    have f1 : su S 80 0 0 80 24 = (n : Int) := by rw [su_nei _ _ _ (by decide), e4]
    refine P1.rR (k := 80) rfl rfl (P1.rI (k := 80) rfl rfl (P1.mst (k := 125) (i := 3 * n) (z := a) (by decide) (by decide) rfl (by rw [f1, il_3, ii_mul]; exact congrArg ii (by omega)) rfl (show _ < 12 by omega) (fun h2 P2 => ?_)))
    refine P2.rR (k := 80) rfl rfl (P2.rI (k := 80) rfl rfl (P2.mst (k := 125) (i := 3 * n + 1) (z := b) (by decide) (by decide) rfl (by rw [su_ne _ _ _ (by decide), f1, il_3, il_1, ii_mul, ii_add]; exact congrArg ii (by omega)) rfl (show _ < 12 by omega) (fun h3 P3 => ?_)))
    refine P3.rR (k := 80) rfl rfl (P3.rI (k := 80) rfl rfl (P3.mst (k := 125) (i := 3 * n + 2) (z := c) (by decide) (by decide) rfl (by rw [su_ne _ _ _ (by decide), su_ne _ _ _ (by decide), f1, il_3, il_2, ii_mul, ii_add]; exact congrArg ii (by omega)) rfl (show _ < 12 by omega) (fun h4' P4 => ?_)))
    have e84 : su (su (su (su S 80 0 0) 125 (3 * n) a) 125 (3 * n + 1) b) 125 (3 * n + 2) c 80 24 = S 80 24 := by rw [su_ne _ _ _ (by decide), su_ne _ _ _ (by decide), su_ne _ _ _ (by decide), f1, e4]
    refine P4.rI (k := 80) rfl rfl ?_
    refine P4.wF (k := 80) (z := S 80 24 + 1) ⟨by decide, by decide, by decide, by decide⟩ rfl (by show 24 < 36; decide) ?_ (fun h5 P5 => ?_)
    · rw [show ii (su (su (su (su S 80 0 0) 125 (3 * n) a) 125 (3 * n + 1) b) 125 (3 * n + 2) c 80 24) + 1 = ii (S 80 24 + 1) by rw [e84, il_1, ii_add]]
      rfl
    · refine P5.rI (k := 80) rfl rfl ?_
      rw [su_at, il_1, ii_sub, show S 80 24 + 1 - 1 = S 80 24 by omega]
      exact q z w y k h5 P5
  · apply hJ73
    exact P1.mF (b := true) (e := 2) (Or.inr (Or.inl rfl)) rfl il_2 (fun _ h' P' => ⟨fun u => absurd u (by decide), fun _ => x2 z w y k h' P'⟩) (fun u => by cases u)
/-- who is on, for the reference -/
def onM (S : Nat → Nat → Int) (j : Nat) : Bool := decide (S 113 j ≠ -1)
theorem Pic.m_on (P : Pic G A B S h) (hM : MO S) {post : Int32 → Prop} (q : post (ii (cnt (onM S) (ntM S)))) : wp_X12_on G (A 80) h post := by
  obtain ⟨n8, n4, n5⟩ := ntM_8 hM
  intro J hJ
  have main : ∀ i : Nat, i ≤ ntM S → J (ii (cnt (onM S) i)) (ii (i : Int)) := by
    intro i hi
    refine lp_up (J := fun i : Nat => J (ii (cnt (onM S) i)) (ii (i : Int))) (n := ntM S) ?_ ?_ hi
    · apply hJ
      refine P.rI (k := 80) rfl rfl ?_
      rw [n4, ii_le ⟨by omega, by omega⟩ ⟨by omega, by omega⟩]
      exact ⟨fun _ => q, fun c => absurd (Int.le_refl _) c⟩
    · intro i hi ih
      have e : cnt (onM S) (i + 1) = cnt (onM S) i + bI (onM S i) := rfl
      have ci := hM.2 i (by omega)
      rw [e] at ih
      apply hJ
      refine P.rI (k := 80) rfl rfl ?_
      rw [n4, ii_le ⟨by omega, by omega⟩ ⟨by omega, by omega⟩]
      refine ⟨fun c => absurd c (by omega), fun _ => ?_⟩
      refine P.mnow rfl (by omega) ?_
      intro J28 hJ28
      rw [il_m1, ii_eq ⟨by omega, by omega⟩ ⟨by decide, by decide⟩]
      refine ⟨fun c => ?_, fun c => ?_⟩
      · apply hJ28; rw [ii_inc', il_1, ii_add]
        rw [show bI (onM S i) = 1 by unfold onM; rw [decide_eq_true c]; rfl] at ih
        exact ih
      · apply hJ28; rw [ii_inc', il_0, ii_add]
        rw [show bI (onM S i) = 0 by unfold onM; rw [decide_eq_false (fun z => z c)]; rfl] at ih
        exact ih
  exact main 0 (by omega)
theorem onM_t (v : Int) : onM (su S 80 0 v) = onM S := by funext j; unfold onM; rw [su_row _ _ (by decide)]
theorem Pic.m_onShare (P : Pic G A B S h) (hM : MO S) {post : UInt32 → hw → Prop} (q : S 80 4 ≠ 0 → ∀ h', Pic G A B (su S 80 0 0) h' → post (FP.fdiv (FP.i2f (ii (cnt (onM S) (ntM S)))) (FP.i2f (ii (S 80 4)))) h') (x1 : S 80 4 = 0 → ∀ h', Pic G A B (su S 80 0 1) h' → post 0 h') : wp_X12_onShare G (A 80) h post := by
  obtain ⟨n8, n4, n5⟩ := ntM_8 hM
  obtain ⟨hM1, e1, e2⟩ := hM.t 0
  have f : su S 80 0 0 80 4 = S 80 4 := su_nei _ _ _ (by decide)
  refine P.thr0 (fun h1 P1 => P1.rI (k := 80) rfl rfl ?_)
  intro J hJ
  rw [f, il_0, ii_eq ⟨by omega, by omega⟩ ⟨by decide, by decide⟩]
  refine ⟨fun z => ?_, fun z => ?_⟩
  · apply hJ
    refine P1.mF (b := false) (e := 1) (Or.inl rfl) rfl il_1 (fun u => by cases u) (fun _ => ⟨fun _ => ?_, fun u => absurd rfl u⟩)
    refine ⟨P1.o (k := 80) rfl, P1.m_on hM1 (P1.rI (k := 80) rfl rfl ?_)⟩
    rw [f, onM_t, e2]
    refine ⟨?_, q z h1 P1⟩
    have c := cnt_in (onM S) (ntM S)
    have := (fl_share (cnt (onM S) (ntM S)).toNat (by omega) (ntM S) (by omega) (by omega)).1
    rw [show (((cnt (onM S) (ntM S)).toNat : Nat) : Int) = cnt (onM S) (ntM S) by omega, ← n4] at this
    exact this
  · apply hJ
    exact P1.mF (b := true) (e := 1) (Or.inl rfl) rfl il_1 (fun _ h' P' => ⟨fun u => absurd u (by decide), fun _ => x1 z h' P'⟩) (fun u => by cases u)
theorem Pic.m_meanLevel (P : Pic G A B S h) (hM : MO S) {post : UInt64 → hw → Prop} (q : cnt (onM S) (ntM S) ≠ 0 → ∀ h', Pic G A B (su S 80 0 0) h' → post (FP.ddiv (FP.i2d (ii (lvs (EM S) (S 113) (ntM S)))) (FP.i2d (ii (cnt (onM S) (ntM S))))) h') (x1 : cnt (onM S) (ntM S) = 0 → ∀ h', Pic G A B (su S 80 0 1) h' → post 0 h') : wp_X12_meanLevel G (A 80) h post := by
  obtain ⟨n8, n4, n5⟩ := ntM_8 hM
  obtain ⟨hM1, e1, e2⟩ := hM.t 0
  have f : su S 80 0 0 80 4 = S 80 4 := su_nei _ _ _ (by decide)
  have f113 : su S 80 0 0 113 = S 113 := su_row _ _ (by decide)
  have c := cnt_in (onM S) (ntM S)
  refine P.thr0 (fun h1 P1 => ?_)
  intro J hJ
  have main : ∀ i : Nat, i ≤ ntM S → J (ii (lvs (EM S) (S 113) i)) (ii (i : Int)) := by
    intro i hi
    refine lp_up (J := fun i : Nat => J (ii (lvs (EM S) (S 113) i)) (ii (i : Int))) (n := ntM S) ?_ ?_ hi
    · apply hJ
      refine P1.rI (k := 80) rfl rfl ?_
      rw [f, n4, ii_le ⟨by omega, by omega⟩ ⟨by omega, by omega⟩]
      refine ⟨fun _ => ?_, fun c => absurd (Int.le_refl _) c⟩
      refine ⟨P1.o (k := 80) rfl, P1.m_on hM1 ?_⟩
      intro J58 hJ58
      rw [onM_t, e2, il_0, ii_eq ⟨by omega, by omega⟩ ⟨by decide, by decide⟩]
      refine ⟨fun z => ?_, fun z => ?_⟩
      · apply hJ58
        refine P1.mF (b := false) (e := 1) (Or.inl rfl) rfl il_1 (fun u => by cases u) (fun _ => ⟨fun _ => ?_, fun u => absurd rfl u⟩)
        refine ⟨P1.o (k := 80) rfl, P1.m_on hM1 ?_⟩
        rw [onM_t, e2]
        refine ⟨?_, q z h1 P1⟩
        have := fl_div (ii (lvs (EM S) (S 113) (ntM S))) (b := (cnt (onM S) (ntM S)).toNat) (by omega) (by omega)
        rw [show (((cnt (onM S) (ntM S)).toNat : Nat) : Int) = cnt (onM S) (ntM S) by omega] at this
        exact fl_n64 this
      · apply hJ58
        exact P1.mF (b := true) (e := 1) (Or.inl rfl) rfl il_1 (fun _ h' P' => ⟨fun u => absurd u (by decide), fun _ => x1 z h' P'⟩) (fun u => by cases u)
    · intro i hi ih
      have e : lvs (EM S) (S 113) (i + 1) = lvs (EM S) (S 113) i + (if S 113 i = -1 then 0 else lvE (EM S) i) := rfl
      have ci := hM.2 i (by omega)
      rw [e] at ih
      apply hJ
      refine P1.rI (k := 80) rfl rfl ?_
      rw [f, n4, ii_le ⟨by omega, by omega⟩ ⟨by omega, by omega⟩]
      refine ⟨fun c => absurd c (by omega), fun _ => ?_⟩
      refine P1.mnow rfl (by omega) ?_
      intro J37 hJ37
      rw [f113, il_m1, ii_eq ⟨by omega, by omega⟩ ⟨by decide, by decide⟩]
      refine ⟨fun z => ?_, fun z => ?_⟩
      · refine ⟨P1.o (k := 80) rfl, P1.mlev hM1.1 (by omega) rfl ?_⟩
        apply hJ37; rw [ii_inc', ii_add, e1]
        rw [if_neg z] at ih; exact ih
      · apply hJ37; rw [ii_inc', il_0, ii_add]
        rw [if_pos z] at ih; exact ih
  exact main 0 (by omega)
theorem Pic.m_chAt (P : Pic G A B S h) (hM : MO S) (hR : RG S) (hday : 0 ≤ S 80 1 ∧ S 80 1 ≤ 100000) {v d : Int} (hv : rg v) (hd : rg d) {post : Int32 → hw → Prop} (q : inM S v → (0 ≤ d ∧ d ≤ S 80 1) → ∀ h', Pic G A B (su S 80 0 0) h' → post (ii (LM S v.toNat d)) h') (x1 : ¬ inM S v → ∀ h', Pic G A B (su S 80 0 1) h' → post 0 h') (x2 : inM S v → ¬ (0 ≤ d ∧ d ≤ S 80 1) → ∀ h', Pic G A B (su S 80 0 2) h' → post 0 h') : wp_X12_channelOf G (A 80) (ii v) (ii d) h post := by
  obtain ⟨n8, n4, n5⟩ := ntM_8 hM
  obtain ⟨hM1, e1, e2⟩ := hM.t 0
  have hR1 : RG (su S 80 0 0) := by
    obtain ⟨r1, r2, r3, r4⟩ := hR
    have g1 : su S 80 0 0 81 = S 81 := su_row _ _ (by decide)
    have g2 : su S 80 0 0 80 4 = S 80 4 := su_nei _ _ _ (by decide)
    have g3 : su S 80 0 0 50 = S 50 := su_row _ _ (by decide)
    have g4 : su S 80 0 0 51 = S 51 := su_row _ _ (by decide)
    refine ⟨by rw [g1, g2]; exact r1, by rw [g1]; exact r2, by rw [g3, g4]; exact r3, fun s hs => ?_⟩
    rw [g1] at hs
    have g5 : su S 80 0 0 (170 + s) = S (170 + s) := su_row _ _ (by omega)
    have g6 : su S 80 0 0 (190 + s) = S (190 + s) := su_row _ _ (by omega)
    unfold LI LV
    rw [g5, g6]
    exact r4 s hs
  refine P.thr0 (fun h1 P1 => P1.mNo hM hv (Or.inl rfl) rfl il_1 (fun z h' P' => ⟨fun _ => x1 z h' P', fun u => absurd u (by decide)⟩) (fun z => ⟨fun u => absurd rfl u, fun _ => ?_⟩))
  have z2 := z
  unfold inM at z2
  refine P1.rI (k := 80) rfl rfl ?_
  have f1 : su S 80 0 0 80 1 = S 80 1 := su_nei _ _ _ (by decide)
  refine P1.mIn hd (a := 0) (b := S 80 1) ⟨by omega, by omega⟩ ⟨by omega, by omega⟩ (e := 2) (Or.inr (Or.inl rfl)) rfl il_0 (by rw [f1]) il_2 (fun w h' P' => ⟨fun u => absurd u (by decide), fun _ => x2 z w h' P'⟩) (fun w => ⟨fun _ => ?_, fun u => absurd rfl u⟩)
  obtain ⟨s, es⟩ : ∃ s : Nat, s = v.toNat := ⟨_, rfl⟩
  rw [← es] at q
  have q := q z w h1 P1
  have r1 := hR.1
  have hs81 : (s : Int) < S 81 2 := by omega
  obtain ⟨⟨l0, l1, l2, l3⟩, lev, lvv⟩ := hR.2.2.2 s hs81
  refine P1.rlist hM1 hR1 (s := s) (by rw [e2]; omega) (congrArg ii (by omega)) ?_
  have g81 : su S 80 0 0 81 = S 81 := su_row _ _ (by decide)
  have g170 : su S 80 0 0 (170 + s) = S (170 + s) := su_row _ _ (by omega)
  have g190 : su S 80 0 0 (190 + s) = S (190 + s) := su_row _ _ (by omega)
  have c170 := ctn_170 (G := G) (A := A) (B := B) (S := su S 80 0 0) (s := s) (by rw [g81]; exact hs81) (by rw [g81]; omega)
  have c180 := ctn_180 (G := G) (A := A) (B := B) (S := su S 80 0 0) (s := s) (by rw [g81]; exact hs81) (by rw [g81]; omega)
  rw [g170] at c170 c180
  intro J hJ
  have main : ∀ e : Nat, e ≤ (S (170 + s) 2).toNat / 2 → J (ii (lmf (S (190 + s)) d e)) (ii ((2 * e : Nat) : Int)) := by
    intro e he
    refine lp_up (J := fun e : Nat => J (ii (lmf (S (190 + s)) d e)) (ii ((2 * e : Nat) : Int))) (n := (S (170 + s) 2).toNat / 2) ?_ ?_ he
    · apply hJ
      refine ⟨P1.o c170, P1.rI c170 rfl ?_⟩
      dsimp only
      rw [ii_le ⟨by omega, by omega⟩ ⟨by omega, by omega⟩]
      exact ⟨fun _ => q, fun c => absurd (show S (170 + s) 2 ≤ ((2 * ((S (170 + s) 2).toNat / 2) : Nat) : Int) by omega) c⟩
    · intro e he ih
      have c170' : ctn G A B (su S 80 0 0) (170 + s) = some (.inr (14, [.int (ii (S (170 + s) 0)), .ref (A (180 + s)), .int (ii (S (170 + s) 2))])) := by
        rw [c170]; unfold ctL; rw [if_neg (by omega)]
      have c180' : ctn G A B (su S 80 0 0) (180 + s) = some (.inl (G.2.2.1.2.2.2.2, (S (170 + s) 3).toNat, .inr (.inr (.inr (.inr (fun i => if (i : Int) < S (170 + s) 2 then some (B s i) else none)))))) := by
        rw [c180]; unfold ctSA; rw [if_neg (by omega)]
      have bx : ∀ i : Nat, (i : Int) < S (170 + s) 2 → h1 (B s i) = some (.inr (13, [.int (ii (S (190 + s) i))])) := fun i hi => by
        have := P1.2.2 s i (by rw [g81]; exact hs81) (by rw [g170]; exact hi)
        rw [g190] at this; exact this
      apply hJ
      refine ⟨P1.o c170, P1.rI c170 rfl ?_⟩
      dsimp only
      rw [ii_le ⟨by omega, by omega⟩ ⟨by omega, by omega⟩]
      refine ⟨fun c => absurd c (by omega), fun _ => ?_⟩
      have i0 : ((2 * e : Nat) : Int) < S (170 + s) 2 := by omega
      have i1 : ((2 * e + 1 : Nat) : Int) < S (170 + s) 2 := by omega
      refine ⟨P1.o c170, P1.get c170' c180' rfl i0 (by omega) (by omega) (if_pos i0) ?_⟩
      have b0 := bx (2 * e) i0
      have b1 := bx (2 * e + 1) i1
      refine ⟨⟨_, b0⟩, ⟨_, b0⟩, rdI_of b0 rfl ?_⟩
      intro J109 hJ109
      rw [ii_lt hd (lvv (2 * e) i0)]
      have el : lmf (S (190 + s)) d (e + 1) = if S (190 + s) (2 * e) ≤ d then S (190 + s) (2 * e + 1) else lmf (S (190 + s)) d e := rfl
      have e22 : ii ((2 * e : Nat) : Int) + 2 = ii ((2 * (e + 1) : Nat) : Int) := by rw [il_2, ii_add]; exact congrArg ii (by omega)
      refine ⟨fun c => ?_, fun c => ?_⟩
      · apply hJ109; rw [e22]
        rw [el, if_neg (by omega)] at ih; exact ih
      · refine ⟨P1.o c170, P1.get c170' c180' (i := 2 * e + 1) (by rw [il_1, ii_add]; exact congrArg ii (by omega)) i1 (by omega) (by omega) (if_pos i1) ?_⟩
        refine ⟨⟨_, b1⟩, ⟨_, b1⟩, rdI_of b1 rfl ?_⟩
        apply hJ109; rw [e22]
        rw [el, if_pos (by omega)] at ih; exact ih
  exact main 0 (by omega)
end MT
