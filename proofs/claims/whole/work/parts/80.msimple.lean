/-! the reference's own calls: guards, questions, the land -/
theorem su_su {S : Nat → Nat → Int} (k i : Nat) (v w : Int) : su (su S k i v) k i w = su S k i w := by
  funext k' i'
  unfold su
  by_cases z : k' = k ∧ i' = i
  · rw [if_pos z, if_pos z]
  · rw [if_neg z, if_neg z, if_neg z]
def inM (S : Nat → Nat → Int) (v : Int) : Prop := 0 ≤ v ∧ v < S 80 4
def siM (S : Nat → Nat → Int) (v : Int) : Prop := 0 ≤ v ∧ v < S 80 3
section MQ
variable {G : Gx} {A : Nat → Nat} {B : Nat → Nat → Nat} {S : Nat → Nat → Int} {h : hw}
theorem MO.t (hM : MO S) (v : Int) : MO (su S 80 0 v) ∧ EM (su S 80 0 v) = EM S ∧ ntM (su S 80 0 v) = ntM S := hM.ofi (fun k a b => su_row _ _ (by omega)) (fun i a b => su_nei _ _ _ (by omega))
theorem Pic.mF (P : Pic G A B (su S 80 0 0) h) {b : Bool} {e : Int} (he : e = 1 ∨ e = 2 ∨ e = 3 ∨ e = 4) {x y : Int32} (hx : x = ii (bI b)) (hy : y = ii e) {post : Int32 → hw → Prop} (q1 : b = true → ∀ h', Pic G A B (su S 80 0 e) h' → post 1 h') (q0 : b = false → post 0 h) : (isO h (A 80) 12 ∧ wp_X12_fails G (A 80) x y h post) :=
  ⟨P.o (k := 80) rfl, P.fails he (su_at _ _ _) hx hy (fun z h' P' => q1 z h' (by rw [su_su] at P'; exact P')) q0⟩
theorem Pic.mNo (P : Pic G A B (su S 80 0 0) h) (hM : MO S) {v e : Int} (hv : rg v) (he : e = 1 ∨ e = 2 ∨ e = 3 ∨ e = 4) {x y : Int32} (hx : x = ii v) (hy : y = ii e) {post : Int32 → hw → Prop} (q1 : ¬ inM S v → ∀ h', Pic G A B (su S 80 0 e) h' → post 1 h') (q0 : inM S v → post 0 h) : (isO h (A 80) 12 ∧ wp_X12_no G (A 80) x h (fun r2 => (isO h (A 80) 12 ∧ wp_X12_fails G (A 80) r2 y h post))) := by
  refine ⟨P.o (k := 80) rfl, P.mno (hM.t 0).1 hv hx ?_⟩
  rw [su_nei _ _ _ (by decide)]
  refine P.mF he rfl hy (fun z => q1 (fun w => ?_)) (fun z => q0 ?_)
  · rw [Bool.not_eq_true', inr_f] at z; unfold inM at w; omega
  · rw [Bool.not_eq_false', inr_t] at z; unfold inM; omega
theorem Pic.mCh (P : Pic G A B (su S 80 0 0) h) {v e : Int} (hv : rg v) (he : e = 1 ∨ e = 2 ∨ e = 3 ∨ e = 4) {x y : Int32} (hx : x = ii v) (hy : y = ii e) {post : Int32 → hw → Prop} (q1 : ¬ (0 ≤ v ∧ v ≤ 7) → ∀ h', Pic G A B (su S 80 0 e) h' → post 1 h') (q0 : (0 ≤ v ∧ v ≤ 7) → post 0 h) : wp_X12_noChannel G x h (fun r2 => (isO h (A 80) 12 ∧ wp_X12_fails G (A 80) r2 y h post)) := by
  refine noChan hv hx ?_
  refine P.mF he rfl hy (fun z => q1 ?_) (fun z => q0 ?_)
  · rw [Bool.not_eq_true', inr_f] at z; exact z
  · rw [Bool.not_eq_false', inr_t] at z; exact z
theorem Pic.mIn (P : Pic G A B (su S 80 0 0) h) {v a b e : Int} (hv : rg v) (ha : rg a) (hb : rg b) (he : e = 1 ∨ e = 2 ∨ e = 3 ∨ e = 4) {x y z w : Int32} (hx : x = ii v) (hy : y = ii a) (hz : z = ii b) (hw5 : w = ii e) {post : Int32 → hw → Prop} (q1 : ¬ (a ≤ v ∧ v ≤ b) → ∀ h', Pic G A B (su S 80 0 e) h' → post 1 h') (q0 : (a ≤ v ∧ v ≤ b) → post 0 h) : wp_X12_in G x y z h (fun r5 => ∀ J34 : Nat → Int32 → Prop, (∀ (t6 : Nat) (t7 : Int32), ((isO h t6 12 ∧ wp_X12_fails G t6 t7 w h post)) → J34 t6 t7) → ((¬ r5 = 0 → J34 (A 80) 0) ∧ (r5 = 0 → J34 (A 80) 1))) := by
  refine in_ii hv ha hb hx hy hz ?_
  intro J hJ
  rw [bI_1, bI_0]
  refine ⟨fun c => hJ _ _ (P.mF (b := false) he rfl hw5 (fun z => by cases z) (fun _ => q0 (inr_t.mp c))), fun c => hJ _ _ (P.mF (b := true) he rfl hw5 (fun _ => q1 (inr_f.mp c)) (fun z => by cases z))⟩
theorem noCell_of {c r : Int} (hc : rg c) (hr : rg r) {post : Int32 → Prop} (q : post (ii (bI (!(inr c 0 19 && inr r 0 19))))) : wp_X12_noCell G (ii c) (ii r) h post := by
  refine in_ii hc (a := 0) (b := 19) ⟨by omega, by omega⟩ ⟨by omega, by omega⟩ rfl il_0 il_19 ?_
  intro J hJ
  rw [bI_1, bI_0]
  refine ⟨fun a => hJ (by rw [a] at q; exact q), fun a => ?_⟩
  refine in_ii hr (a := 0) (b := 19) ⟨by omega, by omega⟩ ⟨by omega, by omega⟩ rfl il_0 il_19 ?_
  rw [bI_1, bI_0]
  refine ⟨fun b => ?_, fun b => hJ (by rw [b, Bool.and_false] at q; exact q)⟩
  rw [a, b] at q; exact q
theorem Pic.mNoSi (P : Pic G A B S h) (h3 : 0 ≤ S 80 3 ∧ S 80 3 ≤ 10) {v : Int} (hv : rg v) {post : Int32 → Prop} (q : post (ii (bI (!inr v 0 (S 80 3 - 1))))) : wp_X12_noSite G (A 80) (ii v) h post := by
  refine P.rI (k := 80) rfl rfl ?_
  refine in_ii hv (a := 0) (b := S 80 3 - 1) ⟨by omega, by omega⟩ ⟨by omega, by omega⟩ rfl il_0 (by rw [il_1, ii_sub]) ?_
  rw [bI_1, bI_0]
  refine ⟨fun c => ?_, fun c => ?_⟩
  · rw [c] at q; exact q
  · rw [c] at q; exact q
theorem MO.s3 (hM : MO S) : 0 ≤ S 80 3 ∧ S 80 3 ≤ 10 := hM.1.2.2.2.2.2.2.2.2.2.2
theorem Pic.mAny (P : Pic G A B S h) (hM : MO S) {post : Int32 → Prop} (q : post (ii (bI (anyb (fun j => decide (S 113 j ≠ -1)) (ntM S))))) : wp_X12_isAnyOn G (A 80) h post := by
  obtain ⟨n8, n4, n5⟩ := ntM_8 hM
  intro J hJ
  have main : ∀ i : Nat, i ≤ ntM S → J (ii (bI (anyb (fun j => decide (S 113 j ≠ -1)) i))) (ii (i : Int)) := by
    intro i hi
    refine lp_up (J := fun i : Nat => J (ii (bI (anyb (fun j => decide (S 113 j ≠ -1)) i))) (ii (i : Int))) (n := ntM S) ?_ ?_ hi
    · apply hJ
      refine P.rI (k := 80) rfl rfl ?_
      rw [n4, ii_le ⟨by omega, by omega⟩ ⟨by omega, by omega⟩]
      exact ⟨fun _ => ⟨bI_01 _, q⟩, fun c => absurd (Int.le_refl _) c⟩
    · intro i hi ih
      have e : anyb (fun j => decide (S 113 j ≠ -1)) (i + 1) = (anyb (fun j => decide (S 113 j ≠ -1)) i || decide (S 113 i ≠ -1)) := rfl
      have ci := hM.2 i (by omega)
      rw [e] at ih
      apply hJ
      refine P.rI (k := 80) rfl rfl ?_
      rw [n4, ii_le ⟨by omega, by omega⟩ ⟨by omega, by omega⟩]
      refine ⟨fun c => absurd c (by omega), fun _ => ?_⟩
      intro J31 hJ31 J26 hJ26
      rw [bI_1, bI_0]
      have yes : (anyb (fun j => decide (S 113 j ≠ -1)) i || decide (S 113 i ≠ -1)) = true → J26 := fun z => by
        apply hJ26; apply hJ31; rw [ii_inc']; rw [z] at ih; exact ih
      refine ⟨fun c => yes (by rw [c]; rfl), fun c => ?_⟩
      refine P.mnow rfl (by omega) ?_
      rw [il_m1, ii_eq ⟨by omega, by omega⟩ ⟨by decide, by decide⟩]
      refine ⟨fun c2 => ?_, fun c2 => yes (by rw [decide_eq_true c2, Bool.or_true])⟩
      apply hJ31; rw [ii_inc']; rw [c, decide_eq_false (fun z => z c2)] at ih; exact ih
  exact main 0 (by omega)
theorem Pic.m_setGround (P : Pic G A B S h) (hM : MO S) {c r g : Int} (hc : rg c) (hr : rg r) (hg : rg g) {post : Int32 → hw → Prop} (q : (0 ≤ c ∧ c ≤ 19) → (0 ≤ r ∧ r ≤ 19) → (0 ≤ g ∧ g ≤ 99) → (∀ j, j < ntM S → S 113 j = -1) → ∀ h', Pic G A B (su (su S 80 0 0) 105 (20 * r + c).toNat g) h' → post (ii (gix (EM S) c r)) h') (x1 : ¬ ((0 ≤ c ∧ c ≤ 19) ∧ 0 ≤ r ∧ r ≤ 19) → ∀ h', Pic G A B (su S 80 0 1) h' → post 0 h') (x2 : (0 ≤ c ∧ c ≤ 19) → (0 ≤ r ∧ r ≤ 19) → ¬ (0 ≤ g ∧ g ≤ 99) → ∀ h', Pic G A B (su S 80 0 2) h' → post 0 h') (x3 : (0 ≤ c ∧ c ≤ 19) → (0 ≤ r ∧ r ≤ 19) → (0 ≤ g ∧ g ≤ 99) → ¬ (∀ j, j < ntM S → S 113 j = -1) → ∀ h', Pic G A B (su S 80 0 3) h' → post 0 h') : wp_X12_setGround G (A 80) (ii c) (ii r) (ii g) h post := by
  refine P.thr0 (fun h1 P1 => noCell_of hc hr ?_)
  refine P1.mF (Or.inl rfl) rfl il_1 (fun z h' P' => ?_) (fun z => ?_)
  · rw [Bool.not_eq_true', Bool.and_eq_false_iff, inr_f, inr_f] at z
    exact ⟨fun _ => x1 (fun w => z.elim (fun y => y w.1) (fun y => y w.2)) h' P', fun y => absurd y (by decide)⟩
  · rw [Bool.not_eq_false', Bool.and_eq_true, inr_t, inr_t] at z
    refine ⟨fun y => absurd rfl y, fun _ => ?_⟩
    refine P1.mIn hg (a := 0) (b := 99) ⟨by omega, by omega⟩ ⟨by omega, by omega⟩ (e := 2) (Or.inr (Or.inl rfl)) rfl il_0 il_99 il_2 (fun w h' P' => ⟨fun _ => x2 z.1 z.2 w h' P', fun y => absurd y (by decide)⟩) (fun w => ?_)
    refine ⟨fun y => absurd rfl y, fun _ => ?_⟩
    refine ⟨P1.o (k := 80) rfl, P1.mAny (hM.t 0).1 ?_⟩
    rw [(hM.t 0).2.2]
    refine P1.mF (e := 3) (Or.inr (Or.inr (Or.inl rfl))) rfl il_3 (fun y h' P' => ?_) (fun y => ?_)
    · refine ⟨fun u => absurd u (by decide), fun _ => x3 z.1 z.2 w (fun u => ?_) h' P'⟩
      obtain ⟨i, hi, hb⟩ := anyb_t.mp y
      rw [decide_eq_true_eq, su_row _ _ (by decide)] at hb
      exact hb (u i hi)
    · refine ⟨fun _ => ?_, fun u => absurd rfl u⟩
      have off : ∀ j, j < ntM S → S 113 j = -1 := fun j hj => by
        apply Decidable.byContradiction
        intro u
        have : anyb (fun j => decide (su S 80 0 0 113 j ≠ -1)) (ntM S) = true := anyb_t.mpr ⟨j, hj, by rw [su_row _ _ (by decide)]; exact decide_eq_true u⟩
        rw [this] at y; cases y
      have ei : ((20 : Int32) * (ii r)) + (ii c) = ii (((20 * r + c).toNat : Nat) : Int) := by rw [il_20, ii_mul, ii_add]; exact congrArg ii (by omega)
      refine P1.md (k := 105) (i := (20 * r + c).toNat) ⟨by omega, by omega, rfl, rfl⟩ ei (show _ < 400 by omega) ?_
      refine P1.ms (k := 105) (i := (20 * r + c).toNat) (z := g) ⟨by omega, by omega, rfl, rfl⟩ ei rfl (show _ < 400 by omega) (fun h2 P2 => ?_)
      rw [su_row _ _ (by decide), ← EM_3 (S := S) (show (20 * r + c).toNat < 400 by omega)]
      exact q z.1 z.2 w off h2 P2
theorem Pic.m_addSite (P : Pic G A B S h) (hM : MO S) {c r g : Int} (hc : rg c) (hr : rg r) (hg : rg g) {post : Int32 → hw → Prop} (q : (0 ≤ c ∧ c ≤ 19) → (0 ≤ r ∧ r ≤ 19) → (0 ≤ g ∧ g ≤ 99) → S 80 3 ≠ 10 → ∀ h', Pic G A B (su (su (su (su (su S 80 0 0) 106 (S 80 3).toNat c) 107 (S 80 3).toNat r) 108 (S 80 3).toNat g) 80 3 (S 80 3 + 1)) h' → post (ii (S 80 3)) h') (x1 : ¬ ((0 ≤ c ∧ c ≤ 19) ∧ 0 ≤ r ∧ r ≤ 19) → ∀ h', Pic G A B (su S 80 0 1) h' → post 0 h') (x2 : (0 ≤ c ∧ c ≤ 19) → (0 ≤ r ∧ r ≤ 19) → ¬ (0 ≤ g ∧ g ≤ 99) → ∀ h', Pic G A B (su S 80 0 2) h' → post 0 h') (x3 : (0 ≤ c ∧ c ≤ 19) → (0 ≤ r ∧ r ≤ 19) → (0 ≤ g ∧ g ≤ 99) → S 80 3 = 10 → ∀ h', Pic G A B (su S 80 0 3) h' → post 0 h') : wp_X12_addSite G (A 80) (ii c) (ii r) (ii g) h post := by
  have s3 := hM.s3
  refine P.thr0 (fun h1 P1 => noCell_of hc hr ?_)
  refine P1.mF (Or.inl rfl) rfl il_1 (fun z h' P' => ?_) (fun z => ?_)
  · rw [Bool.not_eq_true', Bool.and_eq_false_iff, inr_f, inr_f] at z
    exact ⟨fun _ => x1 (fun w => z.elim (fun y => y w.1) (fun y => y w.2)) h' P', fun y => absurd y (by decide)⟩
  · rw [Bool.not_eq_false', Bool.and_eq_true, inr_t, inr_t] at z
    refine ⟨fun y => absurd rfl y, fun _ => ?_⟩
    refine P1.mIn hg (a := 0) (b := 99) ⟨by omega, by omega⟩ ⟨by omega, by omega⟩ (e := 2) (Or.inr (Or.inl rfl)) rfl il_0 il_99 il_2 (fun w h' P' => ⟨fun _ => x2 z.1 z.2 w h' P', fun y => absurd y (by decide)⟩) (fun w => ?_)
    refine ⟨fun y => absurd rfl y, fun _ => ?_⟩
    refine P1.rI (k := 80) rfl rfl ?_
    intro J56 hJ56
    rw [su_nei _ _ _ (by decide), il_10, ii_eq ⟨by omega, by omega⟩ ⟨by decide, by decide⟩]
    refine ⟨fun y => hJ56 _ _ (P1.mF (b := false) (e := 3) (Or.inr (Or.inr (Or.inl rfl))) rfl il_3 (fun u => by cases u) (fun _ => ?_)), fun y => hJ56 _ _ (P1.mF (b := true) (e := 3) (Or.inr (Or.inr (Or.inl rfl))) rfl il_3 (fun _ h' P' => ⟨fun u => absurd u (by decide), fun _ => x3 z.1 z.2 w y h' P'⟩) (fun u => by cases u))⟩
    refine ⟨fun _ => ?_, fun u => absurd rfl u⟩
    have e3 : S 80 3 = (((S 80 3).toNat : Nat) : Int) := by omega
    refine P1.rR (k := 80) rfl rfl (P1.rI (k := 80) rfl rfl (P1.mst (k := 106) (i := (S 80 3).toNat) (z := c) (by omega) (by omega) rfl (by rw [su_nei _ _ _ (by decide)]; exact congrArg ii e3) rfl (show _ < 10 by omega) (fun h2 P2 => ?_)))
    refine P2.rR (k := 80) rfl rfl (P2.rI (k := 80) rfl rfl (P2.mst (k := 107) (i := (S 80 3).toNat) (z := r) (by omega) (by omega) rfl (by rw [su_ne _ _ _ (by decide), su_nei _ _ _ (by decide)]; exact congrArg ii e3) rfl (show _ < 10 by omega) (fun h3 P3 => ?_)))
    refine P3.rR (k := 80) rfl rfl (P3.rI (k := 80) rfl rfl (P3.mst (k := 108) (i := (S 80 3).toNat) (z := g) (by omega) (by omega) rfl (by rw [su_ne _ _ _ (by decide), su_ne _ _ _ (by decide), su_nei _ _ _ (by decide)]; exact congrArg ii e3) rfl (show _ < 10 by omega) (fun h4 P4 => ?_)))
    refine P4.rI (k := 80) rfl rfl ?_
    have e80 : su (su (su (su S 80 0 0) 106 (S 80 3).toNat c) 107 (S 80 3).toNat r) 108 (S 80 3).toNat g 80 3 = S 80 3 := by rw [su_ne _ _ _ (by decide), su_ne _ _ _ (by decide), su_ne _ _ _ (by decide), su_nei _ _ _ (by decide)]
    refine P4.wF (k := 80) (z := S 80 3 + 1) ⟨by decide, by decide, by decide, by decide⟩ rfl (by show 3 < 36; decide) ?_ (fun h5 P5 => ?_)
    · rw [show ii (su (su (su (su S 80 0 0) 106 (S 80 3).toNat c) 107 (S 80 3).toNat r) 108 (S 80 3).toNat g 80 3) + 1 = ii (S 80 3 + 1) by rw [e80, il_1, ii_add]]
      rfl
    · refine P5.rI (k := 80) rfl rfl ?_
      rw [su_at, il_1, ii_sub, show S 80 3 + 1 - 1 = S 80 3 by omega]
      exact q z.1 z.2 w y h5 P5
theorem Pic.m_loss (P : Pic G A B S h) (hM : MO S) {v w : Int} (hv : rg v) (hw2 : rg w) {post : Int32 → hw → Prop} (q : siM S v → siM S w → ∀ h', Pic G A B (su S 80 0 0) h' → post (ii (lossE (EM S) v.toNat w.toNat)) h') (x1 : ¬ (siM S v ∧ siM S w) → ∀ h', Pic G A B (su S 80 0 1) h' → post 0 h') : wp_X12_loss G (A 80) (ii v) (ii w) h post := by
  have s3 := hM.s3
  obtain ⟨hM1, e1, e2⟩ := hM.t 0
  refine P.thr0 (fun h1 P1 => ⟨P1.o (k := 80) rfl, P1.mNoSi (by rw [su_nei _ _ _ (by decide)]; exact s3) hv ?_⟩)
  rw [su_nei _ _ _ (by decide)]
  intro J27 hJ27 J22 hJ22
  have bad : ¬ (siM S v ∧ siM S w) → J22 (A 80) := fun z => by
    apply hJ22; apply hJ27
    exact P1.mF (b := true) (e := 1) (Or.inl rfl) rfl il_1 (fun _ h' P' => ⟨fun u => absurd u (by decide), fun _ => x1 z h' P'⟩) (fun u => by cases u)
  rw [bI_1, bI_0]
  refine ⟨fun z => bad (fun y => ?_), fun z => ?_⟩
  · rw [Bool.not_eq_true', inr_f] at z; have := y.1; unfold siM at this; omega
  · rw [Bool.not_eq_false', inr_t] at z
    refine ⟨P1.o (k := 80) rfl, P1.mNoSi (by rw [su_nei _ _ _ (by decide)]; exact s3) hw2 ?_⟩
    rw [su_nei _ _ _ (by decide), bI_1, bI_0]
    refine ⟨fun y => ?_, fun y => bad (fun u => ?_)⟩
    · rw [Bool.not_eq_false', inr_t] at y
      apply hJ27
      refine P1.mF (b := false) (e := 1) (Or.inl rfl) rfl il_1 (fun u => by cases u) (fun _ => ⟨fun _ => ?_, fun u => absurd rfl u⟩)
      refine ⟨P1.o (k := 80) rfl, P1.mloss hM1.1 (a := v.toNat) (b := w.toNat) (by omega) (by omega) (congrArg ii (by omega)) (congrArg ii (by omega)) ?_⟩
      rw [e1]
      exact q ⟨by omega, by omega⟩ ⟨by omega, by omega⟩ h1 P1
    · rw [Bool.not_eq_true', inr_f] at y; have := u.2; unfold siM at this; omega
theorem Pic.m_setRatio (P : Pic G A B S h) (hM : MO S) {r : Int} (hr : rg r) {post : Int32 → hw → Prop} (q : (0 ≤ r ∧ r ≤ 500) → (∀ j, j < ntM S → S 113 j = -1) → ∀ h', Pic G A B (su (su S 80 0 0) 80 2 r) h' → post (ii (S 80 2)) h') (x1 : ¬ (0 ≤ r ∧ r ≤ 500) → ∀ h', Pic G A B (su S 80 0 1) h' → post 0 h') (x2 : (0 ≤ r ∧ r ≤ 500) → ¬ (∀ j, j < ntM S → S 113 j = -1) → ∀ h', Pic G A B (su S 80 0 2) h' → post 0 h') : wp_X12_setRatio G (A 80) (ii r) h post := by
  refine P.thr0 (fun h1 P1 => ?_)
  refine P1.mIn hr (a := 0) (b := 500) ⟨by omega, by omega⟩ ⟨by omega, by omega⟩ (e := 1) (Or.inl rfl) rfl il_0 il_500 il_1 (fun w h' P' => ⟨fun _ => x1 w h' P', fun y => absurd y (by decide)⟩) (fun w => ⟨fun y => absurd rfl y, fun _ => ?_⟩)
  refine ⟨P1.o (k := 80) rfl, P1.mAny (hM.t 0).1 ?_⟩
  rw [(hM.t 0).2.2]
  refine P1.mF (e := 2) (Or.inr (Or.inl rfl)) rfl il_2 (fun y h' P' => ?_) (fun y => ?_)
  · refine ⟨fun u => absurd u (by decide), fun _ => x2 w (fun u => ?_) h' P'⟩
    obtain ⟨i, hi, hb⟩ := anyb_t.mp y
    rw [decide_eq_true_eq, su_row _ _ (by decide)] at hb
    exact hb (u i hi)
  · refine ⟨fun _ => ?_, fun u => absurd rfl u⟩
    have off : ∀ j, j < ntM S → S 113 j = -1 := fun j hj => by
      apply Decidable.byContradiction
      intro u
      have : anyb (fun j => decide (su S 80 0 0 113 j ≠ -1)) (ntM S) = true := anyb_t.mpr ⟨j, hj, by rw [su_row _ _ (by decide)]; exact decide_eq_true u⟩
      rw [this] at y; cases y
    refine P1.rI (k := 80) rfl rfl ?_
    refine P1.wF (k := 80) (z := r) ⟨by decide, by decide, by decide, by decide⟩ rfl (by show 2 < 36; decide) rfl (fun h2 P2 => ?_)
    rw [su_nei _ _ _ (by decide)]
    exact q w off h2 P2
theorem Pic.m_level (P : Pic G A B S h) (hM : MO S) {v : Int} (hv : rg v) {post : Int32 → hw → Prop} (q : inM S v → ∀ h', Pic G A B (su S 80 0 0) h' → post (ii (lvE (EM S) v.toNat)) h') (x1 : ¬ inM S v → ∀ h', Pic G A B (su S 80 0 1) h' → post 0 h') : wp_X12_level G (A 80) (ii v) h post := by
  obtain ⟨n8, n4, n5⟩ := ntM_8 hM
  obtain ⟨hM1, e1, e2⟩ := hM.t 0
  refine P.thr0 (fun h1 P1 => P1.mNo hM hv (Or.inl rfl) rfl il_1 (fun z h' P' => ⟨fun u => absurd u (by decide), fun _ => x1 z h' P'⟩) (fun z => ⟨fun _ => ?_, fun u => absurd rfl u⟩))
  have z2 := z
  unfold inM at z2
  refine ⟨P1.o (k := 80) rfl, P1.mlev hM1.1 (j := v.toNat) (by omega) (congrArg ii (by omega)) ?_⟩
  rw [e1]; exact q z h1 P1
theorem Pic.m_harm (P : Pic G A B S h) (hM : MO S) {v : Int} (hv : rg v) {post : Int32 → hw → Prop} (q : inM S v → S 113 v.toNat ≠ -1 → ∀ a, hs (EM S) v.toNat (S 113) (ntM S) = some a → ∀ h', Pic G A B (su S 80 0 0) h' → post (ii a) h') (x1 : ¬ inM S v → ∀ h', Pic G A B (su S 80 0 1) h' → post 0 h') (x2 : inM S v → S 113 v.toNat = -1 → ∀ h', Pic G A B (su S 80 0 2) h' → post 0 h') (x3 : inM S v → S 113 v.toNat ≠ -1 → hs (EM S) v.toNat (S 113) (ntM S) = none → ∀ h', Pic G A B (su S 80 0 3) h' → post 0 h') : wp_X12_harm G (A 80) (ii v) h post := by
  obtain ⟨n8, n4, n5⟩ := ntM_8 hM
  obtain ⟨hM1, e1, e2⟩ := hM.t 0
  have f113 : su S 80 0 0 113 = S 113 := su_row _ _ (by decide)
  refine P.thr0 (fun h1 P1 => P1.mNo hM hv (Or.inl rfl) rfl il_1 (fun z h' P' => ?_) (fun z => ?_))
  · intro J hJ
    exact ⟨fun _ => hJ _ (x1 z h' P'), fun u => absurd u (by decide)⟩
  · have z2 := z
    unfold inM at z2
    have ci := hM.2 v.toNat (by omega)
    intro J hJ
    refine ⟨fun u => absurd rfl u, fun _ => ?_⟩
    refine P1.mnow (i := v.toNat) (congrArg ii (by omega)) (by omega) ?_
    rw [f113, il_m1, ii_eq ⟨by omega, by omega⟩ ⟨by decide, by decide⟩]
    intro J34 hJ34
    refine ⟨fun w => ?_, fun w => ?_⟩
    · apply hJ34
      refine P1.mF (b := false) (e := 2) (Or.inr (Or.inl rfl)) rfl il_2 (fun u => by cases u) (fun _ => ⟨fun u => absurd rfl u, fun _ => ?_⟩)
      refine ⟨P1.o (k := 80) rfl, P1.misHarmed hM1 (s := v.toNat) (by omega) (congrArg ii (by omega)) ?_⟩
      rw [e2, f113]
      intro J55 hJ55
      rw [bI_1, bI_0]
      refine ⟨fun y => ?_, fun y => ?_⟩
      · apply hJ55
        refine P1.mF (b := false) (e := 3) (Or.inr (Or.inr (Or.inl rfl))) rfl il_3 (fun u => by cases u) (fun _ => ⟨fun _ => ?_, fun u => absurd rfl u⟩)
        refine ⟨P1.o (k := 80) rfl, P1.mharmOf hM1 (s := v.toNat) (by omega) (congrArg ii (by omega)) ?_⟩
        rw [e1, e2, f113]
        cases hh : hs (EM S) v.toNat (S 113) (ntM S) with
        | none => rw [hs_none, y] at hh; cases hh
        | some a => exact q z w a hh h1 P1
      · apply hJ55
        exact P1.mF (b := true) (e := 3) (Or.inr (Or.inr (Or.inl rfl))) rfl il_3 (fun _ h' P' => ⟨fun u => absurd u (by decide), fun _ => hJ _ (x3 z w (hs_none.mpr y) h' P')⟩) (fun u => by cases u)
    · apply hJ34
      exact P1.mF (b := true) (e := 2) (Or.inr (Or.inl rfl)) rfl il_2 (fun _ h' P' => ⟨fun _ => hJ _ (x2 z w h' P'), fun u => absurd u (by decide)⟩) (fun u => by cases u)
theorem Pic.m_keeps (P : Pic G A B S h) (hM : MO S) {v : Int} (hv : rg v) {post : Int32 → hw → Prop} (q : inM S v → S 113 v.toNat ≠ -1 → ∀ h', Pic G A B (su S 80 0 0) h' → post (ii (bI (kp (EM S) v.toNat (S 113)))) h') (x1 : ¬ inM S v → ∀ h', Pic G A B (su S 80 0 1) h' → post 0 h') (x2 : inM S v → S 113 v.toNat = -1 → ∀ h', Pic G A B (su S 80 0 2) h' → post 0 h') : wp_X12_keeps G (A 80) (ii v) h post := by
  obtain ⟨n8, n4, n5⟩ := ntM_8 hM
  obtain ⟨hM1, e1, e2⟩ := hM.t 0
  have f113 : su S 80 0 0 113 = S 113 := su_row _ _ (by decide)
  refine P.thr0 (fun h1 P1 => P1.mNo hM hv (Or.inl rfl) rfl il_1 (fun z h' P' => ?_) (fun z => ?_))
  · intro J hJ
    exact ⟨fun _ => hJ _ (x1 z h' P'), fun u => absurd u (by decide)⟩
  · have z2 := z
    unfold inM at z2
    have ci := hM.2 v.toNat (by omega)
    intro J hJ
    refine ⟨fun u => absurd rfl u, fun _ => ?_⟩
    refine P1.mnow (i := v.toNat) (congrArg ii (by omega)) (by omega) ?_
    rw [f113, il_m1, ii_eq ⟨by omega, by omega⟩ ⟨by decide, by decide⟩]
    intro J34 hJ34
    refine ⟨fun w => ?_, fun w => ?_⟩
    · apply hJ34
      refine P1.mF (b := false) (e := 2) (Or.inr (Or.inl rfl)) rfl il_2 (fun u => by cases u) (fun _ => ⟨fun u => absurd rfl u, fun _ => ?_⟩)
      refine ⟨P1.o (k := 80) rfl, P1.mkeeps hM1 (s := v.toNat) (by omega) (congrArg ii (by omega)) ?_⟩
      have q := q z w h1 P1
      rw [e1, f113, bI_1, bI_0]
      refine ⟨fun y => ?_, fun y => ?_⟩
      · apply hJ; rw [y] at q; exact q
      · rw [y] at q; exact q
    · apply hJ34
      exact P1.mF (b := true) (e := 2) (Or.inr (Or.inl rfl)) rfl il_2 (fun _ h' P' => ⟨fun _ => hJ _ (x2 z w h' P'), fun u => absurd u (by decide)⟩) (fun u => by cases u)
theorem Pic.m_bars (P : Pic G A B S h) (hM : MO S) {v c w d : Int} (hv : rg v) (hc : rg c) (hw2 : rg w) (hd : rg d) {post : Int32 → hw → Prop} (q : inM S v → inM S w → v ≠ w → (0 ≤ c ∧ c ≤ 7) → (0 ≤ d ∧ d ≤ 7) → ∀ h', Pic G A B (su S 80 0 0) h' → post (ii (bI (br2 (EM S) v.toNat c w.toNat d))) h') (x1 : ¬ (inM S v ∧ inM S w) → ∀ h', Pic G A B (su S 80 0 1) h' → post 0 h') (x2 : inM S v → inM S w → ¬ (v ≠ w ∧ (0 ≤ c ∧ c ≤ 7) ∧ 0 ≤ d ∧ d ≤ 7) → ∀ h', Pic G A B (su S 80 0 2) h' → post 0 h') : wp_X12_bars G (A 80) (ii v) (ii c) (ii w) (ii d) h post := by
  obtain ⟨n8, n4, n5⟩ := ntM_8 hM
  obtain ⟨hM1, e1, e2⟩ := hM.t 0
  refine P.thr0 (fun h1 P1 => ⟨P1.o (k := 80) rfl, P1.mno hM1 hv rfl ?_⟩)
  rw [su_nei _ _ _ (by decide)]
  intro J27 hJ27 J22 hJ22
  have bad : ¬ (inM S v ∧ inM S w) → J22 (A 80) := fun z => by
    apply hJ22; apply hJ27
    exact P1.mF (b := true) (e := 1) (Or.inl rfl) rfl il_1 (fun _ h' P' => ⟨fun _ => x1 z h' P', fun u => absurd u (by decide)⟩) (fun u => by cases u)
  rw [bI_1, bI_0]
  refine ⟨fun z => bad (fun y => ?_), fun z => ?_⟩
  · rw [Bool.not_eq_true', inr_f] at z; have := y.1; unfold inM at this; omega
  · rw [Bool.not_eq_false', inr_t] at z
    refine ⟨P1.o (k := 80) rfl, P1.mno hM1 hw2 rfl ?_⟩
    rw [su_nei _ _ _ (by decide), bI_1, bI_0]
    refine ⟨fun y => ?_, fun y => bad (fun u => ?_)⟩
    · rw [Bool.not_eq_false', inr_t] at y
      have iv : inM S v := ⟨by omega, by omega⟩
      have iw : inM S w := ⟨by omega, by omega⟩
      apply hJ27
      refine P1.mF (b := false) (e := 1) (Or.inl rfl) rfl il_1 (fun u => by cases u) (fun _ => ⟨fun u => absurd rfl u, fun _ => ?_⟩)
      intro J60 hJ60 J55 hJ55
      have bad2 : ¬ (v ≠ w ∧ (0 ≤ c ∧ c ≤ 7) ∧ 0 ≤ d ∧ d ≤ 7) → J55 (A 80) := fun u => by
        apply hJ55; apply hJ60
        exact P1.mF (b := true) (e := 2) (Or.inr (Or.inl rfl)) rfl il_2 (fun _ h' P' => ⟨fun u => absurd u (by decide), fun _ => x2 iv iw u h' P'⟩) (fun u => by cases u)
      rw [ii_eq hv hw2]
      refine ⟨fun e => bad2 (fun u => u.1 e), fun ne => ?_⟩
      refine noChan hc rfl ?_
      rw [bI_1, bI_0]
      refine ⟨fun u => bad2 (fun k => ?_), fun u => ?_⟩
      · rw [Bool.not_eq_true', inr_f] at u; exact u k.2.1
      · rw [Bool.not_eq_false', inr_t] at u
        refine noChan hd rfl ?_
        rw [bI_1, bI_0]
        refine ⟨fun k => ?_, fun k => bad2 (fun l => ?_)⟩
        · rw [Bool.not_eq_false', inr_t] at k
          apply hJ60
          refine P1.mF (b := false) (e := 2) (Or.inr (Or.inl rfl)) rfl il_2 (fun u => by cases u) (fun _ => ⟨fun _ => ?_, fun u => absurd rfl u⟩)
          refine ⟨P1.o (k := 80) rfl, P1.mbar hM1 (a := v.toNat) (b := w.toNat) (by omega) (by omega) (c := c) (d := d) ⟨by omega, by omega⟩ ⟨by omega, by omega⟩ (congrArg ii (by omega)) rfl (congrArg ii (by omega)) rfl ⟨bI_01 _, ?_⟩⟩
          rw [e1]; exact q iv iw ne u k h1 P1
        · rw [Bool.not_eq_true', inr_f] at k; exact k l.2.2
    · rw [Bool.not_eq_true', inr_f] at y; have := u.2; unfold inM at this; omega
end MQ
