/-! the reference's own calls: stations, the border, days, packings, prices, shares -/
def yesM (S : Nat → Nat → Int) (i : Nat) : Bool := decide (S 117 i ≠ -1) && (decide (S 118 i = 0) && decide (S 117 i + 3 ≤ S 80 1))
def BM (S : Nat → Nat → Int) : Prop := (∀ i, i < 8 → S 116 i = 0 ∨ S 116 i = 1) ∧ (∀ i, i < 64 → -1 ≤ S 117 i ∧ S 117 i ≤ S 80 1) ∧ (∀ i, i < 64 → S 118 i = 0 ∨ S 118 i = 1) ∧ (0 ≤ S 80 1 ∧ S 80 1 ≤ 100000)
section MR
variable {G : Gx} {A : Nat → Nat} {B : Nat → Nat → Nat} {S : Nat → Nat → Int} {h : hw}
theorem b01 (b : Bool) : bI b = 0 ∨ bI b = 1 := by
  cases b
  · exact Or.inl rfl
  · exact Or.inr rfl
theorem z01 {z : Int} (h : z = 0 ∨ z = 1) : ii z = 0 ∨ ii z = 1 := by
  rcases h with rfl | rfl
  · exact Or.inl rfl
  · exact Or.inr rfl
theorem Pic.m_addStation (P : Pic G A B S h) (hM : MO S) (hR : RG S) {a b p : Int} {f : Bool} (ha : rg a) (hb : rg b) (hp : rg p) {post : Int32 → hw → Prop} (q : siM S a → siM S b → a ≠ b → (0 ≤ p ∧ p ≤ 500) → S 80 4 ≠ 8 → ∀ A' h', Pic G A' B (su (lsu (su (su (su (su (su S 80 0 0) 109 (S 80 4).toNat a) 110 (S 80 4).toNat b) 111 (S 80 4).toNat p) 112 (S 80 4).toNat (bI f)) 81 170 (fun _ => 0)) 80 4 (S 80 4 + 1)) h' → (A' 0 = A 0 ∧ A' 80 = A 80 ∧ A' 90 = A 90 ∧ A' 91 = A 91) → post (ii (S 80 4)) h') (x1 : ¬ (siM S a ∧ siM S b) → ∀ h', Pic G A B (su S 80 0 1) h' → post 0 h') (x2 : siM S a → siM S b → ¬ (a ≠ b ∧ 0 ≤ p ∧ p ≤ 500) → ∀ h', Pic G A B (su S 80 0 2) h' → post 0 h') (x3 : siM S a → siM S b → a ≠ b → (0 ≤ p ∧ p ≤ 500) → S 80 4 = 8 → ∀ h', Pic G A B (su S 80 0 3) h' → post 0 h') : wp_X12_addStation G (A 80) (ii a) (ii b) (ii p) (ii (bI f)) h post := by
  obtain ⟨n8, n4, n5⟩ := ntM_8 hM
  have s3 := hM.s3
  refine P.thr0 (fun h1 P1 => ⟨P1.o (k := 80) rfl, P1.mNoSi (by rw [su_nei _ _ _ (by decide)]; exact s3) ha ?_⟩)
  rw [su_nei _ _ _ (by decide)]
  intro J27 hJ27 J22 hJ22
  have bad : ¬ (siM S a ∧ siM S b) → J22 (A 80) := fun z => by
    apply hJ22; apply hJ27
    exact P1.mF (b := true) (e := 1) (Or.inl rfl) rfl il_1 (fun _ h' P' => ⟨fun _ => x1 z h' P', fun u => absurd u (by decide)⟩) (fun u => by cases u)
  rw [bI_1, bI_0]
  refine ⟨fun z => bad (fun y => ?_), fun z => ?_⟩
  · rw [Bool.not_eq_true', inr_f] at z; have := y.1; unfold siM at this; omega
  · rw [Bool.not_eq_false', inr_t] at z
    refine ⟨P1.o (k := 80) rfl, P1.mNoSi (by rw [su_nei _ _ _ (by decide)]; exact s3) hb ?_⟩
    rw [su_nei _ _ _ (by decide), bI_1, bI_0]
    refine ⟨fun y => ?_, fun y => bad (fun u => ?_)⟩
    · rw [Bool.not_eq_false', inr_t] at y
      have sa : siM S a := ⟨by omega, by omega⟩
      have sb : siM S b := ⟨by omega, by omega⟩
      apply hJ27
      refine P1.mF (b := false) (e := 1) (Or.inl rfl) rfl il_1 (fun u => by cases u) (fun _ => ⟨fun u => absurd rfl u, fun _ => ?_⟩)
      intro J56 hJ56 J51 hJ51
      have bad2 : ¬ (a ≠ b ∧ 0 ≤ p ∧ p ≤ 500) → J51 (A 80) := fun u => by
        apply hJ51; apply hJ56
        exact P1.mF (b := true) (e := 2) (Or.inr (Or.inl rfl)) rfl il_2 (fun _ h' P' => ⟨fun _ => x2 sa sb u h' P', fun u => absurd u (by decide)⟩) (fun u => by cases u)
      rw [ii_eq ha hb]
      refine ⟨fun e => bad2 (fun u => u.1 e), fun ne => ?_⟩
      refine in_ii hp (a := 0) (b := 500) ⟨by omega, by omega⟩ ⟨by omega, by omega⟩ rfl il_0 il_500 ?_
      rw [bI_1, bI_0]
      refine ⟨fun u => ?_, fun u => bad2 (fun k => inr_f.mp u k.2)⟩
      rw [inr_t] at u
      apply hJ56
      refine P1.mF (b := false) (e := 2) (Or.inr (Or.inl rfl)) rfl il_2 (fun u => by cases u) (fun _ => ⟨fun u => absurd rfl u, fun _ => ?_⟩)
      refine P1.rI (k := 80) rfl rfl ?_
      intro J78 hJ78
      rw [su_nei _ _ _ (by decide), il_8, ii_eq ⟨by omega, by omega⟩ ⟨by decide, by decide⟩]
      refine ⟨fun k => ?_, fun k => ?_⟩
      · apply hJ78
        refine P1.mF (b := false) (e := 3) (Or.inr (Or.inr (Or.inl rfl))) rfl il_3 (fun u => by cases u) (fun _ => ⟨fun _ => ?_, fun u => absurd rfl u⟩)
        obtain ⟨n, en⟩ : ∃ n : Nat, n = (S 80 4).toNat := ⟨_, rfl⟩
        rw [← en] at q
        have e4 : S 80 4 = (n : Int) := by omega
        have nlt : n < 8 := by omega
        refine P1.rR (k := 80) rfl rfl (P1.rI (k := 80) rfl rfl (P1.mst (k := 109) (i := n) (z := a) (by decide) (by decide) rfl (by rw [su_nei _ _ _ (by decide), e4]) rfl (show _ < 8 from nlt) (fun h2 P2 => ?_)))
        refine P2.rR (k := 80) rfl rfl (P2.rI (k := 80) rfl rfl (P2.mst (k := 110) (i := n) (z := b) (by decide) (by decide) rfl (by rw [su_ne _ _ _ (by decide), su_nei _ _ _ (by decide), e4]) rfl (show _ < 8 from nlt) (fun h3 P3 => ?_)))
        refine P3.rR (k := 80) rfl rfl (P3.rI (k := 80) rfl rfl (P3.mst (k := 111) (i := n) (z := p) (by decide) (by decide) rfl (by rw [su_ne _ _ _ (by decide), su_ne _ _ _ (by decide), su_nei _ _ _ (by decide), e4]) rfl (show _ < 8 from nlt) (fun h4 P4 => ?_)))
        refine P4.rR (k := 80) rfl rfl (P4.rI (k := 80) rfl rfl (P4.zst (k := 112) (i := n) (z := bI f) (by decide) (by decide) rfl (by rw [su_ne _ _ _ (by decide), su_ne _ _ _ (by decide), su_ne _ _ _ (by decide), su_nei _ _ _ (by decide), e4]) rfl (b01 f) (show _ < 8 from nlt) (fun h5 P5 => ?_)))
        obtain ⟨S5, hS5⟩ : ∃ S5, S5 = su (su (su (su (su S 80 0 0) 109 n a) 110 n b) 111 n p) 112 n (bI f) := ⟨_, rfl⟩
        rw [← hS5] at P5 q
        have f5 : ∀ k, k ≠ 80 → k ≠ 109 → k ≠ 110 → k ≠ 111 → k ≠ 112 → S5 k = S k := fun k a1 a2 a3 a4 a5 => by rw [hS5, su_row _ _ a5, su_row _ _ a4, su_row _ _ a3, su_row _ _ a2, su_row _ _ a1]
        have f80 : S5 80 4 = S 80 4 := by rw [hS5, su_ne _ _ _ (by decide), su_ne _ _ _ (by decide), su_ne _ _ _ (by decide), su_ne _ _ _ (by decide), su_nei _ _ _ (by decide)]
        have f81 : S5 81 = S 81 := f5 81 (by decide) (by decide) (by decide) (by decide) (by decide)
        obtain ⟨r1, r2, r3, -⟩ := hR
        refine P5.rR (k := 80) rfl rfl ?_
        refine nwO_of (fun x hx hgx => ?_)
        refine wrF_n (by show 0 < 3; decide) (wrF_n (by show 1 < 3; decide) ?_)
        obtain ⟨P6, ne6⟩ := P5.fresh (e := .inr (14, ((([Value.int 0, Value.null, Value.int 0] : List Value).set 0 (.int 0)).set 1 (.ref (Gt0 G))))) hx
        have hxe : hwu h5 x (.inr (14, ((([Value.int 0, Value.null, Value.int 0] : List Value).set 0 (.int 0)).set 1 (.ref (Gt0 G))))) x = some (.inr (14, [.int (ii 0), .ref (Gt0 G), .int (ii 0)])) := if_pos rfl
        refine ⟨P6.o (k := 81) rfl, ?_⟩
        refine P6.add81 (r := fun _ => 0) (by rw [f81]; omega) (by rw [f5 50 (by decide) (by decide) (by decide) (by decide) (by decide), f5 51 (by decide) (by decide) (by decide) (by decide) (by decide), f81]; omega) (by rw [f81]; exact r2) hxe ne6 ⟨14, _, hxe, Or.inr (Or.inr (Or.inr rfl))⟩ (fun A' S' hr' h2' => ?_) ⟨rfl, rfl⟩ (by decide) (by decide) (fun A' h' P' a1 a2 a3 => ?_)
        · rw [f81] at hr' h2' ⊢
          rw [ctn_170 (by omega) (by omega)]
          unfold ctL
          rw [hr' 0, hr' 2, hr' 3, if_pos rfl]
        · rw [← a2.1]
          have e84 : lsu S5 81 170 (fun _ => 0) 80 4 = S 80 4 := by rw [lsu_k (by decide) (by rw [f81]; omega), f80]
          refine P'.rI (k := 80) rfl rfl ?_
          refine P'.wF (k := 80) (z := S 80 4 + 1) ⟨by decide, by decide, by decide, by decide⟩ rfl (by show 4 < 36; decide) ?_ (fun h8 P8 => ?_)
          · rw [show ii (lsu S5 81 170 (fun _ => 0) 80 4) + 1 = ii (S 80 4 + 1) by rw [e84, il_1, ii_add]]
            rfl
          · refine P8.rI (k := 80) rfl rfl ?_
            rw [su_at, il_1, ii_sub, show S 80 4 + 1 - 1 = S 80 4 by omega]
            exact q sa sb ne u k A' h8 P8 ⟨a1 0 (by decide), a2.1, a2.2.1, a2.2.2⟩
      · apply hJ78
        exact P1.mF (b := true) (e := 3) (Or.inr (Or.inr (Or.inl rfl))) rfl il_3 (fun _ h' P' => ⟨fun u => absurd u (by decide), fun _ => x3 sa sb ne u k h' P'⟩) (fun u => by cases u)
    · rw [Bool.not_eq_true', inr_f] at y; have := u.2; unfold siM at this; omega
theorem ix8m {a b : Nat} {x y : Int32} (hx : x = ii (a : Int)) (hy : y = ii (b : Int)) : (8 * x) + y = ii ((8 * a + b : Nat) : Int) := by
  subst hx hy
  rw [il_8, ii_mul, ii_add]; exact congrArg ii (by omega)
theorem Pic.m_setFor (P : Pic G A B S h) (hB : BM S) {v : Int} (hv : rg v) {b : Bool} {post : Int32 → hw → Prop} (q : (0 ≤ v ∧ v ≤ 7) → ∀ h', Pic G A B (su (su S 80 0 0) 116 v.toNat (bI b)) h' → post (ii (S 116 v.toNat)) h') (x1 : ¬ (0 ≤ v ∧ v ≤ 7) → ∀ h', Pic G A B (su S 80 0 1) h' → post 0 h') : wp_X12_setForeign G (A 80) (ii v) (ii (bI b)) h post := by
  refine P.thr0 (fun h1 P1 => P1.mCh hv (Or.inl rfl) rfl il_1 (fun z h' P' => ⟨fun u => absurd u (by decide), fun _ => x1 z h' P'⟩) (fun z => ⟨fun _ => ?_, fun u => absurd rfl u⟩))
  refine P1.zd (k := 116) (i := v.toNat) ⟨by decide, by decide, rfl, rfl⟩ (congrArg ii (by omega)) (show _ < 8 by omega) ?_
  refine P1.zs (k := 116) (i := v.toNat) (z := bI b) ⟨by decide, by decide, rfl, rfl⟩ (congrArg ii (by omega)) rfl (b01 b) (show _ < 8 by omega) (fun h2 P2 => ?_)
  rw [su_row _ _ (by decide)]
  exact ⟨z01 (hB.1 _ (by omega)), q z h2 P2⟩
theorem Pic.m_ask (P : Pic G A B S h) (hM : MO S) {v c : Int} (hv : rg v) (hc : rg c) {post : Int32 → hw → Prop} (q : inM S v → (0 ≤ c ∧ c ≤ 7) → ∀ h', Pic G A B (su (su (su S 80 0 0) 117 (8 * v.toNat + c.toNat) (S 80 1)) 118 (8 * v.toNat + c.toNat) 0) h' → post (ii (S 80 1 + 3)) h') (x1 : ¬ inM S v → ∀ h', Pic G A B (su S 80 0 1) h' → post 0 h') (x2 : inM S v → ¬ (0 ≤ c ∧ c ≤ 7) → ∀ h', Pic G A B (su S 80 0 2) h' → post 0 h') : wp_X12_askAbroad G (A 80) (ii v) (ii c) h post := by
  obtain ⟨n8, n4, n5⟩ := ntM_8 hM
  refine P.thr0 (fun h1 P1 => P1.mNo hM hv (Or.inl rfl) rfl il_1 (fun z h' P' => ⟨fun _ => x1 z h' P', fun u => absurd u (by decide)⟩) (fun z => ⟨fun u => absurd rfl u, fun _ => ?_⟩))
  have z2 := z
  unfold inM at z2
  refine P1.mCh hc (Or.inr (Or.inl rfl)) rfl il_2 (fun w h' P' => ⟨fun u => absurd u (by decide), fun _ => x2 z w h' P'⟩) (fun w => ⟨fun _ => ?_, fun u => absurd rfl u⟩)
  have ei := ix8m (a := v.toNat) (b := c.toNat) (x := ii v) (y := ii c) (congrArg ii (by omega)) (congrArg ii (by omega))
  refine P1.rR (k := 80) rfl rfl (P1.rI (k := 80) rfl rfl (P1.mst (k := 117) (i := 8 * v.toNat + c.toNat) (z := S 80 1) (by decide) (by decide) rfl ei (by rw [su_nei _ _ _ (by decide)]) (show _ < 64 by omega) (fun h2 P2 => ?_)))
  refine P2.zs (k := 118) (i := 8 * v.toNat + c.toNat) (z := 0) ⟨by decide, by decide, rfl, rfl⟩ ei il_0 (Or.inl rfl) (show _ < 64 by omega) (fun h3 P3 => ?_)
  refine P3.rI (k := 80) rfl rfl ?_
  rw [su_ne _ _ _ (by decide), su_ne _ _ _ (by decide), su_nei _ _ _ (by decide), il_3, ii_add]
  exact q z w h3 P3
theorem Pic.m_object (P : Pic G A B S h) (hM : MO S) (hB : BM S) {v c : Int} (hv : rg v) (hc : rg c) {post : Int32 → hw → Prop} (q : inM S v → (0 ≤ c ∧ c ≤ 7) → S 117 (8 * v.toNat + c.toNat) ≠ -1 → S 80 1 < S 117 (8 * v.toNat + c.toNat) + 3 → ∀ h', Pic G A B (su (su S 80 0 0) 118 (8 * v.toNat + c.toNat) 1) h' → post 1 h') (q4 : inM S v → (0 ≤ c ∧ c ≤ 7) → S 117 (8 * v.toNat + c.toNat) ≠ -1 → ¬ S 80 1 < S 117 (8 * v.toNat + c.toNat) + 3 → ∀ h', Pic G A B (su S 80 0 0) h' → post 0 h') (x1 : ¬ inM S v → ∀ h', Pic G A B (su S 80 0 1) h' → post 0 h') (x2 : inM S v → ¬ (0 ≤ c ∧ c ≤ 7) → ∀ h', Pic G A B (su S 80 0 2) h' → post 0 h') (x3 : inM S v → (0 ≤ c ∧ c ≤ 7) → S 117 (8 * v.toNat + c.toNat) = -1 → ∀ h', Pic G A B (su S 80 0 3) h' → post 0 h') : wp_X12_object G (A 80) (ii v) (ii c) h post := by
  obtain ⟨n8, n4, n5⟩ := ntM_8 hM
  refine P.thr0 (fun h1 P1 => P1.mNo hM hv (Or.inl rfl) rfl il_1 (fun z h' P' => ⟨fun _ => x1 z h' P', fun u => absurd u (by decide)⟩) (fun z => ⟨fun u => absurd rfl u, fun _ => ?_⟩))
  have z2 := z
  unfold inM at z2
  refine P1.mCh hc (Or.inr (Or.inl rfl)) rfl il_2 (fun w h' P' => ⟨fun u => absurd u (by decide), fun _ => x2 z w h' P'⟩) (fun w => ⟨fun _ => ?_, fun u => absurd rfl u⟩)
  have ei := ix8m (a := v.toNat) (b := c.toNat) (x := ii v) (y := ii c) (congrArg ii (by omega)) (congrArg ii (by omega))
  have b1 := hB.2.1 (8 * v.toNat + c.toNat) (by omega)
  have b3 := hB.2.2.2
  refine P1.md (k := 117) (i := 8 * v.toNat + c.toNat) ⟨by decide, by decide, rfl, rfl⟩ ei (show _ < 64 by omega) ?_
  intro J hJ
  rw [su_row _ _ (by decide), il_m1, ii_eq ⟨by omega, by omega⟩ ⟨by decide, by decide⟩]
  refine ⟨fun y => ?_, fun y => ?_⟩
  · apply hJ
    refine P1.mF (b := false) (e := 3) (Or.inr (Or.inr (Or.inl rfl))) rfl il_3 (fun u => by cases u) (fun _ => ⟨fun u => absurd rfl u, fun _ => ?_⟩)
    refine P1.rI (k := 80) rfl rfl ?_
    refine P1.md (k := 117) (i := 8 * v.toNat + c.toNat) ⟨by decide, by decide, rfl, rfl⟩ ei (show _ < 64 by omega) ?_
    have g1 : su S 80 0 0 80 1 = S 80 1 := su_nei _ _ _ (by decide)
    have g2 : su S 80 0 0 117 = S 117 := su_row _ _ (by decide)
    rw [g1, g2, il_2, ii_add, ii_le ⟨by omega, by omega⟩ ⟨by omega, by omega⟩]
    refine ⟨fun k => ?_, fun k => q4 z w y (by omega) h1 P1⟩
    exact P1.zs (k := 118) (i := 8 * v.toNat + c.toNat) (z := 1) ⟨by decide, by decide, rfl, rfl⟩ ei il_1 (Or.inr rfl) (show _ < 64 by omega) (fun h2 P2 => q z w y (by omega) h2 P2)
  · apply hJ
    exact P1.mF (b := true) (e := 3) (Or.inr (Or.inr (Or.inl rfl))) rfl il_3 (fun _ h' P' => ⟨fun _ => x3 z w y h' P', fun u => absurd u (by decide)⟩) (fun u => by cases u)
theorem Pic.m_yesF (P : Pic G A B S h) (hB : BM S) {a b : Nat} (ha : a < 8) (hb : b < 8) {x y : Int32} (hx : x = ii (a : Int)) (hy : y = ii (b : Int)) {post : Int32 → Prop} (q : post (ii (bI (yesM S (8 * a + b))))) : wp_X12_hasYesFor G (A 80) x y h post := by
  have b1 := hB.2.1 (8 * a + b) (by omega)
  have b2 := hB.2.2.1 (8 * a + b) (by omega)
  have b3 := hB.2.2.2
  have ei := ix8m hx hy
  refine P.md (k := 117) (i := 8 * a + b) ⟨by decide, by decide, rfl, rfl⟩ ei (show _ < 64 by omega) ?_
  intro J hJ
  have no : yesM S (8 * a + b) = false → J := fun z => by apply hJ; rw [z] at q; exact q
  rw [il_m1, ii_eq ⟨by omega, by omega⟩ ⟨by decide, by decide⟩]
  refine ⟨fun c => no (by unfold yesM; rw [decide_eq_false (fun z => z c), Bool.false_and]), fun c => ?_⟩
  refine P.zd (k := 118) (i := 8 * a + b) ⟨by decide, by decide, rfl, rfl⟩ ei (show _ < 64 by omega) ?_
  rw [il_0, ii_eq ⟨by omega, by omega⟩ ⟨by decide, by decide⟩]
  refine ⟨fun c2 => no (by unfold yesM; rw [decide_eq_false c2, Bool.false_and, Bool.and_false]), fun c2 => ?_⟩
  refine P.rI (k := 80) rfl rfl ?_
  refine P.md (k := 117) (i := 8 * a + b) ⟨by decide, by decide, rfl, rfl⟩ ei (show _ < 64 by omega) ?_
  rw [il_3, ii_add, ii_lt ⟨by omega, by omega⟩ ⟨by omega, by omega⟩]
  refine ⟨fun c3 => no (by unfold yesM; rw [decide_eq_false (p := S 117 (8 * a + b) + 3 ≤ S 80 1) (by omega), Bool.and_false, Bool.and_false]), fun c3 => ?_⟩
  have : yesM S (8 * a + b) = true := by unfold yesM; rw [decide_eq_true c, decide_eq_true c2, decide_eq_true (by omega)]; rfl
  rw [this] at q; exact q
theorem BM.t (hB : BM S) (v : Int) : BM (su S 80 0 v) := by
  have g1 : su S 80 0 v 80 1 = S 80 1 := su_nei _ _ _ (by decide)
  have g2 : su S 80 0 v 117 = S 117 := su_row _ _ (by decide)
  have g3 : su S 80 0 v 116 = S 116 := su_row _ _ (by decide)
  have g4 : su S 80 0 v 118 = S 118 := su_row _ _ (by decide)
  unfold BM
  rw [g1, g2, g3, g4]
  exact hB
theorem Pic.m_hasYes (P : Pic G A B S h) (hM : MO S) (hB : BM S) {v c : Int} (hv : rg v) (hc : rg c) {post : Int32 → hw → Prop} (q : inM S v → (0 ≤ c ∧ c ≤ 7) → ∀ h', Pic G A B (su S 80 0 0) h' → post (ii (bI (yesM S (8 * v.toNat + c.toNat)))) h') (x1 : ¬ inM S v → ∀ h', Pic G A B (su S 80 0 1) h' → post 0 h') (x2 : inM S v → ¬ (0 ≤ c ∧ c ≤ 7) → ∀ h', Pic G A B (su S 80 0 2) h' → post 0 h') : wp_X12_hasYes G (A 80) (ii v) (ii c) h post := by
  obtain ⟨n8, n4, n5⟩ := ntM_8 hM
  refine P.thr0 (fun h1 P1 => P1.mNo hM hv (Or.inl rfl) rfl il_1 (fun z h' P' => ?_) (fun z => ?_))
  · intro J hJ
    exact ⟨fun _ => hJ _ (x1 z h' P'), fun u => absurd u (by decide)⟩
  · have z2 := z
    unfold inM at z2
    intro J hJ
    refine ⟨fun u => absurd rfl u, fun _ => ?_⟩
    refine P1.mCh hc (Or.inr (Or.inl rfl)) rfl il_2 (fun w h' P' => ⟨fun _ => hJ _ (x2 z w h' P'), fun u => absurd u (by decide)⟩) (fun w => ⟨fun u => absurd rfl u, fun _ => ?_⟩)
    refine ⟨P1.o (k := 80) rfl, P1.m_yesF (hB.t 0) (a := v.toNat) (b := c.toNat) (by omega) (by omega) (congrArg ii (by omega)) (congrArg ii (by omega)) ?_⟩
    have ey : yesM (su S 80 0 0) (8 * v.toNat + c.toNat) = yesM S (8 * v.toNat + c.toNat) := by
      unfold yesM; rw [su_row _ _ (by decide), su_row _ _ (by decide), su_nei _ _ _ (by decide)]
    have q := q z w h1 P1
    rw [ey, bI_1, bI_0]
    refine ⟨fun y => ?_, fun y => ?_⟩
    · apply hJ; rw [y] at q; exact q
    · rw [y] at q; exact q
theorem Pic.m_goOn (P : Pic G A B S h) {d : Int} (hd : rg d) {post : Int32 → hw → Prop} (q : (1 ≤ d ∧ d ≤ 99) → ∀ h', Pic G A B (su (su S 80 0 0) 80 1 (S 80 1 + d)) h' → post (ii (S 80 1 + d)) h') (x1 : ¬ (1 ≤ d ∧ d ≤ 99) → ∀ h', Pic G A B (su S 80 0 1) h' → post 0 h') : wp_X12_goOn G (A 80) (ii d) h post := by
  refine P.thr0 (fun h1 P1 => ?_)
  refine P1.mIn hd (a := 1) (b := 99) ⟨by omega, by omega⟩ ⟨by omega, by omega⟩ (e := 1) (Or.inl rfl) rfl il_1 il_99 il_1 (fun w h' P' => ⟨fun y => absurd y (by decide), fun _ => x1 w h' P'⟩) (fun w => ⟨fun _ => ?_, fun y => absurd rfl y⟩)
  refine P1.rI (k := 80) rfl rfl ?_
  refine P1.wF (k := 80) (z := S 80 1 + d) ⟨by decide, by decide, by decide, by decide⟩ rfl (by show 1 < 36; decide) ?_ (fun h2 P2 => ?_)
  · rw [show ii (su S 80 0 0 80 1) + ii d = ii (S 80 1 + d) by rw [su_nei _ _ _ (by decide), ii_add]]
    rfl
  · refine P2.rI (k := 80) rfl rfl ?_
    rw [su_at]
    exact q w h2 P2
theorem Pic.mpAll (P : Pic G A B S h) (hM : MO S) (hP : PL S) {C : Int} (hC : 0 ≤ C ∧ C ≤ 8) {y : Int32} (hy : y = ii C) {post : Int32 → hw → Prop} (q1 : ∀ S' h', Pic G A B S' h' → (∀ k, k ≠ 130 → k ≠ 131 → S' k = S k) → PL S' → fst (EM S) (prm (EM S)) C 0 (fun _ => -1) (S' 131) → post 1 h') (q0 : ∀ S' h', Pic G A B S' h' → (∀ k, k ≠ 130 → k ≠ 131 → S' k = S k) → PL S' → ¬ okp (EM S) (prm (EM S)) C 0 (fun _ => -1) → post 0 h') : wp_X12_packsAll G (A 80) y h post := by
  obtain ⟨n8, n4, n5⟩ := ntM_8 hM
  intro J hJ
  have main : ∀ i : Nat, i ≤ ntM S → ∀ (h' : hw), Pic G A B (sf S 130 i (S 112)) h' → J (ii (i : Int)) h' := by
    intro i hi
    refine lp_up (J := fun i : Nat => ∀ (h' : hw), Pic G A B (sf S 130 i (S 112)) h' → J (ii (i : Int)) h') (n := ntM S) ?_ ?_ hi
    · intro h' P'
      have f : ∀ k, k ≠ 130 → sf S 130 (ntM S) (S 112) k = S k := fun k hk => sf_ne hk
      obtain ⟨hM', eE, eN⟩ := hM.of (S' := sf S 130 (ntM S) (S 112)) (fun k hk => f k (by omega))
      apply hJ
      refine P'.rI (k := 80) rfl rfl ?_
      rw [f 80 (by decide), n4, ii_le ⟨by omega, by omega⟩ ⟨by omega, by omega⟩]
      refine ⟨fun _ => ⟨P'.o (k := 80) rfl, ?_⟩, fun z => absurd (Int.le_refl _) z⟩
      have p7 := fun j => hM.1.2.2.2.2.2.2.2.1 j
      refine P'.mpk hM' ⟨fun i hi => by rw [f 131 (by decide)]; exact hP.1 i hi, fun j hj => ?_⟩ (m := fun j => decide (EM S 7 j = 1)) hC hy (fun j hj => ?_) (fun S' h2 P2 k1 k2 k3 => ?_) (fun S' h2 P2 k1 k2 k3 => ?_)
      · unfold sf
        by_cases w : j < ntM S
        · rw [if_pos ⟨rfl, w⟩, ← EM_7 (S := S) hj]; exact p7 j
        · rw [if_neg (fun z => w z.2)]; exact hP.2 j hj
      · rw [eN] at hj
        rw [sf_at hj, ← EM_7 (S := S) (show j < 8 by omega)]
        rcases p7 j with w | w
        · rw [w]; rfl
        · rw [w]; rfl
      · rw [eE, eN] at k3
        exact q1 S' h2 P2 (fun k a b => by rw [k1 k b, f k a]) k2 k3
      · rw [eE, eN] at k3
        exact q0 S' h2 P2 (fun k a b => by rw [k1 k b, f k a]) k2 k3
    · intro i hi ih h' P'
      have f : ∀ k, k ≠ 130 → sf S 130 i (S 112) k = S k := fun k hk => sf_ne hk
      have p7 := hM.1.2.2.2.2.2.2.2.1 i
      apply hJ
      refine P'.rI (k := 80) rfl rfl ?_
      rw [f 80 (by decide), n4, ii_le ⟨by omega, by omega⟩ ⟨by omega, by omega⟩]
      refine ⟨fun z => absurd z (by omega), fun _ => ?_⟩
      refine P'.rR (k := 80) rfl rfl (P'.mprot rfl (by omega) ?_)
      refine P'.zst (k := 130) (i := i) (z := S 112 i) (by decide) (by decide) rfl rfl (by rw [f 112 (by decide)]) (by rw [← EM_7 (S := S) (show i < 8 by omega)]; exact p7) (show _ < 8 by omega) (fun h2 P2 => ?_)
      rw [ii_inc']
      rw [sf_s] at P2
      exact ih h2 P2
  exact main 0 (by omega) h (by rw [sf_0]; exact P)
theorem PL.t (hP : PL S) (v : Int) : PL (su S 80 0 v) := by
  unfold PL
  rw [su_row _ _ (by decide), su_row _ _ (by decide)]
  exact hP
theorem Pic.m_canPack (P : Pic G A B S h) (hM : MO S) (hP : PL S) {C : Int} (hC : rg C) {post : Int32 → hw → Prop} (q : (1 ≤ C ∧ C ≤ 8) → okp (EM S) (prm (EM S)) C 0 (fun _ => -1) → ∀ S' h', Pic G A B S' h' → (∀ k, k ≠ 130 → k ≠ 131 → S' k = su S 80 0 0 k) → PL S' → post 1 h') (q3 : (1 ≤ C ∧ C ≤ 8) → ¬ okp (EM S) (prm (EM S)) C 0 (fun _ => -1) → ∀ S' h', Pic G A B S' h' → (∀ k, k ≠ 130 → k ≠ 131 → S' k = su S 80 0 0 k) → PL S' → post 0 h') (x1 : ¬ (1 ≤ C ∧ C ≤ 8) → ∀ h', Pic G A B (su S 80 0 1) h' → post 0 h') : wp_X12_canPack G (A 80) (ii C) h post := by
  obtain ⟨hM1, e1, e2⟩ := hM.t 0
  refine P.thr0 (fun h1 P1 => ?_)
  refine P1.mIn hC (a := 1) (b := 8) ⟨by omega, by omega⟩ ⟨by omega, by omega⟩ (e := 1) (Or.inl rfl) rfl il_1 il_8 il_1 (fun w h' P' => ?_) (fun w => ?_)
  · intro J hJ
    exact ⟨fun _ => hJ _ (x1 w h' P'), fun u => absurd u (by decide)⟩
  · intro J hJ
    refine ⟨fun u => absurd rfl u, fun _ => ⟨P1.o (k := 80) rfl, P1.mpAll hM1 (hP.t 0) (C := C) ⟨by omega, w.2⟩ rfl (fun S' h' P' k1 k2 k3 => ?_) (fun S' h' P' k1 k2 k3 => ?_)⟩⟩
    · rw [e1] at k3
      exact ⟨fun u => absurd u (by decide), fun _ => q w (fst_ok k3) S' h' P' k1 k2⟩
    · rw [e1] at k3
      exact ⟨fun _ => hJ _ (q3 w k3 S' h' P' k1 k2), fun u => absurd rfl u⟩
theorem Pic.m_packed (P : Pic G A B S h) (hM : MO S) (hP : PL S) {C v : Int} (hC : rg C) (hv : rg v) {post : Int32 → hw → Prop} (q : (1 ≤ C ∧ C ≤ 8) → inM S v → EM S 7 v.toNat = 1 → ∀ p, fst (EM S) (prm (EM S)) C 0 (fun _ => -1) p → ∀ S' h', Pic G A B S' h' → (∀ k, k ≠ 130 → k ≠ 131 → S' k = su S 80 0 0 k) → PL S' → post (ii (p v.toNat)) h') (x1 : ¬ (1 ≤ C ∧ C ≤ 8) → ∀ h', Pic G A B (su S 80 0 1) h' → post 0 h') (x2 : (1 ≤ C ∧ C ≤ 8) → ¬ inM S v → ∀ h', Pic G A B (su S 80 0 2) h' → post 0 h') (x3 : (1 ≤ C ∧ C ≤ 8) → inM S v → EM S 7 v.toNat ≠ 1 → ∀ h', Pic G A B (su S 80 0 3) h' → post 0 h') (x4 : (1 ≤ C ∧ C ≤ 8) → inM S v → EM S 7 v.toNat = 1 → ¬ okp (EM S) (prm (EM S)) C 0 (fun _ => -1) → ∀ S' h', Pic G A B S' h' → (∀ k, k ≠ 130 → k ≠ 131 → S' k = su S 80 0 4 k) → PL S' → post 0 h') : wp_X12_packed G (A 80) (ii C) (ii v) h post := by
  obtain ⟨n8, n4, n5⟩ := ntM_8 hM
  obtain ⟨hM1, e1, e2⟩ := hM.t 0
  refine P.thr0 (fun h1 P1 => ?_)
  refine P1.mIn hC (a := 1) (b := 8) ⟨by omega, by omega⟩ ⟨by omega, by omega⟩ (e := 1) (Or.inl rfl) rfl il_1 il_8 il_1 (fun w h' P' => ⟨fun _ => x1 w h' P', fun u => absurd u (by decide)⟩) (fun w => ⟨fun u => absurd rfl u, fun _ => ?_⟩)
  refine P1.mNo hM hv (Or.inr (Or.inl rfl)) rfl il_2 (fun z h' P' => ⟨fun _ => x2 w z h' P', fun u => absurd u (by decide)⟩) (fun z => ⟨fun u => absurd rfl u, fun _ => ?_⟩)
  have z2 := z
  unfold inM at z2
  have p7 := hM.1.2.2.2.2.2.2.2.1 v.toNat
  refine P1.mprot (i := v.toNat) (congrArg ii (by omega)) (by omega) ?_
  intro J hJ
  rw [su_row _ _ (by decide), ← EM_7 (S := S) (show v.toNat < 8 by omega), il_0, ii_eq ⟨by omega, by omega⟩ ⟨by decide, by decide⟩]
  refine ⟨fun y => ?_, fun y => ?_⟩
  · apply hJ
    refine P1.mF (b := false) (e := 3) (Or.inr (Or.inr (Or.inl rfl))) rfl il_3 (fun u => by cases u) (fun _ => ⟨fun _ => ?_, fun u => absurd rfl u⟩)
    refine ⟨P1.o (k := 80) rfl, P1.mpAll hM1 (hP.t 0) (C := C) ⟨by omega, w.2⟩ rfl (fun S' h' P' k1 k2 k3 => ?_) (fun S' h' P' k1 k2 k3 => ?_)⟩
    · rw [e1] at k3
      intro J79 hJ79
      refine ⟨fun _ => ?_, fun u => absurd u (by decide)⟩
      apply hJ79
      refine ⟨P'.o (k := 80) rfl, P'.fails (b := false) (e := 4) (Or.inr (Or.inr (Or.inr rfl))) (by rw [k1 80 (by decide) (by decide), su_at]) rfl il_4 (fun u => by cases u) (fun _ => ⟨fun _ => ?_, fun u => absurd rfl u⟩)⟩
      exact P'.md (k := 131) (i := v.toNat) ⟨by decide, by decide, rfl, rfl⟩ (congrArg ii (by omega)) (show _ < 8 by omega) (q w z (by omega) (S' 131) k3 S' h' P' k1 k2)
    · rw [e1] at k3
      intro J79 hJ79
      refine ⟨fun u => absurd rfl u, fun _ => ?_⟩
      apply hJ79
      refine ⟨P'.o (k := 80) rfl, P'.fails (b := true) (e := 4) (Or.inr (Or.inr (Or.inr rfl))) (by rw [k1 80 (by decide) (by decide), su_at]) rfl il_4 (fun _ h2 P2 => ⟨fun u => absurd u (by decide), fun _ => ?_⟩) (fun u => by cases u)⟩
      refine x4 w z (by omega) k3 _ h2 P2 (fun k a b => ?_) ?_
      · by_cases k80 : k = 80
        · subst k80
          funext i
          by_cases i0 : i = 0
          · subst i0; rw [su_at, su_at]
          · rw [su_nei _ _ _ i0, su_nei _ _ _ i0, k1 80 (by decide) (by decide), su_nei _ _ _ i0]
        · rw [su_row _ _ k80, su_row _ _ k80, k1 k a b, su_row _ _ k80]
      · unfold PL; rw [su_row _ _ (by decide), su_row _ _ (by decide)]; exact k2
  · apply hJ
    exact P1.mF (b := true) (e := 3) (Or.inr (Or.inr (Or.inl rfl))) rfl il_3 (fun _ h' P' => ⟨fun u => absurd u (by decide), fun _ => x3 w z (by omega) h' P'⟩) (fun u => by cases u)
end MR
