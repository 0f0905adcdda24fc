/-! the law: calls that only ask -/
def AD (A : Nat → Nat) (px pm po pd : Nat) : Prop := A 0 = px ∧ A 80 = pm ∧ A 90 = po ∧ A 91 = pd
def CK (G : Gx) (px pm po pd c uc us : Nat) (J : hw → Nat → Nat → Prop) : Prop := ∀ (A : Nat → Nat) (B : Nat → Nat → Nat) (S : Nat → Nat → Int) (h : hw) (uc' us' : Nat), Pic G A B S h → AD A px pm po pd → IV S (c + 1) → uc' ≤ uc + 70 → us' ≤ us + 48 * c + 260 → J h uc' us'
section LWS
variable {G : Gx} {A : Nat → Nat} {B : Nat → Nat → Nat} {S : Nat → Nat → Int} {h : hw} {c : Nat}
theorem IV.n4 (I : IV S c) : S 80 4 = S 51 2 := congrFun (congrFun I.eE 8) 1
theorem IV.n3 (I : IV S c) : S 80 3 = S 50 2 := congrFun (congrFun I.eE 8) 2
theorem IV.mo (I : IV S c) : MO S := ⟨by rw [I.eE]; exact I.ki.1.2.1, fun j hj => by rw [I.now j hj]; exact I.ri.2.2.2.1 j⟩
theorem IV.s9 (I : IV S c) (v : Int) : IV (su S 90 0 v) c := I.of (fun k hk => su_row _ _ (fun z => hk (by unfold scr; omega))) (fun i _ => su_ne _ _ _ (by decide)) (I.pl.of (su_row _ _ (by decide)) (su_row _ _ (by decide))) (by rw [su_row _ _ (by decide)]; exact I.c39) (by rw [su_row _ _ (by decide)]; exact I.c49)
theorem IV.s8 (I : IV S c) (v : Int) : IV (su S 80 0 v) c := I.of (fun k hk => su_row _ _ (fun z => hk (by unfold scr; omega))) (fun i hi => su_nei _ _ _ hi) (I.pl.of (su_row _ _ (by decide)) (su_row _ _ (by decide))) (by rw [su_row _ _ (by decide)]; exact I.c39) (by rw [su_row _ _ (by decide)]; exact I.c49)
theorem EM_9 (v : Int) : EM (su S 90 0 v) = EM S := by
  funext k i
  unfold EM
  rw [su_row (k := 90) (k' := 106) _ _ (by decide), su_row (k := 90) (k' := 107) _ _ (by decide), su_row (k := 90) (k' := 108) _ _ (by decide), su_row (k := 90) (k' := 105) _ _ (by decide), su_row (k := 90) (k' := 109) _ _ (by decide), su_row (k := 90) (k' := 110) _ _ (by decide), su_row (k := 90) (k' := 111) _ _ (by decide), su_row (k := 90) (k' := 112) _ _ (by decide), su_row (k := 90) (k' := 80) _ _ (by decide)]
theorem IV.day2 (I : IV S c) (hc : c ≤ 511) : 0 ≤ S 80 1 ∧ S 80 1 ≤ 100000 := I.bm.2.2.2
/-- both answered, nothing else has changed -/
theorem Pic.endJ {v : Int} (P : Pic G A B (su (su S 90 0 v) 80 0 0) h) (I : IV S c) (hv : rg v) {uc us uc' us' : Nat} {J : hw → Nat → Nat → Prop} (q : CK G (A 0) (A 80) (A 90) (A 91) c uc us J) (hu : uc' ≤ uc + 70) (hw8 : us' ≤ us + 48 * c + 260) : (isO h (A 80) 12 ∧ wp_X12_thrown G (A 80) h (fun r5 => ((r5 = 0 → ∀ J269 : Prop, (J h uc' us' → J269) → ((¬ (0 : Int32) = 0 → J269) ∧ ((0 : Int32) = 0 → ldJ G h (A 90) 0 (fun v6 => (((lg_cmp v6 (Int32.toInt64 (ii v))) = 0 → J269) ∧ (¬ (lg_cmp v6 (Int32.toInt64 (ii v))) = 0 → False)))))) ∧ (¬ r5 = 0 → False)))) :=
  P.tlJ (su_at _ _ _) hv (by rw [su_ne _ _ _ (by decide), su_at]) (q A B _ h uc' us' P ⟨rfl, rfl, rfl, rfl⟩ ((I.s9 v).s8 0).nx hu hw8)
theorem Pic.endE {e : Int} (P : Pic G A B (su S 80 0 e) h) (I : IV S c) (he : e = 1 ∨ e = 2 ∨ e = 3 ∨ e = 4) {x y : Int32} (hx : x = ii e) {uc us uc' us' : Nat} {J : hw → Nat → Nat → Prop} (q : CK G (A 0) (A 80) (A 90) (A 91) c uc us J) (hu : uc' ≤ uc + 70) (hw8 : us' ≤ us + 48 * c + 260) : (isO h (A 80) 12 ∧ wp_X12_thrown G (A 80) h (fun r5 => ((r5 = x → ∀ J269 : Prop, (J h uc' us' → J269) → ((¬ x = 0 → J269) ∧ (x = 0 → ldJ G h (A 90) 0 (fun v6 => (((lg_cmp v6 (Int32.toInt64 y)) = 0 → J269) ∧ (¬ (lg_cmp v6 (Int32.toInt64 y)) = 0 → False)))))) ∧ (¬ r5 = x → False)))) :=
  P.tlE he (su_at _ _ _) hx (q A B _ h uc' us' P ⟨rfl, rfl, rfl, rfl⟩ (I.s8 e).nx hu hw8)
theorem eEC (I : IV S c) (v : Int) : EM (su S 90 0 v) = EC S := by rw [EM_9, I.eE]
theorem vst_I (I : IV S c) {v : Int} (h : vst S v) : v.toNat < nt (EC S) ∧ v.toNat < 8 ∧ (v.toNat : Int) = v ∧ v.toNat < ntM S := by
  obtain ⟨h8, hn⟩ := nt8 I.ki
  unfold vst at h
  have := I.n4
  exact ⟨by omega, by omega, by omega, by unfold ntM; omega⟩
variable {N : Nat} {xs : Nat → Int32} {i : Int32} {uc us : Nat} {J : hw → Nat → Nat → Prop}
theorem Pic.w352 (P : Pic G A B S h) (I : IV S c) (v1 : vp_in (i + 1) N) (v2 : vp_in (i + 2) N) (hu : uc + 70 ≤ 603072) (hv : us + 48 * c + 260 ≤ 7219306) (hlo : ∀ a b : Nat, rg (lossE (EC S) a b)) (q : CK G (A 0) (A 80) (A 90) (A 91) c uc us J) : wp_law_352 G N xs (A 0) (A 80) (A 90) (A 91) i h uc us J := by
  obtain ⟨z1, e1, r1⟩ := ii_ex (xs (Int32.toNatClampNeg (i + 1)))
  obtain ⟨z2, e2, r2⟩ := ii_ex (xs (Int32.toNatClampNeg (i + 2)))
  unfold wp_law_352
  rw [e1, e2]
  refine ⟨v1, v2, by omega, by omega, P.o (k := 0) rfl, ?_⟩
  have n3 := I.n3
  refine P.c_loss I.ki r1 r2 (fun a b => ?_) (fun a => ?_)
  · refine P.out (hlo _ _) (fun h2 P2 => ⟨v1, v2, P2.o (k := 80) rfl, ?_⟩)
    refine P2.m_loss (I.s9 _).mo r1 r2 (fun a' b' h3 P3 => ?_) (fun a' => absurd (show siM (su S 90 0 _) z1 ∧ siM (su S 90 0 _) z2 from ?_) a')
    · rw [eEC I]; exact P3.endJ I (hlo _ _) q (by omega) (by omega)
    · unfold siM; rw [su_ne _ _ _ (by decide), n3]; exact ⟨a, b⟩
  · refine ⟨fun _ => ⟨v1, v2, P.o (k := 80) rfl, ?_⟩, rfl⟩
    refine P.m_loss I.mo r1 r2 (fun a' b' => absurd (show vsi S z1 ∧ vsi S z2 from ?_) a) (fun a' h3 P3 => P3.endE I (Or.inl rfl) il_1 q (by omega) (by omega))
    unfold vsi; unfold siM at a' b'; rw [← n3]; exact ⟨a', b'⟩
theorem Pic.w584 (P : Pic G A B S h) (I : IV S c) (v1 : vp_in (i + 1) N) (hu : uc + 70 ≤ 603072) (hv : us + 48 * c + 260 ≤ 7219306) (hlo : ∀ a : Nat, vst S (a : Int) → rg (lvE (EC S) a)) (q : CK G (A 0) (A 80) (A 90) (A 91) c uc us J) : wp_law_584 G N xs (A 0) (A 80) (A 90) (A 91) i h uc us J := by
  obtain ⟨z1, e1, r1⟩ := ii_ex (xs (Int32.toNatClampNeg (i + 1)))
  unfold wp_law_584
  rw [e1]
  refine ⟨v1, by omega, by omega, P.o (k := 0) rfl, ?_⟩
  have n4 := I.n4
  refine P.c_level I.ki r1 (fun a => ?_) (fun a => ?_)
  · have vn := vst_I I a
    have lr := hlo z1.toNat (by rw [vn.2.2.1]; exact a)
    refine P.out lr (fun h2 P2 => ⟨v1, P2.o (k := 80) rfl, ?_⟩)
    refine P2.m_level (I.s9 _).mo r1 (fun a' h3 P3 => ?_) (fun a' => absurd (show inM (su S 90 0 _) z1 from ?_) a')
    · rw [eEC I]; exact P3.endJ I lr q (by omega) (by omega)
    · unfold inM; rw [su_ne _ _ _ (by decide), n4]; exact a
  · refine ⟨fun _ => ⟨v1, P.o (k := 80) rfl, ?_⟩, rfl⟩
    refine P.m_level I.mo r1 (fun a' => absurd (show vst S z1 from ?_) a) (fun a' h3 P3 => P3.endE I (Or.inl rfl) il_1 q (by omega) (by omega))
    unfold vst; unfold inM at a'; rw [← n4]; exact a'
theorem Pic.w982 (P : Pic G A B S h) (I : IV S c) (hc : c ≤ 511) (v1 : vp_in (i + 1) N) (v2 : vp_in (i + 2) N) (hu : uc + 70 ≤ 603072) (hv : us + 48 * c + 260 ≤ 7219306) (hlo : ∀ a : Nat, ∀ d, vst S (a : Int) → rg (LC S a d)) (q : CK G (A 0) (A 80) (A 90) (A 91) c uc us J) : wp_law_982 G N xs (A 0) (A 80) (A 90) (A 91) i h uc us J := by
  obtain ⟨z1, e1, r1⟩ := ii_ex (xs (Int32.toNatClampNeg (i + 1)))
  obtain ⟨z2, e2, r2⟩ := ii_ex (xs (Int32.toNatClampNeg (i + 2)))
  unfold wp_law_982
  rw [e1, e2]
  refine ⟨v1, v2, by omega, by omega, P.o (k := 0) rfl, ?_⟩
  have n4 := I.n4; have dy := I.day
  refine P.c_chAt I.ki hc I.ri r1 r2 (fun a b => ?_) (fun a => ?_) (fun a b => ?_)
  · have vn := vst_I I a
    have lr := hlo z1.toNat z2 (by rw [vn.2.2.1]; exact a)
    refine P.out lr (fun h2 P2 => ⟨v1, v2, P2.o (k := 80) rfl, ?_⟩)
    have I9 := I.s9 (LC S z1.toNat z2)
    refine P2.m_chAt I9.mo I9.rgm (I9.day2 hc) r1 r2 (fun a' b' h3 P3 => ?_) (fun a' => absurd (show inM (su S 90 0 _) z1 from ?_) a') (fun a' b' => absurd (show 0 ≤ z2 ∧ z2 ≤ su S 90 0 _ 80 1 from ?_) b')
    · rw [LM_of (S := S) (su_row _ _ (by omega)) (su_row _ _ (by omega)), I.reg _ vn.2.2.2]
      exact P3.endJ I lr q (by omega) (by omega)
    · unfold inM; rw [su_ne _ _ _ (by decide), n4]; exact a
    · rw [su_ne _ _ _ (by decide), dy]; exact b
  · refine ⟨fun z => absurd z (by decide), fun _ => ⟨v1, v2, P.o (k := 80) rfl, ?_⟩, Or.inr rfl⟩
    refine P.m_chAt I.mo I.rgm (I.day2 hc) r1 r2 (fun a' => absurd (show vst S z1 from ?_) a) (fun a' h3 P3 => P3.endE I (Or.inl rfl) il_1 q (by omega) (by omega)) (fun a' => absurd (show vst S z1 from ?_) a)
    · unfold vst; unfold inM at a'; rw [← n4]; exact a'
    · unfold vst; unfold inM at a'; rw [← n4]; exact a'
  · refine ⟨fun _ => ⟨v1, v2, P.o (k := 80) rfl, ?_⟩, fun z => absurd z (by decide), Or.inl rfl⟩
    refine P.m_chAt I.mo I.rgm (I.day2 hc) r1 r2 (fun a' b' => absurd (by rw [← dy]; exact b') b) (fun a' => absurd (show inM S z1 from ?_) a') (fun a' b' h3 P3 => P3.endE I (Or.inr (Or.inl rfl)) il_2 q (by omega) (by omega))
    unfold inM; rw [n4]; exact a
theorem Pic.w1694 (P : Pic G A B S h) (I : IV S c) (v1 : vp_in (i + 1) N) (hu : uc + 70 ≤ 603072) (hv : us + 48 * c + 260 ≤ 7219306) (q : CK G (A 0) (A 80) (A 90) (A 91) c uc us J) : wp_law_1694 G N xs (A 0) (A 80) (A 90) (A 91) i h uc us J := by
  obtain ⟨z1, e1, r1⟩ := ii_ex (xs (Int32.toNatClampNeg (i + 1)))
  unfold wp_law_1694
  rw [e1]
  refine ⟨v1, by omega, by omega, P.o (k := 0) rfl, ?_⟩
  have n4 := I.n4
  have pr := I.pr
  have hr : ∀ j, j < 8 → -1 ≤ S 122 j ∧ S 122 j ≤ 9999 := fun j hj => by rw [(pr j hj).1]; exact (pr j hj).2
  refine P.c_priceOf I.ki (fun j hj => (pr j hj).2) r1 (fun a b => ?_) (fun a => ?_) (fun a b => ?_)
  · have vn := vst_I I a
    have pv := pr z1.toNat vn.2.1
    refine P.out (v := S 42 z1.toNat) ⟨by omega, by omega⟩ (fun h2 P2 => ⟨v1, P2.o (k := 80) rfl, ?_⟩)
    have e122 : su S 90 0 (S 42 z1.toNat) 122 = S 122 := su_row _ _ (by decide)
    refine P2.m_priceOf (I.s9 _).mo (by rw [e122]; exact hr) r1 (fun a' b' h3 P3 => ?_) (fun a' => absurd (show inM (su S 90 0 _) z1 from ?_) a') (fun a' b' => absurd (by rw [e122, pv.1] at b'; exact b') b)
    · rw [e122, pv.1]; exact P3.endJ I ⟨by omega, by omega⟩ q (by omega) (by omega)
    · unfold inM; rw [su_ne _ _ _ (by decide), n4]; exact a
  · refine ⟨fun _ => ⟨v1, P.o (k := 80) rfl, ?_⟩, fun z => absurd z (by decide), Or.inl rfl⟩
    refine P.m_priceOf I.mo hr r1 (fun a' => absurd (show vst S z1 from ?_) a) (fun a' h3 P3 => P3.endE I (Or.inl rfl) il_1 q (by omega) (by omega)) (fun a' => absurd (show vst S z1 from ?_) a)
    · unfold vst; unfold inM at a'; rw [← n4]; exact a'
    · unfold vst; unfold inM at a'; rw [← n4]; exact a'
  · have vn := vst_I I a
    have pv := pr z1.toNat vn.2.1
    refine ⟨fun z => absurd z (by decide), fun _ => ⟨v1, P.o (k := 80) rfl, ?_⟩, Or.inr rfl⟩
    refine P.m_priceOf I.mo hr r1 (fun a' b' => absurd (by rw [pv.1]; exact b) b') (fun a' => absurd (show inM S z1 from ?_) a') (fun a' b' h3 P3 => P3.endE I (Or.inr (Or.inl rfl)) il_2 q (by omega) (by omega))
    unfold inM; rw [n4]; exact a
theorem Pic.w2066 (P : Pic G A B S h) (I : IV S c) (v1 : vp_in (i + 1) N) (hu : uc + 70 ≤ 603072) (hv : us + 48 * c + 260 ≤ 7219306) (q : CK G (A 0) (A 80) (A 90) (A 91) c uc us J) : wp_law_2066 G N xs (A 0) (A 80) (A 90) (A 91) i h uc us J := by
  obtain ⟨z1, e1, r1⟩ := ii_ex (xs (Int32.toNatClampNeg (i + 1)))
  unfold wp_law_2066
  rw [e1]
  refine ⟨v1, by omega, by omega, P.o (k := 0) rfl, ?_⟩
  have n4 := I.n4
  have pr := I.ph
  have hr : ∀ j, j < 8 → -1 ≤ S 129 j ∧ S 129 j ≤ 16 := fun j hj => by rw [(pr j hj).1]; exact (pr j hj).2
  refine P.c_phaseOf I.ki (fun j hj => (pr j hj).2) r1 (fun a b => ?_) (fun a => ?_) (fun a b => ?_)
  · have vn := vst_I I a
    have pv := pr z1.toNat vn.2.1
    refine P.out (v := S 48 z1.toNat) ⟨by omega, by omega⟩ (fun h2 P2 => ⟨v1, P2.o (k := 80) rfl, ?_⟩)
    have e129 : su S 90 0 (S 48 z1.toNat) 129 = S 129 := su_row _ _ (by decide)
    refine P2.m_phaseOf (I.s9 _).mo (by rw [e129]; exact hr) r1 (fun a' b' h3 P3 => ?_) (fun a' => absurd (show inM (su S 90 0 _) z1 from ?_) a') (fun a' b' => absurd (by rw [e129, pv.1] at b'; exact b') b)
    · rw [e129, pv.1]; exact P3.endJ I ⟨by omega, by omega⟩ q (by omega) (by omega)
    · unfold inM; rw [su_ne _ _ _ (by decide), n4]; exact a
  · refine ⟨fun _ => ⟨v1, P.o (k := 80) rfl, ?_⟩, fun z => absurd z (by decide), Or.inl rfl⟩
    refine P.m_phaseOf I.mo hr r1 (fun a' => absurd (show vst S z1 from ?_) a) (fun a' h3 P3 => P3.endE I (Or.inl rfl) il_1 q (by omega) (by omega)) (fun a' => absurd (show vst S z1 from ?_) a)
    · unfold vst; unfold inM at a'; rw [← n4]; exact a'
    · unfold vst; unfold inM at a'; rw [← n4]; exact a'
  · have vn := vst_I I a
    have pv := pr z1.toNat vn.2.1
    refine ⟨fun z => absurd z (by decide), fun _ => ⟨v1, P.o (k := 80) rfl, ?_⟩, Or.inr rfl⟩
    refine P.m_phaseOf I.mo hr r1 (fun a' b' => absurd (by rw [pv.1]; exact b) b') (fun a' => absurd (show inM S z1 from ?_) a') (fun a' b' h3 P3 => P3.endE I (Or.inr (Or.inl rfl)) il_2 q (by omega) (by omega))
    unfold inM; rw [n4]; exact a
theorem Pic.w1899 (P : Pic G A B S h) (I : IV S c) (v1 : vp_in (i + 1) N) (hu : uc + 70 ≤ 603072) (hv : us + 48 * c + 260 ≤ 7219306) (q : CK G (A 0) (A 80) (A 90) (A 91) c uc us J) : wp_law_1899 G N xs (A 0) (A 80) (A 90) (A 91) i h uc us J := by
  obtain ⟨z1, e1, r1⟩ := ii_ex (xs (Int32.toNatClampNeg (i + 1)))
  unfold wp_law_1899
  rw [e1]
  refine ⟨v1, by omega, by omega, P.o (k := 0) rfl, ?_⟩
  have nb := I.nb
  have bd := I.bd.1
  refine P.c_bought bd r1 (fun a => ?_) (fun a => ?_)
  · have g := I.got z1.toNat (by omega)
    have f := I.fb.1 z1.toNat (by omega)
    refine P.out (v := S 44 z1.toNat) ⟨by omega, by omega⟩ (fun h2 P2 => ⟨v1, P2.o (k := 80) rfl, ?_⟩)
    have e80 : su S 90 0 (S 44 z1.toNat) 80 = S 80 := su_row _ _ (by decide)
    have e126 : su S 90 0 (S 44 z1.toNat) 126 = S 126 := su_row _ _ (by decide)
    refine P2.m_bought (by rw [e80, nb]; exact bd) r1 (fun a' h3 P3 => ?_) (fun a' => absurd (by rw [e80, nb]; exact a) a')
    rw [e126, g]; exact P3.endJ I ⟨by omega, by omega⟩ q (by omega) (by omega)
  · refine ⟨fun _ => ⟨v1, P.o (k := 80) rfl, ?_⟩, rfl⟩
    exact P.m_bought (by rw [nb]; exact bd) r1 (fun a' => absurd (by rw [← nb]; exact a') a) (fun a' h3 P3 => P3.endE I (Or.inl rfl) il_1 q (by omega) (by omega))
theorem Pic.w1750 (P : Pic G A B S h) (I : IV S c) (q : CK G (A 0) (A 80) (A 90) (A 91) c uc us J) : wp_law_1750 G N xs (A 0) (A 80) (A 90) (A 91) i h uc us J := by
  refine ⟨P.o (k := 0) rfl, P.c_rounds ⟨P.o (k := 80) rfl, P.m_rounds (fun h3 P3 => ?_)⟩⟩
  rw [I.s20]
  exact ⟨fun _ => q A B _ h3 uc us P3 ⟨rfl, rfl, rfl, rfl⟩ (I.s8 0).nx (by omega) (by omega), fun z => absurd rfl z⟩
theorem Pic.w2122 (P : Pic G A B S h) (I : IV S c) (q : CK G (A 0) (A 80) (A 90) (A 91) c uc us J) : wp_law_2122 G N xs (A 0) (A 80) (A 90) (A 91) i h uc us J := by
  refine ⟨P.o (k := 0) rfl, P.c_dark ⟨P.o (k := 80) rfl, P.m_dark (fun h3 P3 => ?_)⟩⟩
  rw [I.dk]
  exact ⟨fun _ => q A B _ h3 uc us P3 ⟨rfl, rfl, rfl, rfl⟩ (I.s8 0).nx (by omega) (by omega), fun z => absurd rfl z⟩
end LWS
