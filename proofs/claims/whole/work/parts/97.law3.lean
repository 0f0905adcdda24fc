/-! the law: more calls that only ask -/
section LW3
variable {G : Gx} {A : Nat → Nat} {B : Nat → Nat → Nat} {S : Nat → Nat → Int} {h : hw} {c : Nat}
theorem lkf_rg {dy ch : Nat → Int} (h : ∀ i, -1 ≤ ch i ∧ ch i ≤ 7) (d : Int) (n : Nat) : -1 ≤ lkf dy ch d n ∧ lkf dy ch d n ≤ 7 := by
  induction n with
  | zero => exact ⟨by show (-1 : Int) ≤ -1; omega, by show (-1 : Int) ≤ 7; omega⟩
  | succ n ih =>
    rw [lkf_s]; split
    · exact h n
    · exact ih
/-- both threw: whatever comes behind -/
theorem Pic.endX {e : Int} (P : Pic G A B (su S 80 0 e) h) (I : IV S c) (he : e = 1 ∨ e = 2 ∨ e = 3 ∨ e = 4) {x : Int32} (hx : x = ii e) {uc us uc' us' : Nat} {J : hw → Nat → Nat → Prop} (q : CK G (A 0) (A 80) (A 90) (A 91) c uc us J) (hu : uc' ≤ uc + 70) (hw8 : us' ≤ us + 48 * c + 260) {X : Prop → Prop} : (isO h (A 80) 12 ∧ wp_X12_thrown G (A 80) h (fun r5 => ((r5 = x → ∀ J269 : Prop, (J h uc' us' → J269) → ((¬ x = 0 → J269) ∧ (x = 0 → X J269))) ∧ (¬ r5 = x → False)))) := by
  refine ⟨P.o (k := 80) rfl, P.rI (k := 80) rfl rfl ?_⟩
  have nz : x ≠ 0 := fun z => by
    rw [hx, il_0, ii_eq ⟨by omega, by omega⟩ ⟨by decide, by decide⟩] at z; omega
  rw [su_at, ← hx]
  exact ⟨fun _ J269 hJ => ⟨fun _ => hJ (q A B _ h uc' us' P ⟨rfl, rfl, rfl, rfl⟩ (I.s8 e).nx hu hw8), fun z => absurd z nz⟩, fun z => absurd rfl z⟩
theorem Pic.outB (P : Pic G A B S h) {b : Bool} {K : hw → Prop} (q : ∀ h', Pic G A B (su S 90 0 (bI b)) h' → K h') : ∀ J16 : Nat → Int32 → Int64 → Prop, (∀ (t2 : Nat) (t3 : Int32) (t4 : Int64), (stJ G h t2 t3 t4 K) → J16 t2 t3 t4) → ((ii (bI b) = 0 → J16 (A 90) 0 0) ∧ (¬ ii (bI b) = 0 → J16 (A 90) 0 1)) := by
  intro J hJ
  have go : ∀ v : Int, ∀ w : Int64, w = Int64.ofInt v → v = bI b → J (A 90) 0 w := fun v w hw5 hv => by
    apply hJ
    exact P.jst (k := 90) (i := 0) (n := 1) (z := v) ⟨by decide, by decide, by decide, by decide⟩ (fun S => rfl) il_0 hw5 (by decide) (by decide) (by rw [hv]; exact q)
  rw [bI_1, bI_0]
  exact ⟨fun z => go 0 0 jj_0 (by rw [z]; rfl), fun z => go 1 1 (by decide) (by rw [z]; rfl)⟩
theorem Pic.endB {b : Bool} (P : Pic G A B (su (su S 90 0 (bI b)) 80 0 0) h) (I : IV S c) {uc us uc' us' : Nat} {J : hw → Nat → Nat → Prop} (q : CK G (A 0) (A 80) (A 90) (A 91) c uc us J) (hu : uc' ≤ uc + 70) (hw8 : us' ≤ us + 48 * c + 260) : (isO h (A 80) 12 ∧ wp_X12_thrown G (A 80) h (fun r5 => ((r5 = 0 → ∀ J269 : Prop, (J h uc' us' → J269) → ((¬ (0 : Int32) = 0 → J269) ∧ ((0 : Int32) = 0 → ldJ G h (A 90) 0 (fun v6 => ∀ J1350 : Int64 → Int64 → Prop, (∀ (t7 : Int64) (t8 : Int64), ((((lg_cmp t7 t8) = 0 → J269) ∧ (¬ (lg_cmp t7 t8) = 0 → False))) → J1350 t7 t8) → ((ii (bI b) = 0 → J1350 v6 0) ∧ (¬ ii (bI b) = 0 → J1350 v6 1)))))) ∧ (¬ r5 = 0 → False)))) := by
  refine ⟨P.o (k := 80) rfl, P.rI (k := 80) rfl rfl ?_⟩
  rw [su_at, ← il_0]
  refine ⟨fun _ J269 hJ => ⟨fun z => absurd rfl z, fun _ => ?_⟩, fun z => absurd rfl z⟩
  refine P.jld (k := 90) (i := 0) (n := 1) rfl il_0 (by decide) (by decide) ?_
  rw [su_ne _ _ _ (by decide), su_at]
  have fin := hJ (q A B _ h uc' us' P ⟨rfl, rfl, rfl, rfl⟩ ((I.s9 _).s8 0).nx hu hw8)
  intro J2 hJ2
  rw [bI_1, bI_0]
  refine ⟨fun z => hJ2 _ _ ?_, fun z => hJ2 _ _ ?_⟩
  · rw [z, show Int64.ofInt (bI false) = 0 from jj_0.symm, lgc]; exact ⟨fun _ => fin, fun z => absurd rfl z⟩
  · rw [z, show Int64.ofInt (bI true) = 1 by decide, lgc]; exact ⟨fun _ => fin, fun z => absurd rfl z⟩
variable {N : Nat} {xs : Nat → Int32} {i : Int32} {uc us : Nat} {J : hw → Nat → Nat → Prop}
theorem yes_eq (I : IV S c) {a b : Nat} (ha : a < 8) (hb : b < 8) : yesM S (8 * a + b) = yes S (a * 8 + b) := by
  have e : 8 * a + b = a * 8 + b := by omega
  unfold yesM yes
  rw [e, I.b37 _ (by omega), I.b38 _ (by omega), I.day]
theorem Pic.w1284 (P : Pic G A B S h) (I : IV S c) (v1 : vp_in (i + 1) N) (v2 : vp_in (i + 2) N) (hu : uc + 70 ≤ 603072) (hv : us + 48 * c + 260 ≤ 7219306) (q : CK G (A 0) (A 80) (A 90) (A 91) c uc us J) : wp_law_1284 G N xs (A 0) (A 80) (A 90) (A 91) i h uc us J := by
  obtain ⟨z1, e1, r1⟩ := ii_ex (xs (Int32.toNatClampNeg (i + 1)))
  obtain ⟨z2, e2, r2⟩ := ii_ex (xs (Int32.toNatClampNeg (i + 2)))
  unfold wp_law_1284
  rw [e1, e2]
  refine ⟨v1, v2, by omega, by omega, P.o (k := 0) rfl, ?_⟩
  have n4 := I.n4
  refine P.c_hasYes I.ki I.br r1 r2 (fun a b => ?_) (fun a => ?_) (fun a b => ?_)
  · have vn := vst_I I a
    have ye := yes_eq I (a := z1.toNat) (b := z2.toNat) (by omega) (by omega)
    refine P.outB (fun h2 P2 => ⟨v1, v2, P2.o (k := 80) rfl, ?_⟩)
    have I9 := I.s9 (bI (yes S (z1.toNat * 8 + z2.toNat)))
    refine P2.m_hasYes I9.mo I9.bm r1 r2 (fun a' b' h3 P3 => ?_) (fun a' => absurd (show inM (su S 90 0 _) z1 from ?_) a') (fun a' b' => absurd b b')
    · have ey : yesM (su S 90 0 (bI (yes S (z1.toNat * 8 + z2.toNat)))) (8 * z1.toNat + z2.toNat) = yes S (z1.toNat * 8 + z2.toNat) := by
        rw [← ye]; unfold yesM
        rw [su_row (k := 90) (k' := 117) _ _ (by decide), su_row (k := 90) (k' := 118) _ _ (by decide), su_row (k := 90) (k' := 80) _ _ (by decide)]
      rw [ey]; exact P3.endB I q (by omega) (by omega)
    · unfold inM; rw [su_ne _ _ _ (by decide), n4]; exact a
  · refine ⟨fun z => absurd z (by decide), fun _ => ⟨v1, v2, P.o (k := 80) rfl, ?_⟩, Or.inr rfl⟩
    refine P.m_hasYes I.mo I.bm r1 r2 (fun a' => absurd (show vst S z1 from ?_) a) (fun a' h3 P3 => P3.endX I (Or.inl rfl) il_1 q (by omega) (by omega)) (fun a' => absurd (show vst S z1 from ?_) a)
    · unfold vst; unfold inM at a'; rw [← n4]; exact a'
    · unfold vst; unfold inM at a'; rw [← n4]; exact a'
  · refine ⟨fun _ => ⟨v1, v2, P.o (k := 80) rfl, ?_⟩, fun z => absurd z (by decide), Or.inl rfl⟩
    refine P.m_hasYes I.mo I.bm r1 r2 (fun a' b' => absurd b' b) (fun a' => absurd (show inM S z1 from ?_) a') (fun a' b' h3 P3 => P3.endX I (Or.inr (Or.inl rfl)) il_2 q (by omega) (by omega))
    unfold inM; rw [n4]; exact a
theorem Pic.w1955 (P : Pic G A B S h) (I : IV S c) (v1 : vp_in (i + 1) N) (hu : uc + 70 ≤ 603072) (hv : us + 48 * c + 260 ≤ 7219306) (hpr : ∀ j, j < 4 → rg (S 45 j)) (q : CK G (A 0) (A 80) (A 90) (A 91) c uc us J) : wp_law_1955 G N xs (A 0) (A 80) (A 90) (A 91) i h uc us J := by
  obtain ⟨z1, e1, r1⟩ := ii_ex (xs (Int32.toNatClampNeg (i + 1)))
  unfold wp_law_1955
  rw [e1]
  refine ⟨v1, by omega, by omega, P.o (k := 0) rfl, ?_⟩
  have nb := I.nb
  have bd := I.bd.1
  refine P.c_pays bd r1 (fun a => ?_) (fun a => ?_)
  · have g := I.pay z1.toNat (by omega)
    have lr := hpr z1.toNat (by omega)
    refine P.out lr (fun h2 P2 => ⟨v1, P2.o (k := 80) rfl, ?_⟩)
    have e80 : su S 90 0 (S 45 z1.toNat) 80 = S 80 := su_row _ _ (by decide)
    have e127 : su S 90 0 (S 45 z1.toNat) 127 = S 127 := su_row _ _ (by decide)
    refine P2.m_pays (by rw [e80, nb]; exact bd) r1 (fun a' h3 P3 => ?_) (fun a' => absurd (by rw [e80, nb]; exact a) a')
    rw [e127, g, ← jj_ii lr]; exact P3.endJ I lr q (by omega) (by omega)
  · refine ⟨fun _ => ⟨v1, P.o (k := 80) rfl, ?_⟩, rfl⟩
    exact P.m_pays (by rw [nb]; exact bd) r1 (fun a' => absurd (by rw [← nb]; exact a') a) (fun a' h3 P3 => P3.endX I (Or.inl rfl) il_1 q (by omega) (by omega))
theorem Pic.w696 (P : Pic G A B S h) (I : IV S c) (v1 : vp_in (i + 1) N) (hu : uc + 70 ≤ 603072) (hv : us + 48 * c + 260 ≤ 7219306) (q : CK G (A 0) (A 80) (A 90) (A 91) c uc us J) : wp_law_696 G N xs (A 0) (A 80) (A 90) (A 91) i h uc us J := by
  obtain ⟨z1, e1, r1⟩ := ii_ex (xs (Int32.toNatClampNeg (i + 1)))
  unfold wp_law_696
  rw [e1]
  refine ⟨v1, by omega, by omega, P.o (k := 0) rfl, ?_⟩
  have n4 := I.n4
  obtain ⟨h8, hn⟩ := nt8 I.ki
  refine P.c_keeps I.ki I.ri.2.2.2.1 r1 (fun a b => ?_) (fun a => ?_) (fun a b => ?_)
  · have vn := vst_I I a
    have nw := I.now z1.toNat vn.2.1
    refine P.outB (fun h2 P2 => ⟨v1, P2.o (k := 80) rfl, ?_⟩)
    have I9 := I.s9 (bI (kp (EC S) z1.toNat (S 32)))
    have e113 : su S 90 0 (bI (kp (EC S) z1.toNat (S 32))) 113 = S 113 := su_row _ _ (by decide)
    refine P2.m_keeps I9.mo r1 (fun a' b' h3 P3 => ?_) (fun a' => absurd (show inM (su S 90 0 _) z1 from ?_) a') (fun a' b' => absurd (by rw [e113, nw] at b'; exact b') b)
    · rw [eEC I, e113, kp_of (ch' := S 32) (fun j hj => I.now j (by omega))]; exact P3.endB I q (by omega) (by omega)
    · unfold inM; rw [su_ne _ _ _ (by decide), n4]; exact a
  · refine ⟨fun _ => ⟨v1, P.o (k := 80) rfl, ?_⟩, fun z => absurd z (by decide), Or.inl rfl⟩
    refine P.m_keeps I.mo r1 (fun a' => absurd (show vst S z1 from ?_) a) (fun a' h3 P3 => P3.endX I (Or.inl rfl) il_1 q (by omega) (by omega)) (fun a' => absurd (show vst S z1 from ?_) a)
    · unfold vst; unfold inM at a'; rw [← n4]; exact a'
    · unfold vst; unfold inM at a'; rw [← n4]; exact a'
  · have vn := vst_I I a
    have nw := I.now z1.toNat vn.2.1
    refine ⟨fun z => absurd z (by decide), fun _ => ⟨v1, P.o (k := 80) rfl, ?_⟩, Or.inr rfl⟩
    refine P.m_keeps I.mo r1 (fun a' b' => absurd (by rw [nw]; exact b) b') (fun a' => absurd (show inM S z1 from ?_) a') (fun a' b' h3 P3 => P3.endX I (Or.inr (Or.inl rfl)) il_2 q (by omega) (by omega))
    unfold inM; rw [n4]; exact a
theorem Pic.w759 (P : Pic G A B S h) (I : IV S c) (v1 : vp_in (i + 1) N) (v2 : vp_in (i + 2) N) (v3 : vp_in (i + 3) N) (v4 : vp_in (i + 4) N) (hu : uc + 70 ≤ 603072) (hv : us + 48 * c + 260 ≤ 7219306) (q : CK G (A 0) (A 80) (A 90) (A 91) c uc us J) : wp_law_759 G N xs (A 0) (A 80) (A 90) (A 91) i h uc us J := by
  obtain ⟨z1, e1, r1⟩ := ii_ex (xs (Int32.toNatClampNeg (i + 1)))
  obtain ⟨z2, e2, r2⟩ := ii_ex (xs (Int32.toNatClampNeg (i + 2)))
  obtain ⟨z3, e3, r3⟩ := ii_ex (xs (Int32.toNatClampNeg (i + 3)))
  obtain ⟨z4, e4, r4⟩ := ii_ex (xs (Int32.toNatClampNeg (i + 4)))
  unfold wp_law_759
  rw [e1, e2, e3, e4]
  refine ⟨v1, v2, v3, v4, by omega, by omega, P.o (k := 0) rfl, ?_⟩
  have n4 := I.n4
  have vi : ∀ z, inM S z ↔ vst S z := fun z => by unfold inM vst; rw [n4]
  have vi9 : ∀ w z, inM (su S 90 0 w) z ↔ vst S z := fun w z => by unfold inM vst; rw [su_ne _ _ _ (by decide), n4]
  refine P.c_bars I.ki r1 r2 r3 r4 (fun a b d e f => ?_) (fun a => ?_) (fun a b d => ?_)
  · refine P.outB (fun h2 P2 => ⟨v1, v2, v3, v4, P2.o (k := 80) rfl, ?_⟩)
    refine P2.m_bars (I.s9 _).mo r1 r2 r3 r4 (fun _ _ _ _ _ h3 P3 => ?_) (fun a' => absurd ⟨(vi9 _ _).mpr a, (vi9 _ _).mpr b⟩ a') (fun _ _ d' => absurd ⟨d, e, f⟩ d')
    rw [eEC I]; exact P3.endB I q (by omega) (by omega)
  · refine ⟨fun z => absurd z (by decide), fun _ => ⟨v1, v2, v3, v4, P.o (k := 80) rfl, ?_⟩, Or.inr rfl⟩
    exact P.m_bars I.mo r1 r2 r3 r4 (fun a' b' _ _ _ => absurd ⟨(vi _).mp a', (vi _).mp b'⟩ a) (fun a' h3 P3 => P3.endX I (Or.inl rfl) il_1 q (by omega) (by omega)) (fun a' b' _ => absurd ⟨(vi _).mp a', (vi _).mp b'⟩ a)
  · refine ⟨fun _ => ⟨v1, v2, v3, v4, P.o (k := 80) rfl, ?_⟩, fun z => absurd z (by decide), Or.inl rfl⟩
    exact P.m_bars I.mo r1 r2 r3 r4 (fun _ _ d' e' f' => absurd ⟨d', e', f'⟩ d) (fun a' => absurd ⟨(vi _).mpr a, (vi _).mpr b⟩ a') (fun _ _ _ h3 P3 => P3.endX I (Or.inr (Or.inl rfl)) il_2 q (by omega) (by omega))
end LW3
