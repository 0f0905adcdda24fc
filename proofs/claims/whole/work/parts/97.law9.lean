/-! the law: putOn -/
section LW9
variable {G : Gx} {A : Nat → Nat} {B : Nat → Nat → Nat} {S : Nat → Nat → Int} {h : hw} {c : Nat}
variable {N : Nat} {xs : Nat → Int32} {i : Int32} {uc us : Nat} {J : hw → Nat → Nat → Prop}
theorem IV.reg2 (I : IV S c) {S1 S2 S3 : Nat → Nat → Int} {u v : Nat} (R1 : RC S S1 c) (kg3 : ∀ k, kg k → S3 k = S1 k) (f3 : ∀ k, ¬ kM k → ¬ kr k → ¬ scr k → S3 k = S k) (g80 : ∀ i, i ≠ 0 → S3 80 i = S 80 i) (pl : PL S3) (c39 : chs (S3 39)) (c49 : chs (S3 49)) (eN2 : ntM S2 = ntM S) (e80 : S2 80 1 = S 80 1) (lm2 : ∀ j : Nat, j < ntM S → ∀ d, LM S2 j d = LM S j d) (e17 : ∀ s, s < 8 → S2 (170 + s) = S (170 + s)) (m3 : RM S2 S3) (m4 : RT S2 S3 u v) (nw : ∀ j, j < 8 → S3 113 j = S3 32 j) (al : S 8 1 = 0 → alk (EC S) (S3 32)) (off : ∀ j, nt (EC S) ≤ j → j < 8 → S3 32 j = -1) : IV S3 (c + 1) := by
  obtain ⟨n8, -, -⟩ := ntM_8 I.mo
  exact I.rg (fun k hk hs => f3 k (fun z => hk (by unfold kM at z; omega)) (fun z => hk (by unfold kr at z; omega)) hs) g80 pl c39 c49 (R1.1.of kg3) n8 (fun j hj d => by rw [LC_of kg3, kg3 32 (Or.inr (Or.inl rfl))]; exact R1.2.2 j hj d) (fun j hj d => by
        rw [m3.2.2 j (by rw [eN2]; exact hj) d, e80, I.day, nw j (by omega), lm2 j hj d]) nw m3.1 (RT.sz I (S' := S3) ⟨fun s hs => by have := m4.1 s hs; unfold rl1 at this ⊢; rw [e17 s hs] at this; exact this, Int.le_trans m4.2.1 (sm_le2 (fun s hs => by unfold ds1; rw [e17 s hs]; exact Int.le_refl _)), Int.le_trans m4.2.2 (sm_le2 (fun s hs => by unfold cs1; rw [e17 s hs]; exact Int.le_refl _))⟩) al off
theorem pno_at {E : Nat → Nat → Int} {s : Nat} {c : Int} {now now' : Nat → Int} {j : Nat} (h : now j = now' j) : pno E s c now j = pno E s c now' j := by unfold pno; rw [pnx_at h, h]
theorem Pic.w858 (P : Pic G A B S h) (I : IV S c) (hc : c ≤ 511) (v1 : vp_in (i + 1) N) (v2 : vp_in (i + 2) N) (hu : uc + 70 ≤ 603072) (hv : us + 48 * c + 260 ≤ 7219306) (q : CK G (A 0) (A 80) (A 90) (A 91) c uc us J) : wp_law_858 G N xs (A 0) (A 80) (A 90) (A 91) i h uc us J := by
  obtain ⟨z1, e1, r1⟩ := ii_ex (xs (Int32.toNatClampNeg (i + 1)))
  obtain ⟨z2, e2, r2⟩ := ii_ex (xs (Int32.toNatClampNeg (i + 2)))
  unfold wp_law_858
  rw [e1, e2]
  refine ⟨v1, v2, by omega, by omega, P.o (k := 0) rfl, ?_⟩
  have n4 := I.n4
  obtain ⟨n8, -, -⟩ := ntM_8 I.mo
  obtain ⟨h8, hn⟩ := nt8 I.ki
  have eN : ntM S = nt (EC S) := by unfold ntM; rw [n4, hn]; rfl
  -- the reference behind any state that differs in nothing that it looks at
  have ref : ∀ (S2 : Nat → Nat → Int) (h2 : hw), Pic G A B S2 h2 → (∀ k, ¬ kr k → k ≠ 90 → k ≠ 49 → S2 k = S k) → ∀ post : Int32 → hw → Prop, (vst S z1 → (0 ≤ z2 ∧ z2 ≤ 7) → (S 36 z2.toNat = 1 → nrb (EC S) z1.toNat = true → yes S (z1.toNat * 8 + z2.toNat) = true) → alk (EC S) (pno (EC S) z1.toNat z2 (S 32)) → ∀ A' B' S' h' uc' us', Pic G A' B' S' h' → (∀ k, k < 180 → A' k = A k) → (∀ k, ¬ kM k → k ≠ 132 → k ≠ 133 → S' k = su S2 80 0 0 k) → (∀ j, j < 8 → S' 113 j = if j < nt (EC S) then pno (EC S) z1.toNat z2 (S 32) j else S 32 j) → RM S2 S' → RT S2 S' uc' us' → post (ii (cnt (pnx (EC S) z1.toNat z2 (S 32)) (nt (EC S)))) h') → (¬ vst S z1 → ∀ h', Pic G A B (su S2 80 0 1) h' → post 0 h') → (vst S z1 → ¬ (0 ≤ z2 ∧ z2 ≤ 7) → ∀ h', Pic G A B (su S2 80 0 2) h' → post 0 h') → (vst S z1 → (0 ≤ z2 ∧ z2 ≤ 7) → S 36 z2.toNat = 1 → nrb (EC S) z1.toNat = true → yes S (z1.toNat * 8 + z2.toNat) = false → ∀ h', Pic G A B (su S2 80 0 3) h' → post 0 h') → (vst S z1 → (0 ≤ z2 ∧ z2 ≤ 7) → (S 36 z2.toNat = 1 → nrb (EC S) z1.toNat = true → yes S (z1.toNat * 8 + z2.toNat) = true) → ¬ alk (EC S) (pno (EC S) z1.toNat z2 (S 32)) → ∀ S' h', Pic G A B S' h' → (∀ k, k ≠ 132 → k ≠ 133 → S' k = su S2 80 0 4 k) → post 0 h') → wp_X12_putOn G (A 80) (ii z1) (ii z2) h2 64 (48 * c + 200) post := by
    intro S2 h2 P2 f2 post q1 x1 x2 x3 x4
    have e80 : S2 80 = S 80 := f2 80 (fun z => by unfold kr at z; omega) (by decide) (by decide)
    have e113 : S2 113 = S 113 := f2 113 (fun z => by unfold kr at z; omega) (by decide) (by decide)
    have e17 : ∀ s, s < 8 → S2 (170 + s) = S (170 + s) := fun s _ => f2 _ (fun z => by unfold kr at z; omega) (by omega) (by omega)
    have e19 : ∀ s, s < 8 → S2 (190 + s) = S (190 + s) := fun s _ => f2 _ (fun z => by unfold kr at z; omega) (by omega) (by omega)
    obtain ⟨mo2, eE2, eN2⟩ := I.mo.of (S' := S2) (fun k hk => f2 k (fun z => by unfold kr at z; omega) (by omega) (by omega))
    have rg2 : RG S2 := I.rgm.of (fun k hk => f2 k (fun z => by unfold kr at z; omega) (by omega) (by omega)) (by rw [e80])
    have bm2 : BM S2 := by unfold BM; rw [f2 116 (fun z => by unfold kr at z; omega) (by decide) (by decide), f2 117 (fun z => by unfold kr at z; omega) (by decide) (by decide), f2 118 (fun z => by unfold kr at z; omega) (by decide) (by decide), e80]; exact I.bm
    have i2 : inM S2 z1 ↔ vst S z1 := by unfold inM vst; rw [e80, n4]
    have eE : EM S2 = EC S := by rw [eE2, I.eE]
    have nwj : ∀ j, j < 8 → S2 113 j = S 32 j := fun j hj => by rw [e113]; exact I.now j hj
    have yeq : vst S z1 → (0 ≤ z2 ∧ z2 ≤ 7) → yesM S2 (8 * z1.toNat + z2.toNat) = yes S (z1.toNat * 8 + z2.toNat) := fun a b => by
      have vn := vst_I I a
      rw [← yes_eq I (a := z1.toNat) (b := z2.toNat) (by omega) (by omega)]
      unfold yesM
      rw [f2 117 (fun z => by unfold kr at z; omega) (by decide) (by decide), f2 118 (fun z => by unfold kr at z; omega) (by decide) (by decide), e80]
    have e116 : (0 ≤ z2 ∧ z2 ≤ 7) → S2 116 z2.toNat = S 36 z2.toNat := fun b => by
      rw [f2 116 (fun z => by unfold kr at z; omega) (by decide) (by decide)]; exact I.b36 _ (by omega)
    have akk : alk (EM S2) (pno (EM S2) z1.toNat z2 (S2 113)) ↔ alk (EC S) (pno (EC S) z1.toNat z2 (S 32)) := by
      rw [eE]
      exact ⟨fun w => alk_of (fun j hj => pno_at (nwj j (by omega))) w, fun w => alk_of (fun j hj => (pno_at (nwj j (by omega))).symm) w⟩
    refine P2.m_putOn mo2 bm2 rg2 (fun j hj d hd => ?_) (by rw [e80]; exact I.day2 hc) (fun t ht => by rw [e17 t ht]; have := I.sz t ht; omega) (fun S' uc us r => r.bound (fun s hs => by rw [e17 s hs]; have := I.sz s hs; omega)) r1 r2 (fun a b y w A3 B3 S3 h3 uc3 us3 P3 a3 m1 m2 m3 m4 => ?_) (fun a h3 P3 => x1 (fun y => a (i2.mpr y)) h3 P3) (fun a b h3 P3 => x2 (i2.mp a) b h3 P3) (fun a b y1 y2 y3 h3 P3 => x3 (i2.mp a) b (by rw [← e116 b]; exact y1) (by rw [← eE]; exact y2) (by rw [← yeq (i2.mp a) b]; exact y3) h3 P3) (fun a b y w S3 h3 P3 k3 => x4 (i2.mp a) b (fun t1 t2 => by rw [← yeq (i2.mp a) b]; exact y (by rw [e116 b]; exact t1) (by rw [eE]; exact t2)) (fun t => w (akk.mpr t)) S3 h3 P3 k3)
    · rw [eN2] at hj
      rw [e80] at hd
      rw [LM_of (e17 j (by omega)) (e19 j (by omega)), e113, I.reg j hj d, I.now j (by omega)]
      exact I.ri.2.2.2.2.1 j (by omega) d (by rw [← I.day]; exact hd)
    · rw [eE, eN2, eN, cnt_of (g := pnx (EC S) z1.toNat z2 (S 32)) (fun j hj => pnx_at (nwj j (by omega)))]
      refine q1 (i2.mp a) b (fun t1 t2 => by rw [← yeq (i2.mp a) b]; exact y (by rw [e116 b]; exact t1) (by rw [eE]; exact t2)) (akk.mp w) A3 B3 S3 h3 uc3 us3 P3 a3 m1 (fun j hj => ?_) m3 m4
      rw [m2 j, eN2, eN, eE, pno_at (nwj j hj), nwj j hj]
  refine P.c_putOn I.ki I.br hc I.ri I.c49 r1 r2 (fun a b y w S1 h1 P1 R1 c49 k1 w1 => ?_) (fun a => ?_) (fun a b => ?_) (fun a b y1 y2 y3 => ?_) (fun a b y w S1 h1 P1 c49 k1 => ?_)
  · have cr := cnt_in (pnx (EC S) z1.toNat z2 (S 32)) (nt (EC S))
    have vr : rg (cnt (pnx (EC S) z1.toNat z2 (S 32)) (nt (EC S))) := ⟨by omega, by omega⟩
    refine P1.out vr (fun h2 P2 => ⟨v1, v2, 64, 48 * c + 200, by omega, by omega, P2.o (k := 80) rfl, ?_⟩)
    obtain ⟨S2, hS2⟩ : ∃ S2, S2 = su S1 90 0 (cnt (pnx (EC S) z1.toNat z2 (S 32)) (nt (EC S))) := ⟨_, rfl⟩
    rw [← hS2] at P2
    have f2 : ∀ k, ¬ kr k → k ≠ 90 → k ≠ 49 → S2 k = S k := fun k x y z => by rw [hS2, su_row _ _ y, k1 k x z]
    have g2 : ∀ k, k ≠ 90 → S2 k = S1 k := fun k x => by rw [hS2, su_row _ _ x]
    have e90 : S2 90 0 = cnt (pnx (EC S) z1.toNat z2 (S 32)) (nt (EC S)) := by rw [hS2, su_at]
    refine ref S2 h2 P2 f2 _ (fun _ _ _ _ A3 B3 S3 h3 uc3 us3 P3 a3 m1 m2 m3 m4 => ?_) (fun a' => absurd a a') (fun _ b' => absurd b b') (fun _ _ y1 y2 y3 => by rw [y y1 y2] at y3; cases y3) (fun _ _ _ w' => absurd w w')
    have m1' : ∀ k, ¬ kM k → k ≠ 80 → k ≠ 132 → k ≠ 133 → S3 k = S2 k := fun k x y z w => by rw [m1 k x z w, su_row _ _ y]
    have g80 : ∀ i, i ≠ 0 → S3 80 i = S 80 i := fun i hi => by rw [m1 80 (fun z => by unfold kM at z; omega) (by decide) (by decide), su_nei _ _ _ hi, f2 80 (fun z => by unfold kr at z; omega) (by decide) (by decide)]
    have g0 : S3 80 0 = 0 := by rw [m1 80 (fun z => by unfold kM at z; omega) (by decide) (by decide), su_at]
    have kg3 : ∀ k, kg k → S3 k = S1 k := fun k x => by rw [m1' k (fun z => by unfold kM at z; unfold kg at x; omega) (by unfold kg at x; omega) (by unfold kg at x; omega) (by unfold kg at x; omega), g2 k (by unfold kg at x; omega)]
    have f3a : S3 32 = S1 32 := kg3 32 (Or.inr (Or.inl rfl))
    have e17 : ∀ s, s < 8 → S2 (170 + s) = S (170 + s) := fun s _ => f2 _ (fun z => by unfold kr at z; omega) (by omega) (by omega)
    have e19 : ∀ s, s < 8 → S2 (190 + s) = S (190 + s) := fun s _ => f2 _ (fun z => by unfold kr at z; omega) (by omega) (by omega)
    have e80 : S2 80 = S 80 := f2 80 (fun z => by unfold kr at z; omega) (by decide) (by decide)
    have n39 : S3 39 = S 39 := by rw [m1' 39 (fun z => by unfold kM at z; omega) (by decide) (by decide) (by decide), f2 39 (fun z => by unfold kr at z; omega) (by decide) (by decide)]
    have n49 : S3 49 = S1 49 := by rw [m1' 49 (fun z => by unfold kM at z; omega) (by decide) (by decide) (by decide), g2 49 (by decide)]
    have n130 : ∀ k, k = 130 ∨ k = 131 → S3 k = S k := fun k hk => by rw [m1' k (fun z => by unfold kM at z; omega) (by omega) (by omega) (by omega), f2 k (fun z => by unfold kr at z; omega) (by omega) (by omega)]
    have I3 : IV S3 (c + 1) := I.reg2 (S2 := S2) R1 kg3 (fun k x y z => by rw [m1' k x (fun u => z (by unfold scr; omega)) (fun u => z (by unfold scr; omega)) (fun u => z (by unfold scr; omega)), f2 k y (fun u => z (by unfold scr; omega)) (fun u => z (by unfold scr; omega))]) g80 (I.pl.of (n130 130 (Or.inl rfl)) (n130 131 (Or.inr rfl))) (by rw [n39]; exact I.c39) (by rw [n49]; exact c49) (by unfold ntM; rw [e80]) (by rw [e80]) (fun j hj d => LM_of (e17 j (by omega)) (e19 j (by omega)) d) e17 m3 m4 (fun j hj => by rw [m2 j hj, f3a, w1 j]) (fun _ => by
      rw [f3a]; exact alk_of (fun j hj => by rw [w1 j, if_pos hj]) w) (fun j hj h8 => by rw [f3a, w1 j, if_neg (by omega)]; exact I.off j hj h8)
    rw [← a3 80 (by decide), ← a3 90 (by decide)]
    exact P3.tlJ g0 vr (by rw [m1' 90 (fun z => by unfold kM at z; omega) (by decide) (by decide) (by decide), e90]) (q A3 B3 S3 h3 _ _ P3 ⟨a3 0 (by decide), a3 80 (by decide), a3 90 (by decide), a3 91 (by decide)⟩ I3 (by omega) (by omega))
  · refine ⟨fun z => absurd z (by decide), fun z => absurd z (by decide), fun _ => ⟨v1, v2, 64, 48 * c + 200, by omega, by omega, P.o (k := 80) rfl, ?_⟩, fun z => absurd z (by decide), Or.inr (Or.inr (Or.inl rfl))⟩
    exact ref S h P (fun _ _ _ _ => rfl) _ (fun a' => absurd a' a) (fun _ h3 P3 => P3.endX I (Or.inl rfl) il_1 q (by omega) (by omega)) (fun a' => absurd a' a) (fun a' => absurd a' a) (fun a' => absurd a' a)
  · refine ⟨fun _ => ⟨v1, v2, 64, 48 * c + 200, by omega, by omega, P.o (k := 80) rfl, ?_⟩, fun z => absurd z (by decide), fun z => absurd z (by decide), fun z => absurd z (by decide), Or.inl rfl⟩
    exact ref S h P (fun _ _ _ _ => rfl) _ (fun _ b' => absurd b' b) (fun a' => absurd a a') (fun _ _ h3 P3 => P3.endX I (Or.inr (Or.inl rfl)) il_2 q (by omega) (by omega)) (fun _ b' => absurd b' b) (fun _ b' => absurd b' b)
  · refine ⟨fun z => absurd z (by decide), fun _ => ⟨v1, v2, 64, 48 * c + 200, by omega, by omega, P.o (k := 80) rfl, ?_⟩, fun z => absurd z (by decide), fun z => absurd z (by decide), Or.inr (Or.inl rfl)⟩
    exact ref S h P (fun _ _ _ _ => rfl) _ (fun _ _ y => by rw [y y1 y2] at y3; cases y3) (fun a' => absurd a a') (fun _ b' => absurd b b') (fun _ _ _ _ _ h3 P3 => P3.endX I (Or.inr (Or.inr (Or.inl rfl))) il_3 q (by omega) (by omega)) (fun _ _ y => by rw [y y1 y2] at y3; cases y3)
  · refine ⟨fun z => absurd z (by decide), fun z => absurd z (by decide), fun z => absurd z (by decide), fun _ => ⟨v1, v2, 64, 48 * c + 200, by omega, by omega, P1.o (k := 80) rfl, ?_⟩, Or.inr (Or.inr (Or.inr rfl))⟩
    refine ref S1 h1 P1 (fun k _ _ z => k1 k z) _ (fun _ _ _ w' => absurd w' w) (fun a' => absurd a a') (fun _ b' => absurd b b') (fun _ _ y1 y2 y3 => by rw [y y1 y2] at y3; cases y3) (fun _ _ _ _ S3 h3 P3 k3 => ?_)
    have f3 : ∀ k, k ≠ 49 → k ≠ 80 → k ≠ 132 → k ≠ 133 → S3 k = S k := fun k x y z w => by rw [k3 k z w, su_row _ _ y, k1 k x]
    have I3 : IV S3 c := I.of (fun k hk => f3 k (fun u => hk (by unfold scr; omega)) (fun u => hk (by unfold scr; omega)) (fun u => hk (by unfold scr; omega)) (fun u => hk (by unfold scr; omega))) (fun i hi => by rw [k3 80 (by decide) (by decide), su_nei _ _ _ hi, k1 80 (by decide)]) (I.pl.of (f3 130 (by decide) (by decide) (by decide) (by decide)) (f3 131 (by decide) (by decide) (by decide) (by decide))) (by rw [f3 39 (by decide) (by decide) (by decide) (by decide)]; exact I.c39) (by rw [k3 49 (by decide) (by decide), su_row _ _ (by decide)]; exact c49)
    exact P3.tlX (e := 4) (by rw [k3 80 (by decide) (by decide), su_at]) (Or.inr (Or.inr (Or.inr rfl))) il_4 (q A B S3 h3 _ _ P3 ⟨rfl, rfl, rfl, rfl⟩ I3.nx (by omega) (by omega))
end LW9
