/-! the law: packed, object, setForeign -/
section LW6
variable {G : Gx} {A : Nat → Nat} {B : Nat → Nat → Nat} {S : Nat → Nat → Int} {h : hw} {c : Nat}
variable {N : Nat} {xs : Nat → Int32} {i : Int32} {uc us : Nat} {J : hw → Nat → Nat → Prop}
theorem Pic.w1478 (P : Pic G A B S h) (I : IV S c) (v1 : vp_in (i + 1) N) (v2 : vp_in (i + 2) N) (hu : uc + 70 ≤ 603072) (hv : us + 48 * c + 260 ≤ 7219306) (q : CK G (A 0) (A 80) (A 90) (A 91) c uc us J) : wp_law_1478 G N xs (A 0) (A 80) (A 90) (A 91) i h uc us J := by
  obtain ⟨z1, e1, r1⟩ := ii_ex (xs (Int32.toNatClampNeg (i + 1)))
  obtain ⟨z2, e2, r2⟩ := ii_ex (xs (Int32.toNatClampNeg (i + 2)))
  unfold wp_law_1478
  rw [e1, e2]
  refine ⟨v1, v2, by omega, by omega, P.o (k := 0) rfl, ?_⟩
  have n4 := I.n4
  have vi : ∀ z, inM S z ↔ vst S z := fun z => by unfold inM vst; rw [n4]
  have eES := I.eE
  refine P.c_packed I.ki I.c39 r1 r2 (fun a b d p hp S1 h1 P1 k1 c39 => ?_) (fun a => ?_) (fun a b => ?_) (fun a b d => ?_) (fun a b d no S1 h1 P1 k1 c39 => ?_)
  · have vn := vst_I I b
    have I1 := I.sc k1 c39
    have e : EM S1 = EC S := by rw [I1.eE]; exact EC_of (fun k hk => k1 k (fun z => by unfold kp5 at z; unfold kl at hk; omega))
    have pv : prm (EC S) z2.toNat = true := by unfold prm; rw [decide_eq_true vn.1, decide_eq_true d]; rfl
    have pr := (hp.2 z2.toNat (Nat.zero_le _) vn.2.1 pv).1
    have vr : rg (p z2.toNat) := ⟨by omega, by omega⟩
    refine P1.out vr (fun h2 P2 => ⟨v1, v2, P2.o (k := 80) rfl, ?_⟩)
    have I9 := I1.s9 (p z2.toNat)
    have i9 : ∀ z, inM (su S1 90 0 (p z2.toNat)) z ↔ vst S z := fun z => by unfold inM vst; rw [su_ne _ _ _ (by decide), k1 80 (fun z => by unfold kp5 at z; omega), n4]
    refine P2.m_packed I9.mo I9.pl r1 r2 (fun _ _ _ p2 hp2 S3 h3 P3 k3 p3 => ?_) (fun a' => absurd a a') (fun _ b' => absurd ((i9 _).mpr b) b') (fun _ _ d' => absurd (by rw [EM_9, e]; exact d) d') (fun _ _ _ no => absurd (by rw [EM_9, e]; exact fst_ok hp) no)
    rw [EM_9, e] at hp2
    have ep : p2 z2.toNat = p z2.toNat := fst_one (fun i hi => by omega) hp2 hp _ vn.2.1 pv
    rw [ep]
    exact P3.tlJ (by rw [k3 80 (by decide) (by decide), su_at]) vr (by rw [k3 90 (by decide) (by decide), su_row _ _ (by decide), su_at]) (q A B S3 h3 _ _ P3 ⟨rfl, rfl, rfl, rfl⟩ (I9.sm k3 p3).nx (by omega) (by omega))
  · refine ⟨fun _ => ⟨v1, v2, P.o (k := 80) rfl, ?_⟩, fun z => absurd z (by decide), fun z => absurd z (by decide), fun z => absurd z (by decide), Or.inl rfl⟩
    exact P.m_packed I.mo I.pl r1 r2 (fun a' => absurd a' a) (fun a' h3 P3 => P3.endX I (Or.inl rfl) il_1 q (by omega) (by omega)) (fun a' => absurd a' a) (fun a' => absurd a' a) (fun a' => absurd a' a)
  · refine ⟨fun z => absurd z (by decide), fun _ => ⟨v1, v2, P.o (k := 80) rfl, ?_⟩, fun z => absurd z (by decide), fun z => absurd z (by decide), Or.inr (Or.inl rfl)⟩
    exact P.m_packed I.mo I.pl r1 r2 (fun _ b' => absurd ((vi _).mp b') b) (fun a' => absurd a a') (fun _ _ h3 P3 => P3.endX I (Or.inr (Or.inl rfl)) il_2 q (by omega) (by omega)) (fun _ b' => absurd ((vi _).mp b') b) (fun _ b' => absurd ((vi _).mp b') b)
  · refine ⟨fun z => absurd z (by decide), fun z => absurd z (by decide), fun _ => ⟨v1, v2, P.o (k := 80) rfl, ?_⟩, fun z => absurd z (by decide), Or.inr (Or.inr (Or.inl rfl))⟩
    exact P.m_packed I.mo I.pl r1 r2 (fun _ _ d' => absurd (by rw [eES] at d'; exact d') d) (fun a' => absurd a a') (fun _ b' => absurd ((vi _).mpr b) b') (fun _ _ _ h3 P3 => P3.endX I (Or.inr (Or.inr (Or.inl rfl))) il_3 q (by omega) (by omega)) (fun _ _ d' => absurd (by rw [eES] at d'; exact d') d)
  · have I1 := I.sc k1 c39
    have e : EM S1 = EC S := by rw [I1.eE]; exact EC_of (fun k hk => k1 k (fun z => by unfold kp5 at z; unfold kl at hk; omega))
    have i1 : ∀ z, inM S1 z ↔ vst S z := fun z => by unfold inM vst; rw [k1 80 (fun z => by unfold kp5 at z; omega), n4]
    refine ⟨fun z => absurd z (by decide), fun z => absurd z (by decide), fun z => absurd z (by decide), fun _ => ⟨v1, v2, P1.o (k := 80) rfl, ?_⟩, Or.inr (Or.inr (Or.inr rfl))⟩
    refine P1.m_packed I1.mo I1.pl r1 r2 (fun _ _ _ p2 hp2 => absurd (by rw [e] at hp2; exact fst_ok hp2) no) (fun a' => absurd a a') (fun _ b' => absurd ((i1 _).mpr b) b') (fun _ _ d' => absurd (by rw [e]; exact d) d') (fun _ _ _ _ S3 h3 P3 k3 p3 => ?_)
    exact P3.tlX (e := 4) (by rw [k3 80 (by decide) (by decide), su_at]) (Or.inr (Or.inr (Or.inr rfl))) il_4 (q A B S3 h3 _ _ P3 ⟨rfl, rfl, rfl, rfl⟩ (I1.sm k3 p3).nx (by omega) (by omega))
theorem Pic.w1209 (P : Pic G A B S h) (I : IV S c) (hc : c ≤ 511) (v1 : vp_in (i + 1) N) (v2 : vp_in (i + 2) N) (hu : uc + 70 ≤ 603072) (hv : us + 48 * c + 260 ≤ 7219306) (q : CK G (A 0) (A 80) (A 90) (A 91) c uc us J) : wp_law_1209 G N xs (A 0) (A 80) (A 90) (A 91) i h uc us J := by
  obtain ⟨z1, e1, r1⟩ := ii_ex (xs (Int32.toNatClampNeg (i + 1)))
  obtain ⟨z2, e2, r2⟩ := ii_ex (xs (Int32.toNatClampNeg (i + 2)))
  unfold wp_law_1209
  rw [e1, e2]
  refine ⟨v1, v2, by omega, by omega, P.o (k := 0) rfl, ?_⟩
  have n4 := I.n4
  have dy := I.day
  have vi : ∀ z, inM S z ↔ vst S z := fun z => by unfold inM vst; rw [n4]
  have g7 : vst S z1 → (0 ≤ z2 ∧ z2 ≤ 7) → S 117 (8 * z1.toNat + z2.toNat) = S 37 (z1.toNat * 8 + z2.toNat) := fun a b => by
    have vn := vst_I I a
    rw [show 8 * z1.toNat + z2.toNat = z1.toNat * 8 + z2.toNat by omega]; exact I.b37 _ (by omega)
  refine P.c_object I.ki I.br r1 r2 (fun a b d f h1 P1 => ?_) (fun a b d f => ?_) (fun a => ?_) (fun a b => ?_) (fun a b d => ?_)
  · have vn := vst_I I a
    have g := g7 a b
    obtain ⟨t, et⟩ : ∃ t, t = z1.toNat * 8 + z2.toNat := ⟨_, rfl⟩
    have et2 : 8 * z1.toNat + z2.toNat = t := by omega
    rw [← et] at P1 d f
    rw [et2, ← et] at g
    refine P1.outBr (b := true) il_1 (fun h2 P2 => ⟨v1, v2, P2.o (k := 80) rfl, ?_⟩)
    obtain ⟨S2, hS2⟩ : ∃ S2, S2 = su (su S 38 t 1) 90 0 (bI true) := ⟨_, rfl⟩
    rw [← hS2] at P2
    have f2 : ∀ k, k ≠ 38 → k ≠ 90 → S2 k = S k := fun k x y => by rw [hS2, su_row _ _ y, su_row _ _ x]
    have mo2 : MO S2 := (I.mo.of (S' := S2) (fun k hk => f2 k (by omega) (by omega))).1
    have bm2 : BM S2 := by unfold BM; rw [f2 116 (by decide) (by decide), f2 117 (by decide) (by decide), f2 118 (by decide) (by decide), f2 80 (by decide) (by decide)]; exact I.bm
    have i2 : ∀ z, inM S2 z ↔ vst S z := fun z => by unfold inM vst; rw [f2 80 (by decide) (by decide), n4]
    have g2 : S2 117 t = S 37 t := by rw [f2 117 (by decide) (by decide)]; exact g
    have d2 : S2 80 1 = S 3 1 := by rw [f2 80 (by decide) (by decide)]; exact dy
    refine P2.m_object mo2 bm2 r1 r2 (fun _ _ _ _ h3 P3 => ?_) (fun _ _ _ f' => absurd (by rw [d2, et2, g2]; exact f) f') (fun a' => absurd ((i2 _).mpr a) a') (fun _ b' => absurd b b') (fun _ _ d' => absurd (by rw [et2, g2] at d'; exact d') d)
    rw [et2] at P3
    have f3 : ∀ k, k ≠ 38 → k ≠ 90 → k ≠ 80 → k ≠ 118 → su (su S2 80 0 0) 118 t 1 k = S k := fun k x y z w => by rw [su_row _ _ w, su_row _ _ z, f2 k x y]
    have e38 : su (su S2 80 0 0) 118 t 1 38 = su S 38 t 1 38 := by rw [su_row _ _ (by decide), su_row _ _ (by decide), hS2, su_row _ _ (by decide)]
    refine P3.tlB (b := true) (by rw [su_ne _ _ _ (by decide), su_at]) (by rw [su_ne _ _ _ (by decide), su_ne _ _ _ (by decide), hS2, su_at]) il_1 (q A B _ h3 _ _ P3 ⟨rfl, rfl, rfl, rfl⟩ (IV.nx (I.bo (fun k x1 x2 x3 x4 x5 x6 hk => f3 k x3 (fun z => hk (by unfold scr; omega)) (fun z => hk (by unfold scr; omega)) x6) (fun i hi => ?_) (I.pl.of (f3 130 (by decide) (by decide) (by decide) (by decide)) (f3 131 (by decide) (by decide) (by decide) (by decide))) (by rw [f3 39 (by decide) (by decide) (by decide) (by decide)]; exact I.c39) (by rw [f3 49 (by decide) (by decide) (by decide) (by decide)]; exact I.c49) (fun i hi => ?_) (fun i hi => ?_) (fun i hi => ?_))) (by omega) (by omega))
    · rw [su_ne _ _ _ (by decide), su_nei _ _ _ hi, f2 80 (by decide) (by decide)]
    · rw [f3 36 (by decide) (by decide) (by decide) (by decide), f3 116 (by decide) (by decide) (by decide) (by decide)]
      exact ⟨I.br.1 i hi, I.b36 i hi⟩
    · rw [f3 37 (by decide) (by decide) (by decide) (by decide), f3 117 (by decide) (by decide) (by decide) (by decide)]
      exact ⟨I.br.2.1 i hi, I.b37 i hi⟩
    · rw [e38]
      by_cases y : i = t
      · subst y; rw [su_at, su_at]; exact ⟨Or.inr rfl, rfl⟩
      · rw [su_nei _ _ _ y, su_nei _ _ _ y, su_ne (k := 80) (k' := 118) _ _ _ (by decide), f2 118 (by decide) (by decide)]
        exact ⟨I.br.2.2.1 i hi, I.b38 i hi⟩
  · have g := g7 a b
    refine P.outBr (b := false) il_0 (fun h2 P2 => ⟨v1, v2, P2.o (k := 80) rfl, ?_⟩)
    have I9 := I.s9 (bI false)
    have e117 : su S 90 0 (bI false) 117 = S 117 := su_row _ _ (by decide)
    have e80 : su S 90 0 (bI false) 80 = S 80 := su_row _ _ (by decide)
    have i9 : ∀ z, inM (su S 90 0 (bI false)) z ↔ vst S z := fun z => by unfold inM vst; rw [e80, n4]
    refine P2.m_object I9.mo I9.bm r1 r2 (fun _ _ _ f' => absurd (by rw [e80, e117, g, dy] at f'; exact f') f) (fun _ _ _ _ h3 P3 => ?_) (fun a' => absurd ((i9 _).mpr a) a') (fun _ b' => absurd b b') (fun _ _ d' => absurd (by rw [e117, g] at d'; exact d') d)
    exact P3.tlB (b := false) (su_at _ _ _) (by rw [su_ne _ _ _ (by decide), su_at]) il_0 (q A B _ h3 _ _ P3 ⟨rfl, rfl, rfl, rfl⟩ (I9.s8 0).nx (by omega) (by omega))
  · refine ⟨fun z => absurd z (by decide), fun _ => ⟨v1, v2, P.o (k := 80) rfl, ?_⟩, fun z => absurd z (by decide), Or.inr (Or.inl rfl)⟩
    exact P.m_object I.mo I.bm r1 r2 (fun a' => absurd ((vi _).mp a') a) (fun a' => absurd ((vi _).mp a') a) (fun a' h3 P3 => P3.endX I (Or.inl rfl) il_1 q (by omega) (by omega)) (fun a' => absurd ((vi _).mp a') a) (fun a' => absurd ((vi _).mp a') a)
  · refine ⟨fun _ => ⟨v1, v2, P.o (k := 80) rfl, ?_⟩, fun z => absurd z (by decide), fun z => absurd z (by decide), Or.inl rfl⟩
    exact P.m_object I.mo I.bm r1 r2 (fun _ b' => absurd b' b) (fun _ b' => absurd b' b) (fun a' => absurd ((vi _).mpr a) a') (fun _ _ h3 P3 => P3.endX I (Or.inr (Or.inl rfl)) il_2 q (by omega) (by omega)) (fun _ b' => absurd b' b)
  · have g := g7 a b
    refine ⟨fun z => absurd z (by decide), fun z => absurd z (by decide), fun _ => ⟨v1, v2, P.o (k := 80) rfl, ?_⟩, Or.inr (Or.inr rfl)⟩
    exact P.m_object I.mo I.bm r1 r2 (fun _ _ d' => absurd (by rw [g]; exact d) d') (fun _ _ d' => absurd (by rw [g]; exact d) d') (fun a' => absurd ((vi _).mpr a) a') (fun _ b' => absurd b b') (fun _ _ _ h3 P3 => P3.endX I (Or.inr (Or.inr (Or.inl rfl))) il_3 q (by omega) (by omega))
end LW6
