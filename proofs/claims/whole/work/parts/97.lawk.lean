/-! the law: addStation -/
section LWK
variable {G : Gx} {A : Nat → Nat} {B : Nat → Nat → Nat} {S : Nat → Nat → Int} {h : hw} {c : Nat}
variable {N : Nat} {xs : Nat → Int32} {i : Int32} {uc us : Nat} {J : hw → Nat → Nat → Prop}
/-- one more station stands in both -/
theorem ivStat (I : IV S c) {S3 : Nat → Nat → Int} {z1 z2 z3 z4 : Int} {n : Nat} (en : S 51 2 = (n : Int)) (hn : n < 8) (g3 : ∀ k, k ≠ 90 → k ≠ 80 → (k < 109 ∨ 112 < k) → k ≠ 81 → k ≠ 170 + n → S3 k = lsu S 51 70 (statR (S 51 2) z1 z2 z3 z4) k) (g80 : ∀ i, i ≠ 0 → i ≠ 4 → S3 80 i = S 80 i) (h804 : S3 80 4 = S 51 2 + 1) (h109 : S3 109 = up (S 109) n z1) (h110 : S3 110 = up (S 110) n z2) (h111 : S3 111 = up (S 111) n z3) (h112 : S3 112 = up (S 112) n z4) (h812 : S3 81 2 = S 51 2 + 1) (h813 : S3 81 3 = 10) (h170 : S3 (170 + n) = fun _ => 0) (ki3 : KI S3) : IV S3 c := by
  have f3 : ∀ k, k ≠ 90 → k ≠ 80 → (k < 109 ∨ 112 < k) → k ≠ 81 → k ≠ 170 + n → k ≠ 51 → k ≠ 70 + n → S3 k = S k := fun k a2 a3 a4 a5 a6 a7 a8 => by rw [g3 k a2 a3 a4 a5 a6, lsu_k a7 (by omega)]
  have cC : EC S3 = EC (lsu S 51 70 (statR (S 51 2) z1 z2 z3 z4)) := EC_of (fun k kk => g3 k (by unfold kl at kk; omega) (by unfold kl at kk; omega) (by unfold kl at kk; omega) (by unfold kl at kk; omega) (by unfold kl at kk; omega))
  have cs := EC_stat (S := S) en hn (r := statR (S 51 2) z1 z2 z3 z4)
  have s51 : S3 51 2 = S 51 2 + 1 := by rw [g3 51 (by decide) (by decide) (by decide) (by decide) (by omega), lsu_2]
  have s513 : S3 51 3 = 10 := by rw [g3 51 (by decide) (by decide) (by decide) (by decide) (by omega), lsu_3]
  have s50 : S3 50 = S 50 := f3 50 (by decide) (by decide) (by decide) (by decide) (by omega) (by decide) (by omega)
  have lo : ∀ k, k ≤ 3 → EC S3 k = EC S k := fun k a => by rw [cC]; exact cs.1 k a
  have cell : ∀ k, 105 ≤ k → k ≤ 108 → S3 k = S k := fun k a b => f3 k (by omega) (by omega) (by omega) (by omega) (by omega) (by omega) (by omega)
  have eE : EM S3 = EC S3 := EMC (by rw [g80 2 (by decide) (by decide), f3 1 (by decide) (by decide) (by decide) (by decide) (by omega) (by decide) (by omega)]; exact congrFun (congrFun I.eE 8) 0) (by rw [h804, s51]) (by rw [g80 3 (by decide) (by decide), s50]; exact I.n3) (fun k hk i => by
    rcases k8 hk with z | z | z | z | z | z | z | z <;> subst z
    · rw [lo 0 (by decide), ← I.eE]
      show (if i < 10 then S3 106 i else 0) = if i < 10 then S 106 i else 0
      rw [cell 106 (by decide) (by decide)]
    · rw [lo 1 (by decide), ← I.eE]
      show (if i < 10 then S3 107 i else 0) = if i < 10 then S 107 i else 0
      rw [cell 107 (by decide) (by decide)]
    · rw [lo 2 (by decide), ← I.eE]
      show (if i < 10 then S3 108 i else 0) = if i < 10 then S 108 i else 0
      rw [cell 108 (by decide) (by decide)]
    · rw [lo 3 (by decide), ← I.eE]
      show (if i < 400 then S3 105 i else 0) = if i < 400 then S 105 i else 0
      rw [cell 105 (by decide) (by decide)]
    · rw [cC, cs.2.1 i, ← I.eE]
      show (if i < 8 then S3 109 i else 0) = if i = n then z1 else if i < 8 then S 109 i else 0
      rw [h109]; exact up_lt hn
    · rw [cC, cs.2.2.1 i, ← I.eE]
      show (if i < 8 then S3 110 i else 0) = if i = n then z2 else if i < 8 then S 110 i else 0
      rw [h110]; exact up_lt hn
    · rw [cC, cs.2.2.2.1 i, ← I.eE]
      show (if i < 8 then S3 111 i else 0) = if i = n then z3 else if i < 8 then S 111 i else 0
      rw [h111]; exact up_lt hn
    · rw [cC, cs.2.2.2.2.1 i, ← I.eE]
      show (if i < 8 then S3 112 i else 0) = if i = n then z4 else if i < 8 then S 112 i else 0
      rw [h112]; exact up_lt hn)
  obtain ⟨g8, gN⟩ := nt8 I.ki
  have en1 : nt (EC S) = n := by omega
  have eN : nt (EC S3) = n + 1 := by
    rw [cC]; unfold nt; rw [cs.2.2.2.2.2.2.1]; omega
  have eM0 : ntM S = n := by unfold ntM; rw [I.n4]; omega
  have eM1 : ntM S3 = n + 1 := by unfold ntM; rw [h804]; omega
  have e4 : ∀ j, j < n → EC S3 4 j = EC S 4 j ∧ EC S3 5 j = EC S 5 j ∧ EC S3 6 j = EC S 6 j ∧ EC S3 7 j = EC S 7 j := fun j hj => by
    rw [cC, cs.2.1, cs.2.2.1, cs.2.2.2.1, cs.2.2.2.2.1, if_neg (by omega), if_neg (by omega), if_neg (by omega), if_neg (by omega)]
    exact ⟨rfl, rfl, rfl, rfl⟩
  have row : ∀ k, 170 ≤ k → k ≠ 170 + n → S3 k = S k := fun k hk h2 => f3 k (by omega) (by omega) (by omega) (by omega) h2 (by omega) (by omega)
  have sc : ∀ k, k = 31 ∨ k = 39 ∨ k = 49 ∨ k = 130 ∨ k = 131 → S3 k = S k := fun k hk => f3 k (by omega) (by omega) (by omega) (by omega) (by omega) (by omega) (by omega)
  obtain ⟨x1, x2, x3, x4⟩ := I.rgm
  have i4 := I.n4
  have z170 : ∀ j, S3 (170 + n) j = 0 := fun j => congrFun h170 j
  refine ivLand I (fun k hk hs => f3 k (fun z => hs (by unfold scr; omega)) (fun z => hs (by unfold scr; omega)) (by unfold lk at hk; omega) (fun z => hk (by unfold lk; omega)) (fun z => hk (by unfold lk; omega)) (fun z => hk (by unfold lk; omega)) (fun z => hk (by unfold lk; omega))) (fun i a _ b => g80 i a b) (I.pl.of (sc 130 (by omega)) (sc 131 (by omega))) (by rw [sc 39 (by omega)]; exact I.c39) (by rw [sc 49 (by omega)]; exact I.c49) ki3 (fun a ha => by rw [sc 31 (by omega)]; exact I.dg a ha) ?_ eE (by omega) (fun j hj => (e4 j (by omega)).2.2.2) (fun j hj d => LM_of (row _ (by omega) (by omega)) (row _ (by omega) (by omega)) d) (fun j a b d => ?_) ⟨by rw [h812, h804], by rw [h812, h813, if_neg (by omega)], ⟨by rw [s50]; exact x3.1, by rw [s51]; omega⟩, fun s hs => ?_⟩ (fun s hs => ?_) (fun j hj => ?_) (fun z => ?_)
  · have l3 := I.l3
    unfold L3 at l3 ⊢
    rw [s513, s50, s51, h812, if_neg (show ¬ (S 51 2 + 1 = 0) by omega)]
    exact ⟨l3.1, rfl, by omega⟩
  · have ej : j = n := by omega
    subst ej
    unfold LM
    rw [z170]; rfl
  · rw [h812] at hs
    by_cases w : s = n
    · subst w
      unfold LI LV
      rw [z170, z170]
      exact ⟨⟨by decide, by decide, by decide, by decide⟩, by decide, fun i hi => by omega⟩
    · have y := x4 s (by omega)
      unfold LI LV at y ⊢
      rw [row (170 + s) (by omega) (by omega), row (190 + s) (by omega) (by omega)]; exact y
  · by_cases w : s = n
    · subst w; exact Or.inr ⟨z170 2, z170 3⟩
    · exact Or.inl (by rw [row (170 + s) (by omega) (by omega)]; exact ⟨rfl, rfl⟩)
  · by_cases w : j = n
    · subst w
      refine Or.inr ⟨by omega, ?_⟩
      rw [g3 (70 + j) (by omega) (by omega) (by omega) (by omega) (by omega)]
      unfold lsu
      rw [if_neg (by omega), if_pos (by omega)]
      rfl
    · exact Or.inl (by rw [f3 (70 + j) (by omega) (by omega) (by omega) (by omega) (by omega) (by omega) (by omega)])
  · refine alk_cgE (by omega) (fun j a b => I.off j a (by omega)) (by rw [cC]; exact cs.2.2.2.2.2.1) (fun j hj => ?_) (fun j hj => (e4 j (by omega)).2.2.2) (fun x y _ _ => lossE_cg (fun k hk => by rw [lo k (by omega)]; exact ⟨rfl, rfl⟩) (lo 3 (by decide))) (I.al z)
    have w := e4 j (by omega)
    exact ⟨w.1, w.2.1, w.2.2.1⟩
theorem Pic.w420 (P : Pic G A B S h) (I : IV S c) (v1 : vp_in (i + 1) N) (v2 : vp_in (i + 2) N) (v3 : vp_in (i + 3) N) (v4 : vp_in (i + 4) N) (hu : uc + 70 ≤ 603072) (hv : us + 48 * c + 260 ≤ 7219306) (q : CK G (A 0) (A 80) (A 90) (A 91) c uc us J) : wp_law_420 G N xs (A 0) (A 80) (A 90) (A 91) i h uc us J := by
  obtain ⟨z1, e1, r1⟩ := ii_ex (xs (Int32.toNatClampNeg (i + 1)))
  obtain ⟨z2, e2, r2⟩ := ii_ex (xs (Int32.toNatClampNeg (i + 2)))
  obtain ⟨z3, e3, r3⟩ := ii_ex (xs (Int32.toNatClampNeg (i + 3)))
  unfold wp_law_420
  rw [e1, e2, e3]
  generalize xs (Int32.toNatClampNeg (i + 4)) = y
  refine ⟨v1, v2, v3, v4, fun J1 hJ1 => ?_⟩
  have sel : ∀ {K : Nat → Int32 → Int32 → Int32 → Int32 → Prop} {p : Nat} {b : Bool}, (y = 0 ↔ b = false) → K p (ii z1) (ii z2) (ii z3) (ii (bI b)) → ((y = 0 → K p (ii z1) (ii z2) (ii z3) 0) ∧ (¬ y = 0 → K p (ii z1) (ii z2) (ii z3) 1)) := fun {K p b} hb fin => by
    cases b with
    | false => exact ⟨fun _ => by rw [show ii (bI false) = 0 by decide] at fin; exact fin, fun z => absurd (hb.mpr rfl) z⟩
    | true => exact ⟨fun z => (by have := hb.mp z; cases this), fun _ => by rw [show ii (bI true) = 1 by decide] at fin; exact fin⟩
  have i3 := I.n3
  have i4 := I.n4
  have si : ∀ z, siM S z ↔ vsi S z := fun z => by unfold siM vsi; rw [i3]
  have go : ∀ b : Bool, (y = 0 ↔ b = false) → J1 (A 0) (ii z1) (ii z2) (ii z3) (ii (bI b)) := fun f hf => by
    apply hJ1
    refine ⟨by omega, by omega, P.o (k := 0) rfl, ?_⟩
    have b8 := I.ki.1.1.2
    refine P.c_addStation I.ki I.l3 r1 r2 r3 (f := f) (fun a b d p s A1 h1 P1 x k1 => ?_) (fun a => ?_) (fun a b d => ?_) (fun a b d p s => ?_)
    · obtain ⟨x0, x80, x90, x91⟩ := x
      have vr : rg (S 51 2) := ⟨by omega, by omega⟩
      rw [← x90, ← x80]
      refine P1.out vr (fun h2 P2 => ⟨v1, v2, v3, v4, fun J2 hJ2 => sel hf (hJ2 _ _ _ _ _ ?_)⟩)
      obtain ⟨S2, hS2⟩ : ∃ S2, S2 = su (lsu S 51 70 (statR (S 51 2) z1 z2 z3 (bI f))) 90 0 (S 51 2) := ⟨_, rfl⟩
      rw [← hS2] at P2
      obtain ⟨n, en⟩ : ∃ n : Nat, S 51 2 = (n : Int) := ⟨(S 51 2).toNat, by omega⟩
      have hn : n < 8 := by omega
      have e2 : ∀ k, k ≠ 90 → S2 k = lsu S 51 70 (statR (S 51 2) z1 z2 z3 (bI f)) k := fun k x => by rw [hS2, su_row _ _ x]
      have f2 : ∀ k, k ≠ 90 → k ≠ 51 → k ≠ 70 + n → S2 k = S k := fun k y z w => by rw [e2 k y, lsu_k z (by omega)]
      have s804 : S2 80 4 = S 51 2 := by rw [f2 80 (by decide) (by decide) (by omega)]; exact i4
      obtain ⟨mo2, eM2, eN2⟩ := I.mo.of (S' := S2) (fun k hk => f2 k (by omega) (by omega) (by omega))
      obtain ⟨x1, x2, x3, x4⟩ := I.rgm
      have row : ∀ k, 170 ≤ k → S2 k = S k := fun k hk => f2 k (by omega) (by omega) (by omega)
      have s81 : S2 81 = S 81 := f2 81 (by decide) (by decide) (by omega)
      have s512 : S2 51 2 = S 51 2 + 1 := by rw [e2 51 (by decide), lsu_2]
      have rg2 : RG S2 := ⟨by rw [s81, s804, x1, i4], by rw [s81]; exact x2, ⟨by rw [f2 50 (by decide) (by decide) (by omega)]; exact x3.1, by omega⟩, fun s hs => by
        rw [s81] at hs
        have w := x4 s hs
        unfold LI LV at w ⊢
        rw [row (170 + s) (by omega), row (190 + s) (by omega)]; exact w⟩
      have si2 : ∀ z, siM S2 z ↔ vsi S z := fun z => by unfold siM vsi; rw [f2 80 (by decide) (by decide) (by omega), i3]
      refine ⟨by omega, by omega, P2.o (k := 80) rfl, ?_⟩
      refine P2.m_addStation mo2 rg2 r1 r2 r3 (f := f) (fun _ _ _ _ _ A3 h3 P3 y3 => ?_) (fun a' => absurd ⟨(si2 _).mpr a, (si2 _).mpr b⟩ a') (fun _ _ d' => absurd ⟨d, p⟩ d') (fun _ _ _ _ s' => by omega)
      obtain ⟨y0, y80, y90, y91⟩ := y3
      rw [s804] at P3 ⊢
      have et : (S 51 2).toNat = n := by omega
      rw [et] at P3
      obtain ⟨S5, hS5⟩ : ∃ S5, S5 = su (su (su (su (su S2 80 0 0) 109 n z1) 110 n z2) 111 n z3) 112 n (bI f) := ⟨_, rfl⟩
      rw [← hS5] at P3
      have f5 : ∀ k, k ≠ 80 → (k < 109 ∨ 112 < k) → S5 k = S2 k := fun k x y => by rw [hS5, su_row _ _ (by omega), su_row _ _ (by omega), su_row _ _ (by omega), su_row _ _ (by omega), su_row _ _ x]
      have t81 : (S5 81 2).toNat = n := by rw [f5 81 (by decide) (by decide), s81, x1, i4]; omega
      obtain ⟨S3, hS3⟩ : ∃ S3, S3 = su (lsu S5 81 170 (fun _ => 0)) 80 4 (S 51 2 + 1) := ⟨_, rfl⟩
      rw [← hS3] at P3
      have g3 : ∀ k, k ≠ 80 → k ≠ 81 → k ≠ 170 + n → S3 k = S5 k := fun k x y z => by rw [hS3, su_row _ _ x, lsu_k y (by omega)]
      have g80 : ∀ i, i ≠ 4 → S3 80 i = S5 80 i := fun i hi => by rw [hS3, su_nei _ _ _ hi, lsu_k (by decide) (by omega)]
      have q5 : ∀ k, 109 ≤ k → k ≤ 112 → su S2 80 0 0 k = S k := fun k a b => by rw [su_row _ _ (by omega), f2 k (by omega) (by omega) (by omega)]
      have I3 : IV S3 c := ivStat I (z1 := z1) (z2 := z2) (z3 := z3) (z4 := bI f) en hn (fun k a1 a2 a3 a4 a5 => by rw [g3 k a2 a4 a5, f5 k a2 a3, e2 k a1]) (fun i hi h4 => by rw [g80 i h4, hS5, su_row _ _ (by decide), su_row _ _ (by decide), su_row _ _ (by decide), su_row _ _ (by decide), su_nei _ _ _ hi, f2 80 (by decide) (by decide) (by omega)]) (by rw [hS3, su_at]) (by rw [g3 109 (by decide) (by decide) (by omega), hS5, su_row _ _ (by decide), su_row _ _ (by decide), su_row _ _ (by decide), su_up, q5 109 (by decide) (by decide)]) (by rw [g3 110 (by decide) (by decide) (by omega), hS5, su_row _ _ (by decide), su_row _ _ (by decide), su_up, su_row _ _ (by decide), q5 110 (by decide) (by decide)]) (by rw [g3 111 (by decide) (by decide) (by omega), hS5, su_row _ _ (by decide), su_up, su_row _ _ (by decide), su_row _ _ (by decide), q5 111 (by decide) (by decide)]) (by rw [g3 112 (by decide) (by decide) (by omega), hS5, su_up, su_row _ _ (by decide), su_row _ _ (by decide), su_row _ _ (by decide), q5 112 (by decide) (by decide)]) (by rw [hS3, su_row _ _ (by decide), lsu_2, f5 81 (by decide) (by decide), s81, x1, i4]) (by rw [hS3, su_row _ _ (by decide), lsu_3]) (by
        funext j
        rw [hS3, su_row _ _ (by omega)]
        unfold lsu
        rw [if_neg (by omega), if_pos (by omega)]) (k1.of (fun k kk => by rw [g3 k (by unfold kl at kk; omega) (by unfold kl at kk; omega) (by unfold kl at kk; omega), f5 k (by unfold kl at kk; omega) (by unfold kl at kk; omega), e2 k (by unfold kl at kk; omega)]) (by rw [g3 31 (by decide) (by decide) (by omega), f5 31 (by decide) (by decide), e2 31 (by decide)]))
      rw [← y90, ← y80]
      exact P3.tlJ (by rw [g80 0 (by decide), hS5, su_row _ _ (by decide), su_row _ _ (by decide), su_row _ _ (by decide), su_row _ _ (by decide), su_at]) vr (by rw [g3 90 (by decide) (by decide) (by omega), f5 90 (by decide) (by decide), hS2, su_at]) (q A3 B S3 h3 _ _ P3 ⟨y0.trans x0, y80.trans x80, y90.trans x90, y91.trans x91⟩ I3.nx (by omega) (by omega))
    · refine ⟨fun z => absurd z (by decide), fun z => absurd z (by decide), fun _ => ⟨v1, v2, v3, v4, fun J2 hJ2 => sel hf (hJ2 _ _ _ _ _ ⟨by omega, by omega, P.o (k := 80) rfl, ?_⟩)⟩, Or.inr (Or.inr rfl)⟩
      exact P.m_addStation I.mo I.rgm r1 r2 r3 (f := f) (fun a' b' => absurd ⟨(si _).mp a', (si _).mp b'⟩ a) (fun _ h3 P3 => P3.endX I (Or.inl rfl) il_1 q (by omega) (by omega)) (fun a' b' => absurd ⟨(si _).mp a', (si _).mp b'⟩ a) (fun a' b' => absurd ⟨(si _).mp a', (si _).mp b'⟩ a)
    · refine ⟨fun _ => ⟨v1, v2, v3, v4, fun J2 hJ2 => sel hf (hJ2 _ _ _ _ _ ⟨by omega, by omega, P.o (k := 80) rfl, ?_⟩)⟩, fun z => absurd z (by decide), fun z => absurd z (by decide), Or.inl rfl⟩
      exact P.m_addStation I.mo I.rgm r1 r2 r3 (f := f) (fun _ _ d' p' => absurd ⟨d', p'⟩ d) (fun a' => absurd ⟨(si _).mpr a, (si _).mpr b⟩ a') (fun _ _ _ h3 P3 => P3.endX I (Or.inr (Or.inl rfl)) il_2 q (by omega) (by omega)) (fun _ _ d' p' => absurd ⟨d', p'⟩ d)
    · refine ⟨fun z => absurd z (by decide), fun _ => ⟨v1, v2, v3, v4, fun J2 hJ2 => sel hf (hJ2 _ _ _ _ _ ⟨by omega, by omega, P.o (k := 80) rfl, ?_⟩)⟩, fun z => absurd z (by decide), Or.inr (Or.inl rfl)⟩
      exact P.m_addStation I.mo I.rgm r1 r2 r3 (f := f) (fun _ _ _ _ s' => by omega) (fun a' => absurd ⟨(si _).mpr a, (si _).mpr b⟩ a') (fun _ _ d' => absurd ⟨d, p⟩ d') (fun _ _ _ _ _ h3 P3 => P3.endX I (Or.inr (Or.inr (Or.inl rfl))) il_3 q (by omega) (by omega))
  by_cases z : y = 0
  · exact sel (b := false) ⟨fun _ => rfl, fun _ => z⟩ (go false ⟨fun _ => rfl, fun _ => z⟩)
  · exact sel (b := true) ⟨fun w => absurd w z, fun w => by cases w⟩ (go true ⟨fun w => absurd w z, fun w => by cases w⟩)
end LWK
