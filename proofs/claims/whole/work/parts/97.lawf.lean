/-! the law: asks -/
theorem IV.as {S S' : Nat → Nat → Int} {c : Nat} (I : IV S c) (h : ∀ k, ¬ (k = 70 ∨ k = 71 ∨ k = 72 ∨ k = 73 ∨ k = 74 ∨ k = 75 ∨ k = 76 ∨ k = 77 ∨ k = 114) → ¬ scr k → S' k = S k) (h80 : ∀ i, i ≠ 0 → S' 80 i = S 80 i) (pl : PL S') (c39 : chs (S' 39)) (c49 : chs (S' 49)) (h7 : ∀ j, j < 8 → ∀ i, i ≠ 5 → S' (70 + j) i = S (70 + j) i) (ask : ∀ j, j < 8 → S' 114 j = S' (70 + j) 5 ∧ 0 ≤ S' 114 j ∧ S' 114 j ≤ 9999) (h114 : ∀ j, nt (EC S) ≤ j → j < 8 → S' 114 j = 0) : IV S' c := by
  have e : ∀ k, k < 39 → (k ≠ 5 ∧ k ≠ 1000) → S' k = S k := fun k a b => h k (by omega) (fun z => by unfold scr at z; omega)
  have e4 : ∀ k, 42 ≤ k → k < 80 → (k ≠ 49 ∧ k ≠ 70 ∧ k ≠ 71 ∧ k ≠ 72 ∧ k ≠ 73 ∧ k ≠ 74 ∧ k ≠ 75 ∧ k ≠ 76 ∧ k ≠ 77) → S' k = S k := fun k a b d => h k (by omega) (fun z => by unfold scr at z; omega)
  have e8 : ∀ k, 92 ≤ k → ((k < 130 ∨ 136 ≤ k) ∧ k ≠ 114) → S' k = S k := fun k a b => h k (by omega) (fun z => by unfold scr at z; omega)
  have e81 : S' 81 = S 81 := h 81 (by decide) (fun z => by unfold scr at z; omega)
  have eC : EC S' = EC S := by
    funext k i
    have e6 : ∀ j, j < 10 → S' (60 + j) = S (60 + j) := fun j hj => e4 _ (by omega) (by omega) (by omega)
    unfold EC
    by_cases q : i < 8
    · rw [h7 i q 1 (by decide), h7 i q 2 (by decide), h7 i q 3 (by decide), h7 i q 4 (by decide), e 30 (by decide) (by decide), e 1 (by decide) (by decide), e4 51 (by decide) (by decide) (by decide), e4 50 (by decide) (by decide) (by decide), e6 i (by omega)]
    · by_cases q2 : i < 10
      · simp only [q, if_false]
        rw [e 30 (by decide) (by decide), e 1 (by decide) (by decide), e4 51 (by decide) (by decide) (by decide), e4 50 (by decide) (by decide) (by decide), e6 i q2]
      · simp only [q, q2, if_false]
        rw [e 30 (by decide) (by decide), e 1 (by decide) (by decide), e4 51 (by decide) (by decide) (by decide), e4 50 (by decide) (by decide) (by decide)]
  have eM : EM S' = EM S := by
    funext k i
    unfold EM
    rw [e8 106 (by decide) (by decide), e8 107 (by decide) (by decide), e8 108 (by decide) (by decide), e8 105 (by decide) (by decide), e8 109 (by decide) (by decide), e8 110 (by decide) (by decide), e8 111 (by decide) (by decide), e8 112 (by decide) (by decide), h80 2 (by decide), h80 3 (by decide), h80 4 (by decide)]
  have eN : ntM S' = ntM S := by unfold ntM; rw [h80 4 (by decide)]
  have kgE : ∀ k, kg k → S' k = S k := fun k hk => e k (by unfold kg at hk; omega) (by unfold kg at hk; omega)
  exact mkIV
    (xki := ⟨⟨by
      have := I.ki.1.1
      unfold LOK at this ⊢
      rw [e4 50 (by decide) (by decide) (by decide), e4 51 (by decide) (by decide) (by decide)]; exact this, by rw [eC]; exact I.ki.1.2.1, fun j hj => by
      have h8 := I.ki.1.1.2.2.1
      rw [e4 51 (by decide) (by decide) (by decide)] at hj
      rw [h7 j (by omega) 0 (by decide)]; exact I.ki.1.2.2 j hj⟩, fun a b ha hb => by
      rw [e4 50 (by decide) (by decide) (by decide)] at ha hb
      rw [e 31 (by decide) (by decide), eC]; exact I.ki.2 a b ha hb⟩)
    (xdg := fun a ha => by rw [e 31 (by decide) (by decide)]; exact I.dg a ha)
    (xl3 := by unfold L3; rw [e4 50 (by decide) (by decide) (by decide), e4 51 (by decide) (by decide) (by decide), e81]; exact I.l3)
    (xri := I.ri.of kgE)
    (xrsz := fun s hs => by rw [e 33 (by decide) (by decide)]; exact I.rsz s hs)
    (xeE := by rw [eM, eC]; exact I.eE)
    (xday := by rw [h80 1 (by decide), e 3 (by decide) (by decide)]; exact I.day)
    (xnow := fun j hj => by rw [e8 113 (by decide) (by decide), e 32 (by decide) (by decide)]; exact I.now j hj)
    (xreg := fun j hj d => by
      rw [eN] at hj
      have := (ntM_8 (S := S) ⟨by rw [I.eE]; exact I.ki.1.2.1, fun j hj => by rw [I.now j hj]; exact I.ri.2.2.2.1 j⟩).1
      rw [LM_of (e8 (170 + j) (by omega) (by omega)) (e8 (190 + j) (by omega) (by omega)), LC_of kgE]; exact I.reg j hj d)
    (xrgm := I.rgm.of (fun k hk => by
      rcases hk with hk | hk | hk | hk
      · exact e4 k (by omega) (by omega) (by omega)
      · exact e4 k (by omega) (by omega) (by omega)
      · rw [hk]; exact e81
      · exact e8 k (by omega) (by omega)) (h80 4 (by decide)))
    (xsz := fun s hs => by rw [e8 (170 + s) (by omega) (by omega)]; exact I.sz s hs)
    (xask := ask)
    (xbr := by unfold BR; rw [e 36 (by decide) (by decide), e 37 (by decide) (by decide), e 38 (by decide) (by decide), e 3 (by decide) (by decide)]; exact I.br)
    (xbm := by unfold BM; rw [e8 116 (by decide) (by decide), e8 117 (by decide) (by decide), e8 118 (by decide) (by decide), h80 1 (by decide)]; exact I.bm)
    (xb36 := fun i hi => by rw [e8 116 (by decide) (by decide), e 36 (by decide) (by decide)]; exact I.b36 i hi)
    (xb37 := fun i hi => by rw [e8 117 (by decide) (by decide), e 37 (by decide) (by decide)]; exact I.b37 i hi)
    (xb38 := fun i hi => by rw [e8 118 (by decide) (by decide), e 38 (by decide) (by decide)]; exact I.b38 i hi)
    (xfa := by unfold FA; rw [e4 42 (by decide) (by decide) (by decide), e4 43 (by decide) (by decide) (by decide)]; exact I.fa)
    (xpr := fun j hj => by rw [e8 122 (by decide) (by decide), e4 42 (by decide) (by decide) (by decide)]; exact I.pr j hj)
    (xs61 := by rw [e 6 (by decide) (by decide)]; exact I.s61)
    (xs62 := by rw [e 6 (by decide) (by decide)]; exact I.s62)
    (xs63 := by rw [e 6 (by decide) (by decide), eC]; exact I.s63)
    (xst := fun j hj => by rw [e8 123 (by decide) (by decide), e 6 (by decide) (by decide)]; exact I.st j hj)
    (xs19 := by rw [h80 19 (by decide), e 6 (by decide) (by decide)]; exact I.s19)
    (xs20 := by rw [h80 20 (by decide), e 6 (by decide) (by decide)]; exact I.s20)
    (xs21 := by rw [h80 21 (by decide), e 6 (by decide) (by decide)]; exact I.s21)
    (xbd := by unfold BD; rw [e 7 (by decide) (by decide), e4 46 (by decide) (by decide) (by decide)]; exact I.bd)
    (xfb := by unfold FB nB; rw [e4 44 (by decide) (by decide) (by decide), e4 45 (by decide) (by decide) (by decide), e4 46 (by decide) (by decide) (by decide), e 7 (by decide) (by decide)]; exact I.fb)
    (xwr := by rw [e8 125 (by decide) (by decide), e4 46 (by decide) (by decide) (by decide)]; exact I.wr)
    (xgot := fun i hi => by rw [e8 126 (by decide) (by decide), e4 44 (by decide) (by decide) (by decide)]; exact I.got i hi)
    (xpay := fun i hi => by rw [e8 127 (by decide) (by decide), e4 45 (by decide) (by decide) (by decide)]; exact I.pay i hi)
    (xnb := by rw [h80 24 (by decide), e 7 (by decide) (by decide)]; exact I.nb)
    (xm1 := by rw [e 8 (by decide) (by decide)]; exact I.m1)
    (xph := fun j hj => by rw [e8 129 (by decide) (by decide), e4 48 (by decide) (by decide) (by decide)]; exact I.ph j hj)
    (xdk := by rw [h80 28 (by decide), e 8 (by decide) (by decide)]; exact I.dk)
    (xal := by rw [e 8 (by decide) (by decide), eC, e 32 (by decide) (by decide)]; exact I.al)
    (xoff := fun j a b => by
      rw [eC] at a
      exact ⟨by rw [e 32 (by decide) (by decide)]; exact (I.ofx j a b).1, h114 j a b, fun d => by rw [LC_of kgE]; exact (I.ofx j a b).2.2 d⟩)
    (xpl := pl)
    (xc39 := c39)
    (xc49 := c49)
section LWF
variable {G : Gx} {A : Nat → Nat} {B : Nat → Nat → Nat} {S : Nat → Nat → Int} {h : hw} {c : Nat}
variable {N : Nat} {xs : Nat → Int32} {i : Int32} {uc us : Nat} {J : hw → Nat → Nat → Prop}
theorem Pic.w1546 (P : Pic G A B S h) (I : IV S c) (v1 : vp_in (i + 1) N) (v2 : vp_in (i + 2) N) (hu : uc + 70 ≤ 603072) (hv : us + 48 * c + 260 ≤ 7219306) (q : CK G (A 0) (A 80) (A 90) (A 91) c uc us J) : wp_law_1546 G N xs (A 0) (A 80) (A 90) (A 91) i h uc us J := by
  obtain ⟨z1, e1, r1⟩ := ii_ex (xs (Int32.toNatClampNeg (i + 1)))
  obtain ⟨z2, e2, r2⟩ := ii_ex (xs (Int32.toNatClampNeg (i + 2)))
  unfold wp_law_1546
  rw [e1, e2]
  refine ⟨v1, v2, by omega, by omega, P.o (k := 0) rfl, ?_⟩
  have n4 := I.n4
  have vi : ∀ z, inM S z ↔ vst S z := fun z => by unfold inM vst; rw [n4]
  refine P.c_setAsked I.ki r1 r2 (fun a b h1 P1 => ?_) (fun a => ?_) (fun a b => ?_)
  · have vn := vst_I I a
    obtain ⟨v, ev⟩ : ∃ v, v = z1.toNat := ⟨_, rfl⟩
    rw [← ev] at P1 vn ⊢
    have ak := I.ask v vn.2.1
    have vr : rg (S (70 + v) 5) := ⟨by omega, by omega⟩
    refine P1.out vr (fun h2 P2 => ⟨v1, v2, P2.o (k := 80) rfl, ?_⟩)
    obtain ⟨S2, hS2⟩ : ∃ S2, S2 = su (su S (70 + v) 5 z2) 90 0 (S (70 + v) 5) := ⟨_, rfl⟩
    rw [← hS2] at P2
    have f2 : ∀ k, k ≠ 70 + v → k ≠ 90 → S2 k = S k := fun k x w => by rw [hS2, su_row _ _ w, su_row _ _ x]
    have mo2 : MO S2 := (I.mo.of (S' := S2) (fun k hk => f2 k (by omega) (by omega))).1
    have i2 : ∀ z, inM S2 z ↔ vst S z := fun z => by unfold inM vst; rw [f2 80 (by omega) (by decide), n4]
    refine P2.m_setAsked mo2 r1 r2 (fun _ _ h3 P3 => ?_) (fun a' => absurd ((i2 _).mpr a) a') (fun _ b' => absurd b b')
    rw [← ev] at P3 ⊢
    rw [show S2 114 v = S (70 + v) 5 by rw [f2 114 (by omega) (by decide)]; exact ak.1]
    have f3 : ∀ k, k ≠ 70 + v → k ≠ 90 → k ≠ 80 → k ≠ 114 → su (su S2 80 0 0) 114 v z2 k = S k := fun k x w y z => by rw [su_row _ _ z, su_row _ _ y, f2 k x w]
    have e7 : ∀ j, j < 8 → su (su S2 80 0 0) 114 v z2 (70 + j) = su S (70 + v) 5 z2 (70 + j) := fun j hj => by rw [su_row _ _ (by omega), su_row _ _ (by omega), hS2, su_row _ _ (by omega)]
    refine P3.tlJ (by rw [su_ne _ _ _ (by decide), su_at]) vr (by rw [su_ne _ _ _ (by decide), su_ne _ _ _ (by decide), hS2, su_at]) (q A B _ h3 _ _ P3 ⟨rfl, rfl, rfl, rfl⟩ (IV.nx (I.as (fun k hk hs => f3 k (fun z => hk (by omega)) (fun z => hs (by unfold scr; omega)) (fun z => hs (by unfold scr; omega)) (fun z => hk (by omega))) (fun i hi => by rw [su_ne _ _ _ (by decide), su_nei _ _ _ hi, f2 80 (by omega) (by decide)]) (I.pl.of (f3 130 (by omega) (by decide) (by decide) (by decide)) (f3 131 (by omega) (by decide) (by decide) (by decide))) (by rw [f3 39 (by omega) (by decide) (by decide) (by decide)]; exact I.c39) (by rw [f3 49 (by omega) (by decide) (by decide) (by decide)]; exact I.c49) (fun j hj i hi => by rw [e7 j hj, su_nei _ _ _ hi]) (fun j hj => ?_) (fun j ha hb => ?_))) (by omega) (by omega))
    rotate_left
    · rw [su_nei _ _ _ (show j ≠ v by omega), su_ne (k := 80) (k' := 114) _ _ _ (by decide), f2 114 (by omega) (by decide)]
      exact (I.ofx j ha hb).2.1
    rw [e7 j hj]
    by_cases w : j = v
    · subst w; rw [su_at, su_at]; exact ⟨rfl, b.1, b.2⟩
    · rw [su_nei _ _ _ w, su_ne (k := 80) (k' := 114) _ _ _ (by decide), f2 114 (by omega) (by decide), su_ne (k := 70 + v) (k' := 70 + j) _ _ _ (by omega)]
      exact I.ask j hj
  · refine ⟨fun z => absurd z (by decide), fun _ => ⟨v1, v2, P.o (k := 80) rfl, ?_⟩, Or.inr rfl⟩
    exact P.m_setAsked I.mo r1 r2 (fun a' => absurd ((vi _).mp a') a) (fun a' h3 P3 => P3.endX I (Or.inl rfl) il_1 q (by omega) (by omega)) (fun a' => absurd ((vi _).mp a') a)
  · refine ⟨fun _ => ⟨v1, v2, P.o (k := 80) rfl, ?_⟩, fun z => absurd z (by decide), Or.inl rfl⟩
    exact P.m_setAsked I.mo r1 r2 (fun _ b' => absurd b' b) (fun a' => absurd ((vi _).mpr a) a') (fun _ _ h3 P3 => P3.endX I (Or.inr (Or.inl rfl)) il_2 q (by omega) (by omega))
end LWF
