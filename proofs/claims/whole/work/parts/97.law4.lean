/-! the law: the day goes on; what harms -/
theorem IV.go {S S' : Nat → Nat → Int} {c : Nat} (I : IV S c) (hc : c ≤ 511) {d : Int} (hd : 1 ≤ d ∧ d ≤ 99) (h : ∀ k, k ≠ 3 → ¬ scr k → S' k = S k) (h31 : S' 3 1 = S 3 1 + d) (h801 : S' 80 1 = S 3 1 + d) (h80 : ∀ i, i ≠ 0 → i ≠ 1 → S' 80 i = S 80 i) (pl : PL S') (c39 : chs (S' 39)) (c49 : chs (S' 49)) : IV S' (c + 1) := by
  have s31 := I.ri.2.2.2.2.2.1
  have e : ∀ k, k < 39 → k ≠ 5 → k ≠ 3 → S' k = S k := fun k a b w => h k w (fun z => by unfold scr at z; omega)
  have e4 : ∀ k, 42 ≤ k → k < 80 → k ≠ 49 → S' k = S k := fun k a b d => h k (by omega) (fun z => by unfold scr at z; omega)
  have e8 : ∀ k, 92 ≤ k → (k < 130 ∨ 136 ≤ k) → S' k = S k := fun k a b => h k (by omega) (fun z => by unfold scr at z; omega)
  have e81 : S' 81 = S 81 := h 81 (by decide) (fun z => by unfold scr at z; omega)
  have ek : ∀ k, kl k → S' k = S k := fun k hk => h k (by unfold kl at hk; omega) (fun z => by unfold scr at z; unfold kl at hk; omega)
  have eC : EC S' = EC S := EC_of ek
  have eM : EM S' = EM S := by
    funext k i
    unfold EM
    rw [e8 106 (by decide) (by decide), e8 107 (by decide) (by decide), e8 108 (by decide) (by decide), e8 105 (by decide) (by decide), e8 109 (by decide) (by decide), e8 110 (by decide) (by decide), e8 111 (by decide) (by decide), e8 112 (by decide) (by decide), h80 2 (by decide) (by decide), h80 3 (by decide) (by decide), h80 4 (by decide) (by decide)]
  have eN : ntM S' = ntM S := by unfold ntM; rw [h80 4 (by decide) (by decide)]
  have eL : ∀ j d, LC S' j d = LC S j d := fun j d => by unfold LC; rw [e 33 (by decide) (by decide) (by decide), e 34 (by decide) (by decide) (by decide), e 35 (by decide) (by decide) (by decide)]
  exact mkIV
    (xki := I.ki.of ek (e 31 (by decide) (by decide) (by decide)))
    (xdg := fun a ha => by rw [e 31 (by decide) (by decide) (by decide)]; exact I.dg a ha)
    (xl3 := by unfold L3; rw [e4 50 (by decide) (by decide) (by decide), e4 51 (by decide) (by decide) (by decide), e81]; exact I.l3)
    (xri := ⟨fun s hs => by
      have := I.ri.1 s hs; have r := I.rsz s hs
      rw [e 33 (by decide) (by decide) (by decide)]
      exact ⟨this.1, by omega, fun _ _ => by omega⟩, fun i => by
      have := I.ri.2.1 i
      rw [e 34 (by decide) (by decide) (by decide), h31]; omega, fun i => by rw [e 35 (by decide) (by decide) (by decide)]; exact I.ri.2.2.1 i, by rw [e 32 (by decide) (by decide) (by decide)]; exact I.ri.2.2.2.1, fun s hs w hw5 => by
      rw [eL, e 32 (by decide) (by decide) (by decide)]; exact I.ri.2.2.2.2.1 s hs w (by omega), by rw [h31]; omega, fun i hi => by rw [e 32 (by decide) (by decide) (by decide)]; exact I.ri.2.2.2.2.2.2 i hi⟩)
    (xrsz := fun s hs => by rw [e 33 (by decide) (by decide) (by decide)]; have := I.rsz s hs; omega)
    (xeE := by rw [eM, eC]; exact I.eE)
    (xday := by rw [h801, h31])
    (xnow := fun j hj => by rw [e8 113 (by decide) (by decide), e 32 (by decide) (by decide) (by decide)]; exact I.now j hj)
    (xreg := fun j hj d => by
      rw [eN] at hj
      have := (ntM_8 (S := S) ⟨by rw [I.eE]; exact I.ki.1.2.1, fun j hj => by rw [I.now j hj]; exact I.ri.2.2.2.1 j⟩).1
      rw [LM_of (e8 (170 + j) (by omega) (by omega)) (e8 (190 + j) (by omega) (by omega)), eL]; exact I.reg j hj d)
    (xrgm := I.rgm.of (fun k hk => by
      rcases hk with hk | hk | hk | hk
      · exact e4 k (by omega) (by omega) (by omega)
      · exact e4 k (by omega) (by omega) (by omega)
      · rw [hk]; exact e81
      · exact e8 k (by omega) (by omega)) (h80 4 (by decide) (by decide)))
    (xsz := fun s hs => by rw [e8 (170 + s) (by omega) (by omega)]; have := I.sz s hs; omega)
    (xask := fun j hj => by rw [e8 114 (by decide) (by decide), e4 (70 + j) (by omega) (by omega) (by omega)]; exact I.ask j hj)
    (xbr := by
      have b := I.br
      unfold BR at b ⊢; rw [e 36 (by decide) (by decide) (by decide), e 37 (by decide) (by decide) (by decide), e 38 (by decide) (by decide) (by decide), h31]; exact ⟨b.1, fun i hi => by have := b.2.1 i hi; omega, b.2.2.1, by omega, by omega⟩)
    (xbm := by
      have b := I.bm; have dy := I.day
      unfold BM at b ⊢; rw [e8 116 (by decide) (by decide), e8 117 (by decide) (by decide), e8 118 (by decide) (by decide), h801]; exact ⟨b.1, fun i hi => by have := b.2.1 i hi; omega, b.2.2.1, by omega, by omega⟩)
    (xb36 := fun i hi => by rw [e8 116 (by decide) (by decide), e 36 (by decide) (by decide) (by decide)]; exact I.b36 i hi)
    (xb37 := fun i hi => by rw [e8 117 (by decide) (by decide), e 37 (by decide) (by decide) (by decide)]; exact I.b37 i hi)
    (xb38 := fun i hi => by rw [e8 118 (by decide) (by decide), e 38 (by decide) (by decide) (by decide)]; exact I.b38 i hi)
    (xfa := by unfold FA; rw [e4 42 (by decide) (by decide) (by decide), e4 43 (by decide) (by decide) (by decide)]; exact I.fa)
    (xpr := fun j hj => by rw [e8 122 (by decide) (by decide), e4 42 (by decide) (by decide) (by decide)]; exact I.pr j hj)
    (xs61 := by rw [e 6 (by decide) (by decide) (by decide)]; exact I.s61)
    (xs62 := by rw [e 6 (by decide) (by decide) (by decide)]; exact I.s62)
    (xs63 := by rw [e 6 (by decide) (by decide) (by decide), eC]; exact I.s63)
    (xst := fun j hj => by rw [e8 123 (by decide) (by decide), e 6 (by decide) (by decide) (by decide)]; exact I.st j hj)
    (xs19 := by rw [h80 19 (by decide) (by decide), e 6 (by decide) (by decide) (by decide)]; exact I.s19)
    (xs20 := by rw [h80 20 (by decide) (by decide), e 6 (by decide) (by decide) (by decide)]; exact I.s20)
    (xs21 := by rw [h80 21 (by decide) (by decide), e 6 (by decide) (by decide) (by decide)]; exact I.s21)
    (xbd := by unfold BD; rw [e 7 (by decide) (by decide) (by decide), e4 46 (by decide) (by decide) (by decide)]; exact I.bd)
    (xfb := by unfold FB nB; rw [e4 44 (by decide) (by decide) (by decide), e4 45 (by decide) (by decide) (by decide), e4 46 (by decide) (by decide) (by decide), e 7 (by decide) (by decide) (by decide)]; exact I.fb)
    (xwr := by rw [e8 125 (by decide) (by decide), e4 46 (by decide) (by decide) (by decide)]; exact I.wr)
    (xgot := fun i hi => by rw [e8 126 (by decide) (by decide), e4 44 (by decide) (by decide) (by decide)]; exact I.got i hi)
    (xpay := fun i hi => by rw [e8 127 (by decide) (by decide), e4 45 (by decide) (by decide) (by decide)]; exact I.pay i hi)
    (xnb := by rw [h80 24 (by decide) (by decide), e 7 (by decide) (by decide) (by decide)]; exact I.nb)
    (xm1 := by rw [e 8 (by decide) (by decide) (by decide)]; exact I.m1)
    (xph := fun j hj => by rw [e8 129 (by decide) (by decide), e4 48 (by decide) (by decide) (by decide)]; exact I.ph j hj)
    (xdk := by rw [h80 28 (by decide) (by decide), e 8 (by decide) (by decide) (by decide)]; exact I.dk)
    (xal := by rw [e 8 (by decide) (by decide) (by decide), eC, e 32 (by decide) (by decide) (by decide)]; exact I.al)
    (xoff := fun j a b => by
      rw [eC] at a
      exact ⟨by rw [e 32 (by decide) (by decide) (by decide)]; exact (I.ofx j a b).1, by rw [e8 114 (by decide) (by decide)]; exact (I.ofx j a b).2.1, fun d => by rw [eL]; exact (I.ofx j a b).2.2 d⟩)
    (xpl := pl)
    (xc39 := c39)
    (xc49 := c49)
theorem hs_of {E : Nat → Nat → Int} {s : Nat} {ch ch' : Nat → Int} {n : Nat} (h : ∀ j, j < n ∨ j = s → ch j = ch' j) : hs E s ch n = hs E s ch' n := by
  induction n with
  | zero => rfl
  | succ n ih =>
    have e : nrm ch s n = nrm ch' s n := by unfold nrm; rw [h n (Or.inl (by omega)), h s (Or.inr rfl)]
    unfold hs
    rw [e, ih (fun j hj => h j (by omega)), h n (Or.inl (by omega)), h s (Or.inr rfl)]
section LW4
variable {G : Gx} {A : Nat → Nat} {B : Nat → Nat → Nat} {S : Nat → Nat → Int} {h : hw} {c : Nat}
variable {N : Nat} {xs : Nat → Int32} {i : Int32} {uc us : Nat} {J : hw → Nat → Nat → Prop}
theorem Pic.w640 (P : Pic G A B S h) (I : IV S c) (v1 : vp_in (i + 1) N) (hu : uc + 70 ≤ 603072) (hv : us + 48 * c + 260 ≤ 7219306) (q : CK G (A 0) (A 80) (A 90) (A 91) c uc us J) : wp_law_640 G N xs (A 0) (A 80) (A 90) (A 91) i h uc us J := by
  obtain ⟨z1, e1, r1⟩ := ii_ex (xs (Int32.toNatClampNeg (i + 1)))
  unfold wp_law_640
  rw [e1]
  refine ⟨v1, by omega, by omega, P.o (k := 0) rfl, ?_⟩
  have n4 := I.n4
  obtain ⟨h8, hn⟩ := nt8 I.ki
  have eN : ntM S = nt (EC S) := by unfold ntM; rw [n4, hn]; rfl
  have hh : ∀ v, v < 8 → hs (EM S) v (S 113) (ntM S) = hs (EC S) v (S 32) (nt (EC S)) := fun v hv => by rw [I.eE, eN]; exact hs_of (fun j hj => I.now j (by omega))
  have vi : ∀ z, inM S z ↔ vst S z := fun z => by unfold inM vst; rw [n4]
  refine P.c_harm I.ki I.ri.2.2.2.1 r1 (fun a b x hx => ?_) (fun a => ?_) (fun a b => ?_) (fun a b d => ?_)
  · have vn := vst_I I a
    have nw := I.now z1.toNat vn.2.1
    have xr := hs_le I.ki.1.2.1 _ _ _ x hx
    have xg : rg x := ⟨by omega, by omega⟩
    refine P.out xg (fun h2 P2 => ⟨v1, P2.o (k := 80) rfl, ?_⟩)
    have e113 : su S 90 0 x 113 = S 113 := su_row _ _ (by decide)
    have e9 : hs (EM (su S 90 0 x)) z1.toNat (su S 90 0 x 113) (ntM (su S 90 0 x)) = some x := by
      rw [e113, EM_9, show ntM (su S 90 0 x) = ntM S by unfold ntM; rw [su_ne _ _ _ (by decide)], hh _ vn.2.1]; exact hx
    refine P2.m_harm (I.s9 _).mo r1 (fun a' b' y hy h3 P3 => ?_) (fun a' => absurd (show inM (su S 90 0 _) z1 from ?_) a') (fun a' b' => absurd (by rw [e113, nw] at b'; exact b') b) (fun a' b' y => by rw [e9] at y; cases y)
    · rw [e9] at hy; cases hy
      exact P3.endJ I xg q (by omega) (by omega)
    · unfold inM; rw [su_ne _ _ _ (by decide), n4]; exact a
  · refine ⟨fun _ => ⟨v1, P.o (k := 80) rfl, ?_⟩, fun z => absurd z (by decide), fun z => absurd z (by decide), Or.inl rfl⟩
    exact P.m_harm I.mo r1 (fun a' => absurd ((vi _).mp a') a) (fun a' h3 P3 => P3.endX I (Or.inl rfl) il_1 q (by omega) (by omega)) (fun a' => absurd ((vi _).mp a') a) (fun a' => absurd ((vi _).mp a') a)
  · have vn := vst_I I a
    have nw := I.now z1.toNat vn.2.1
    refine ⟨fun z => absurd z (by decide), fun _ => ⟨v1, P.o (k := 80) rfl, ?_⟩, fun z => absurd z (by decide), Or.inr (Or.inl rfl)⟩
    exact P.m_harm I.mo r1 (fun a' b' => absurd (by rw [nw]; exact b) b') (fun a' => absurd ((vi _).mpr a) a') (fun a' b' h3 P3 => P3.endX I (Or.inr (Or.inl rfl)) il_2 q (by omega) (by omega)) (fun a' b' => absurd (by rw [nw]; exact b) b')
  · have vn := vst_I I a
    have nw := I.now z1.toNat vn.2.1
    refine ⟨fun z => absurd z (by decide), fun z => absurd z (by decide), fun _ => ⟨v1, P.o (k := 80) rfl, ?_⟩, Or.inr (Or.inr rfl)⟩
    exact P.m_harm I.mo r1 (fun a' b' y hy => by rw [hh _ vn.2.1, d] at hy; cases hy) (fun a' => absurd ((vi _).mpr a) a') (fun a' b' => absurd (by rw [nw] at b'; exact b') b) (fun a' b' y h3 P3 => P3.endX I (Or.inr (Or.inr (Or.inl rfl))) il_3 q (by omega) (by omega))
theorem Pic.w1359 (P : Pic G A B S h) (I : IV S c) (hc : c ≤ 511) (v1 : vp_in (i + 1) N) (hu : uc + 70 ≤ 603072) (hv : us + 48 * c + 260 ≤ 7219306) (q : CK G (A 0) (A 80) (A 90) (A 91) c uc us J) : wp_law_1359 G N xs (A 0) (A 80) (A 90) (A 91) i h uc us J := by
  obtain ⟨z1, e1, r1⟩ := ii_ex (xs (Int32.toNatClampNeg (i + 1)))
  unfold wp_law_1359
  rw [e1]
  refine ⟨v1, by omega, by omega, P.o (k := 0) rfl, ?_⟩
  have s31 := I.ri.2.2.2.2.2.1
  have s30 := I.br.2.2.2
  refine P.c_goOn r1 (fun a h1 P1 => ?_) (fun a => ?_)
  · have vr : rg (S 3 1 + z1) := ⟨by omega, by omega⟩
    refine P1.out vr (fun h2 P2 => ⟨v1, P2.o (k := 80) rfl, ?_⟩)
    have e80 : su (su S 3 1 (S 3 1 + z1)) 90 0 (S 3 1 + z1) 80 = S 80 := by rw [su_row _ _ (by decide), su_row _ _ (by decide)]
    refine P2.m_goOn r1 (fun a' h3 P3 => ?_) (fun a' => absurd a a')
    rw [e80, I.day] at P3 ⊢
    refine P3.tlJ (by rw [su_nei _ _ _ (by decide), su_at]) vr (by rw [su_ne _ _ _ (by decide), su_ne _ _ _ (by decide), su_at]) (q A B _ h3 _ _ P3 ⟨rfl, rfl, rfl, rfl⟩ ?_ (by omega) (by omega))
    refine I.go hc a (fun k k3 hk => ?_) ?_ ?_ (fun i i0 i1 => ?_) (I.pl.of ?_ ?_) ?_ ?_
    · rw [su_row _ _ (fun z => hk (by unfold scr; omega)), su_row _ _ (fun z => hk (by unfold scr; omega)), su_row _ _ (fun z => hk (by unfold scr; omega)), su_row _ _ k3]
    · rw [su_ne _ _ _ (by decide), su_ne _ _ _ (by decide), su_ne _ _ _ (by decide), su_at]
    · rw [su_at]
    · rw [su_nei _ _ _ i1, su_nei _ _ _ i0, e80]
    · rw [su_row _ _ (by decide), su_row _ _ (by decide), su_row _ _ (by decide), su_row _ _ (by decide)]
    · rw [su_row _ _ (by decide), su_row _ _ (by decide), su_row _ _ (by decide), su_row _ _ (by decide)]
    · rw [su_row _ _ (by decide), su_row _ _ (by decide), su_row _ _ (by decide), su_row _ _ (by decide)]; exact I.c39
    · rw [su_row _ _ (by decide), su_row _ _ (by decide), su_row _ _ (by decide), su_row _ _ (by decide)]; exact I.c49
  · refine ⟨fun _ => ⟨v1, P.o (k := 80) rfl, ?_⟩, rfl⟩
    exact P.m_goOn r1 (fun a' => absurd a' a) (fun a' h3 P3 => P3.endX I (Or.inl rfl) il_1 q (by omega) (by omega))
end LW4
