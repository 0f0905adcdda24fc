/-! the law: buying -/
theorem IV.by {S S' : Nat → Nat → Int} {c : Nat} (I : IV S c) (h : ∀ k, ¬ (k = 7 ∨ k = 44 ∨ k = 45 ∨ k = 46 ∨ k = 47 ∨ k = 125 ∨ k = 126 ∨ k = 127) → ¬ scr k → S' k = S k) (h80 : ∀ i, i ≠ 0 → i ≠ 24 → S' 80 i = S 80 i) (pl : PL S') (c39 : chs (S' 39)) (c49 : chs (S' 49)) (bd : BD S') (fb : FB S') (wr : S' 125 = S' 46) (got : ∀ i, i < 4 → S' 126 i = S' 44 i) (pay : ∀ i, i < 4 → S' 127 i = S' 45 i) (nb : S' 80 24 = S' 7 2) : IV S' c := by
  have e : ∀ k, k < 39 → (k ≠ 5 ∧ k ≠ 7) → S' k = S k := fun k a b => h k (by omega) (fun z => by unfold scr at z; omega)
  have e4 : ∀ k, 42 ≤ k → k < 80 → (k ≠ 49 ∧ k ≠ 44 ∧ k ≠ 45 ∧ k ≠ 46 ∧ k ≠ 47) → S' k = S k := fun k a b d => h k (by omega) (fun z => by unfold scr at z; omega)
  have e8 : ∀ k, 92 ≤ k → ((k < 130 ∨ 136 ≤ k) ∧ k ≠ 125 ∧ k ≠ 126 ∧ k ≠ 127) → S' k = S k := fun k a b => h k (by omega) (fun z => by unfold scr at z; omega)
  have e81 : S' 81 = S 81 := h 81 (by decide) (fun z => by unfold scr at z; omega)
  have ek : ∀ k, kl k → S' k = S k := fun k hk => h k (by unfold kl at hk; omega) (fun z => by unfold scr at z; unfold kl at hk; omega)
  have eC : EC S' = EC S := EC_of ek
  have eM : EM S' = EM S := by
    funext k i
    unfold EM
    rw [e8 106 (by decide) (by decide), e8 107 (by decide) (by decide), e8 108 (by decide) (by decide), e8 105 (by decide) (by decide), e8 109 (by decide) (by decide), e8 110 (by decide) (by decide), e8 111 (by decide) (by decide), e8 112 (by decide) (by decide), h80 2 (by decide) (by decide) , h80 3 (by decide) (by decide) , h80 4 (by decide) (by decide) ]
  have eN : ntM S' = ntM S := by unfold ntM; rw [h80 4 (by decide) (by decide) ]
  have kgE : ∀ k, kg k → S' k = S k := fun k hk => e k (by unfold kg at hk; omega) (by unfold kg at hk; omega)
  exact mkIV
    (xki := I.ki.of ek (e 31 (by decide) (by decide)))
    (xdg := fun a ha => by rw [e 31 (by decide) (by decide)]; exact I.dg a ha)
    (xl3 := by unfold L3; rw [e4 50 (by decide) (by decide) (by decide), e4 51 (by decide) (by decide) (by decide), e81]; exact I.l3)
    (xri := I.ri.of kgE)
    (xrsz := fun s hs => by rw [e 33 (by decide) (by decide)]; exact I.rsz s hs)
    (xeE := by rw [eM, eC]; exact I.eE)
    (xday := by rw [h80 1 (by decide) (by decide) , e 3 (by decide) (by decide)]; exact I.day)
    (xnow := fun j hj => by rw [e8 113 (by decide) (by decide), e 32 (by decide) (by decide)]; exact I.now j hj)
    (xreg := fun j hj d => by
      rw [eN] at hj
      have := (ntM_8 (S := S) ⟨by rw [I.eE]; exact I.ki.1.2.1, fun j hj => by rw [I.now j hj]; exact I.ri.2.2.2.1 j⟩).1
      rw [LM_of (e8 (170 + j) (by omega) (by omega)) (e8 (190 + j) (by omega) (by omega)), LC_of kgE]; exact I.reg j hj d)
    (xrgm := I.rgm.of (fun k hk => by
      rcases hk with hk | hk | hk | hk
      · exact e4 k (by omega) (by omega) (by omega)
      · exact e4 k (by omega) (by omega) (by omega)
      · rw [hk]; exact e81
      · exact e8 k (by omega) (by omega)) (h80 4 (by decide) (by decide) ))
    (xsz := fun s hs => by rw [e8 (170 + s) (by omega) (by omega)]; exact I.sz s hs)
    (xask := fun j hj => by rw [e8 114 (by decide) (by decide), e4 (70 + j) (by omega) (by omega) (by omega)]; exact I.ask j hj)
    (xbr := by unfold BR; rw [e 36 (by decide) (by decide), e 37 (by decide) (by decide), e 38 (by decide) (by decide), e 3 (by decide) (by decide)]; exact I.br)
    (xbm := by unfold BM; rw [e8 116 (by decide) (by decide), e8 117 (by decide) (by decide), e8 118 (by decide) (by decide), h80 1 (by decide) (by decide) ]; exact I.bm)
    (xb36 := fun i hi => by rw [e8 116 (by decide) (by decide), e 36 (by decide) (by decide)]; exact I.b36 i hi)
    (xb37 := fun i hi => by rw [e8 117 (by decide) (by decide), e 37 (by decide) (by decide)]; exact I.b37 i hi)
    (xb38 := fun i hi => by rw [e8 118 (by decide) (by decide), e 38 (by decide) (by decide)]; exact I.b38 i hi)
    (xfa := by unfold FA; rw [e4 42 (by decide) (by decide) (by decide), e4 43 (by decide) (by decide) (by decide)]; exact I.fa)
    (xpr := fun j hj => by rw [e8 122 (by decide) (by decide), e4 42 (by decide) (by decide) (by decide)]; exact I.pr j hj)
    (xs61 := by rw [e 6 (by decide) (by decide)]; exact I.s61)
    (xs62 := by rw [e 6 (by decide) (by decide)]; exact I.s62)
    (xs63 := by rw [e 6 (by decide) (by decide), eC]; exact I.s63)
    (xst := fun j hj => by rw [e8 123 (by decide) (by decide), e 6 (by decide) (by decide)]; exact I.st j hj)
    (xs19 := by rw [h80 19 (by decide) (by decide) , e 6 (by decide) (by decide)]; exact I.s19)
    (xs20 := by rw [h80 20 (by decide) (by decide) , e 6 (by decide) (by decide)]; exact I.s20)
    (xs21 := by rw [h80 21 (by decide) (by decide) , e 6 (by decide) (by decide)]; exact I.s21)
    (xbd := bd)
    (xfb := fb)
    (xwr := wr)
    (xgot := got)
    (xpay := pay)
    (xnb := nb)
    (xm1 := by rw [e 8 (by decide) (by decide)]; exact I.m1)
    (xph := fun j hj => by rw [e8 129 (by decide) (by decide), e4 48 (by decide) (by decide) (by decide)]; exact I.ph j hj)
    (xdk := by rw [h80 28 (by decide) (by decide) , e 8 (by decide) (by decide)]; exact I.dk)
    (xal := by rw [e 8 (by decide) (by decide), eC, e 32 (by decide) (by decide)]; exact I.al)
    (xoff := fun j a b => by
      rw [eC] at a
      exact ⟨by rw [e 32 (by decide) (by decide)]; exact (I.ofx j a b).1, by rw [e8 114 (by decide) (by decide)]; exact (I.ofx j a b).2.1, fun d => by rw [LC_of kgE]; exact (I.ofx j a b).2.2 d⟩)
    (xpl := pl)
    (xc39 := c39)
    (xc49 := c49)
section LW7
variable {G : Gx} {A : Nat → Nat} {B : Nat → Nat → Nat} {S : Nat → Nat → Int} {h : hw} {c : Nat}
variable {N : Nat} {xs : Nat → Int32} {i : Int32} {uc us : Nat} {J : hw → Nat → Nat → Prop}
theorem wof_ne {w w' : Nat → Int} {b t : Nat} (h : ∀ u, u < t → w (b * 3 + u) = w' (b * 3 + u)) : wof w b t = wof w' b t := by
  induction t with
  | zero => rfl
  | succ t ih => unfold wof; rw [ih (fun u hu => h u (by omega)), h t (by omega)]
theorem Pic.w1763 (P : Pic G A B S h) (I : IV S c) (v1 : vp_in (i + 1) N) (v2 : vp_in (i + 2) N) (v3 : vp_in (i + 3) N) (hu : uc + 70 ≤ 603072) (hv : us + 48 * c + 260 ≤ 7219306) (q : CK G (A 0) (A 80) (A 90) (A 91) c uc us J) : wp_law_1763 G N xs (A 0) (A 80) (A 90) (A 91) i h uc us J := by
  obtain ⟨z1, e1, r1⟩ := ii_ex (xs (Int32.toNatClampNeg (i + 1)))
  obtain ⟨z2, e2, r2⟩ := ii_ex (xs (Int32.toNatClampNeg (i + 2)))
  obtain ⟨z3, e3, r3⟩ := ii_ex (xs (Int32.toNatClampNeg (i + 3)))
  unfold wp_law_1763
  rw [e1, e2, e3]
  refine ⟨v1, v2, v3, by omega, by omega, P.o (k := 0) rfl, ?_⟩
  have nb := I.nb
  have bd := I.bd
  have n7 : S 7 2 = ((nB S : Nat) : Int) := by have := bd.1; show S 7 2 = (((S 7 2).toNat : Nat) : Int); omega
  have m4 : 0 ≤ S 80 24 ∧ S 80 24 ≤ 4 := by rw [nb]; exact bd.1
  refine P.c_addBidder bd r1 r2 r3 (fun a b d f S1 h1 P1 k1 w1 s1 => ?_) (fun a => ?_) (fun a b d f => ?_)
  · have vr : rg (S 7 2) := ⟨by omega, by omega⟩
    refine P1.out vr (fun h2 P2 => ⟨v1, v2, v3, P2.o (k := 80) rfl, ?_⟩)
    have e80 : su S1 90 0 (S 7 2) 80 = S 80 := by rw [su_row _ _ (by decide), k1 80 (by decide) (by decide)]
    refine P2.m_addBidder (by rw [e80]; exact m4) r1 r2 r3 (fun _ _ _ _ h3 P3 => ?_) (fun a' => absurd ⟨a, b, d⟩ a') (fun _ _ _ f' => by rw [e80, nb] at f'; omega)
    rw [e80, nb] at P3 ⊢
    obtain ⟨n, hn⟩ : ∃ n, n = nB S := ⟨_, rfl⟩
    have hn2 : (S 7 2).toNat = n := hn.symm
    have hn4 : n < 4 := by omega
    rw [hn2] at P3
    rw [← hn] at w1
    obtain ⟨S3, hS3⟩ : ∃ S3, S3 = su (su (su (su (su (su S1 90 0 (S 7 2)) 80 0 0) 125 (3 * n) z1) 125 (3 * n + 1) z2) 125 (3 * n + 2) z3) 80 24 (S 7 2 + 1) := ⟨_, rfl⟩
    rw [← hS3] at P3
    have f3 : ∀ k, k ≠ 7 → k ≠ 46 → k ≠ 90 → k ≠ 80 → k ≠ 125 → S3 k = S k := fun k x1 x2 x3 x4 x5 => by rw [hS3, su_row _ _ x4, su_row _ _ x5, su_row _ _ x5, su_row _ _ x5, su_row _ _ x4, su_row _ _ x3, k1 k x1 x2]
    have e46 : S3 46 = S1 46 := by rw [hS3, su_row _ _ (by decide), su_row _ _ (by decide), su_row _ _ (by decide), su_row _ _ (by decide), su_row _ _ (by decide), su_row _ _ (by decide)]
    have e7 : S3 7 = S1 7 := by rw [hS3, su_row _ _ (by decide), su_row _ _ (by decide), su_row _ _ (by decide), su_row _ _ (by decide), su_row _ _ (by decide), su_row _ _ (by decide)]
    have e125 : S3 125 = S3 46 := by
      rw [e46, w1, hS3, su_row _ _ (by decide), su_up, su_up, su_up, su_row _ _ (by decide), su_row _ _ (by decide), k1 125 (by decide) (by decide), I.wr, Nat.mul_comm]
    have g80 : ∀ i, i ≠ 0 → i ≠ 24 → S3 80 i = S 80 i := fun i i0 i1 => by
      rw [hS3, su_nei _ _ _ i1, su_ne _ _ _ (by decide), su_ne _ _ _ (by decide), su_ne _ _ _ (by decide), su_nei _ _ _ i0, su_ne _ _ _ (by decide), k1 80 (by decide) (by decide)]
    have g0 : S3 80 0 = 0 := by rw [hS3, su_nei _ _ _ (by decide), su_ne _ _ _ (by decide), su_ne _ _ _ (by decide), su_ne _ _ _ (by decide), su_at]
    have g24 : S3 80 24 = S3 7 2 := by rw [e7, s1, hS3, su_at]
    have g90 : S3 90 0 = S 7 2 := by rw [hS3, su_ne _ _ _ (by decide), su_ne _ _ _ (by decide), su_ne _ _ _ (by decide), su_ne _ _ _ (by decide), su_ne _ _ _ (by decide), su_at]
    have wv : ∀ j, S3 46 j = if j = n * 3 + 2 then z3 else if j = n * 3 + 1 then z2 else if j = n * 3 then z1 else S 46 j := fun j => by rw [e46, w1]; rfl
    have wne : ∀ b u, b ≠ n → u < 3 → S3 46 (b * 3 + u) = S 46 (b * 3 + u) := fun b u hb hu => by rw [wv, if_neg (by omega), if_neg (by omega), if_neg (by omega)]
    have nB3 : nB S3 = n + 1 := by show (S3 7 2).toNat = n + 1; rw [e7, s1]; omega
    clear hS3
    refine P3.tlJ g0 vr g90 (q A B S3 h3 _ _ P3 ⟨rfl, rfl, rfl, rfl⟩ (IV.nx (I.by (fun k hk hs => f3 k (fun z => hk (by omega)) (fun z => hk (by omega)) (fun z => hs (by unfold scr; omega)) (fun z => hs (by unfold scr; omega)) (fun z => hk (by omega))) g80 (I.pl.of (f3 130 (by decide) (by decide) (by decide) (by decide) (by decide)) (f3 131 (by decide) (by decide) (by decide) (by decide) (by decide))) (by rw [f3 39 (by decide) (by decide) (by decide) (by decide) (by decide)]; exact I.c39) (by rw [f3 49 (by decide) (by decide) (by decide) (by decide) (by decide)]; exact I.c49) ⟨by rw [e7, s1]; omega, fun b hb => ?_⟩ ⟨fun j hj => ?_, fun j hj h4 => ?_⟩ e125 (fun j hj => ?_) (fun j hj => ?_) g24)) (by omega) (by omega))
    · by_cases y : b = n
      · rw [y, wv, wv, wv, if_pos rfl, if_neg (by omega), if_pos rfl, if_neg (by omega), if_neg (by omega), if_pos rfl]; omega
      · have := bd.2 b hb
        rw [wne b 2 y (by decide), wne b 1 y (by decide), show S3 46 (b * 3) = S 46 (b * 3) from wne b 0 y (by decide)]; exact this
    · have fb := I.fb.1 j hj
      rw [f3 44 (by decide) (by decide) (by decide) (by decide) (by decide), f3 45 (by decide) (by decide) (by decide) (by decide) (by decide)]
      by_cases y : j = n
      · have z := I.fb.2 j (by omega) hj
        rw [z.1, z.2]; exact ⟨by decide, by decide, by decide, Int.le_refl _⟩
      · rw [wof_ne (w := S3 46) (w' := S 46) (fun u hu => wne j u y (by omega))]; exact fb
    · rw [nB3] at hj
      rw [f3 44 (by decide) (by decide) (by decide) (by decide) (by decide), f3 45 (by decide) (by decide) (by decide) (by decide) (by decide)]
      exact I.fb.2 j (by omega) h4
    · rw [f3 126 (by decide) (by decide) (by decide) (by decide) (by decide), f3 44 (by decide) (by decide) (by decide) (by decide) (by decide)]; exact I.got j hj
    · rw [f3 127 (by decide) (by decide) (by decide) (by decide) (by decide), f3 45 (by decide) (by decide) (by decide) (by decide) (by decide)]; exact I.pay j hj
  · refine ⟨fun _ => ⟨v1, v2, v3, P.o (k := 80) rfl, ?_⟩, fun z => absurd z (by decide), Or.inl rfl⟩
    exact P.m_addBidder m4 r1 r2 r3 (fun a' b' d' => absurd ⟨a', b', d'⟩ a) (fun a' h3 P3 => P3.endX I (Or.inl rfl) il_1 q (by omega) (by omega)) (fun a' b' d' => absurd ⟨a', b', d'⟩ a)
  · refine ⟨fun z => absurd z (by decide), fun _ => ⟨v1, v2, v3, P.o (k := 80) rfl, ?_⟩, Or.inr rfl⟩
    exact P.m_addBidder m4 r1 r2 r3 (fun _ _ _ f' => by rw [nb] at f'; omega) (fun a' => absurd ⟨a, b, d⟩ a') (fun _ _ _ _ h3 P3 => P3.endX I (Or.inr (Or.inl rfl)) il_2 q (by omega) (by omega))
theorem Pic.w1843 (P : Pic G A B S h) (I : IV S c) (v1 : vp_in (i + 1) N) (hu : uc + 70 ≤ 603072) (hv : us + 48 * c + 260 ≤ 7219306) (q : CK G (A 0) (A 80) (A 90) (A 91) c uc us J) : wp_law_1843 G N xs (A 0) (A 80) (A 90) (A 91) i h uc us J := by
  obtain ⟨z1, e1, r1⟩ := ii_ex (xs (Int32.toNatClampNeg (i + 1)))
  unfold wp_law_1843
  rw [e1]
  refine ⟨v1, by omega, by omega, P.o (k := 0) rfl, ?_⟩
  have nb := I.nb
  have bd := I.bd
  obtain ⟨n, hn⟩ : ∃ n, n = nB S := ⟨_, rfl⟩
  have n7 : S 7 2 = (n : Int) := by have := bd.1; rw [hn]; show S 7 2 = (((S 7 2).toNat : Nat) : Int); omega
  have n4 : n ≤ 4 := by have := bd.1; omega
  refine P.c_buy bd r1 (fun a S1 h1 P1 k1 g1 g2 g3 => ?_) (fun a => ?_)
  · rw [← hn] at g1 g2 g3
    rw [← hn]
    have dr : rg (sm (dl (S 46) (-1) n z1.toNat) n) := by
      have := sm_le (f := dl (S 46) (-1) n z1.toNat) (n := n) (m := 3) (fun j _ => by have := dl_in bd.2 (-1) n4 z1.toNat j; exact ⟨this.1, this.2.1⟩)
      exact ⟨by omega, by omega⟩
    refine P1.out dr (fun h2 P2 => ⟨v1, P2.o (k := 80) rfl, ?_⟩)
    obtain ⟨S2, hS2⟩ : ∃ S2, S2 = su S1 90 0 (sm (dl (S 46) (-1) n z1.toNat) n) := ⟨_, rfl⟩
    rw [← hS2] at P2
    have f2 : ∀ k, k ≠ 44 → k ≠ 45 → k ≠ 47 → k ≠ 90 → S2 k = S k := fun k x y z w => by rw [hS2, su_row _ _ w, k1 k (fun u => by unfold kb at u; omega)]
    have e44 : S2 44 = S1 44 := by rw [hS2, su_row _ _ (by decide)]
    have e45 : S2 45 = S1 45 := by rw [hS2, su_row _ _ (by decide)]
    have e90 : S2 90 0 = sm (dl (S 46) (-1) n z1.toNat) n := by rw [hS2, su_at]
    have w2 : S2 125 = S 46 := by rw [f2 125 (by decide) (by decide) (by decide) (by decide)]; exact I.wr
    refine P2.m_buy (I.pl.of (f2 130 (by decide) (by decide) (by decide) (by decide)) (f2 131 (by decide) (by decide) (by decide) (by decide))) (n := n) (by rw [f2 80 (by decide) (by decide) (by decide) (by decide), nb]; exact n7) n4 (by rw [w2]; exact bd.2) r1 (fun _ S3 h3 P3 k3 p3 o1 o2 o3 o4 => ?_) (fun a' => absurd a a')
    rw [w2] at o1 o3
    rw [w2]
    have f3 : ∀ k, k ≠ 44 → k ≠ 45 → k ≠ 47 → k ≠ 90 → k ≠ 126 → k ≠ 127 → k ≠ 131 → k ≠ 80 → S3 k = S k := fun k x1 x2 x3 x4 x5 x6 x7 x8 => by rw [k3 k x5 x6 x7, su_row _ _ x8, f2 k x1 x2 x3 x4]
    have f44 : S3 44 = S1 44 := by rw [k3 44 (by decide) (by decide) (by decide), su_row _ _ (by decide), e44]
    have f45 : S3 45 = S1 45 := by rw [k3 45 (by decide) (by decide) (by decide), su_row _ _ (by decide), e45]
    have f46 : S3 46 = S 46 := f3 46 (by decide) (by decide) (by decide) (by decide) (by decide) (by decide) (by decide) (by decide)
    have f7 : S3 7 = S 7 := f3 7 (by decide) (by decide) (by decide) (by decide) (by decide) (by decide) (by decide) (by decide)
    have g80 : ∀ i, i ≠ 0 → S3 80 i = S 80 i := fun i i0 => by rw [k3 80 (by decide) (by decide) (by decide), su_nei _ _ _ i0, f2 80 (by decide) (by decide) (by decide) (by decide)]
    have nB3 : nB S3 = n := by rw [hn]; show (S3 7 2).toNat = (S 7 2).toNat; rw [f7]
    refine P3.tlJ (by rw [k3 80 (by decide) (by decide) (by decide), su_at]) dr (by rw [k3 90 (by decide) (by decide) (by decide), su_row _ _ (by decide), e90]) (q A B S3 h3 _ _ P3 ⟨rfl, rfl, rfl, rfl⟩ (IV.nx (I.by (fun k hk hs => f3 k (fun z => hk (by omega)) (fun z => hk (by omega)) (fun z => hk (by omega)) (fun z => hs (by unfold scr; omega)) (fun z => hk (by omega)) (fun z => hk (by omega)) (fun z => hs (by unfold scr; omega)) (fun z => hs (by unfold scr; omega))) (fun i i0 _ => g80 i i0) p3 (by rw [f3 39 (by decide) (by decide) (by decide) (by decide) (by decide) (by decide) (by decide) (by decide)]; exact I.c39) (by rw [f3 49 (by decide) (by decide) (by decide) (by decide) (by decide) (by decide) (by decide) (by decide)]; exact I.c49) ⟨by rw [f7]; exact bd.1, by rw [f46]; exact bd.2⟩ ⟨fun j hj => ?_, fun j hj h4 => ?_⟩ (by rw [k3 125 (by decide) (by decide) (by decide), su_row _ _ (by decide), w2, f46]) (fun j hj => ?_) (fun j hj => ?_) (by rw [g80 24 (by decide), f7]; exact nb))) (by omega) (by omega))
    · have di := dl_in bd.2 (-1) n4 z1.toNat j
      rw [f44, f45, f46, g1 j hj]
      by_cases y : j < n
      · rw [g2 j y]
        have := due_le bd.2 n4 y z1.toNat
        exact ⟨di.1, di.2.1, this.2, this.1⟩
      · rw [g3 j (by omega), di.2.2.1 (by omega)]
        have := I.fb.2 j (by omega) hj
        rw [this.2]; exact ⟨by decide, by decide, by decide, Int.le_refl _⟩
    · rw [nB3] at hj
      rw [f44, f45, g1 j h4, g3 j hj]
      exact ⟨(dl_in bd.2 (-1) n4 z1.toNat j).2.2.1 hj, (I.fb.2 j (by omega) h4).2⟩
    · rw [f44, g1 j hj]
      by_cases y : j < n
      · exact o1 j y
      · rw [o2 j (by omega), f2 126 (by decide) (by decide) (by decide) (by decide), I.got j hj, (I.fb.2 j (by omega) hj).1, (dl_in bd.2 (-1) n4 z1.toNat j).2.2.1 (by omega)]
    · rw [f45]
      by_cases y : j < n
      · rw [o3 j y, g2 j y]
      · rw [o4 j (by omega), f2 127 (by decide) (by decide) (by decide) (by decide), I.pay j hj, g3 j (by omega)]
  · refine ⟨fun _ => ⟨v1, P.o (k := 80) rfl, ?_⟩, rfl⟩
    exact P.m_buy I.pl (n := n) (by rw [nb]; exact n7) n4 (by rw [I.wr]; exact bd.2) r1 (fun a' => absurd a' a) (fun a' h3 P3 => P3.endX I (Or.inl rfl) il_1 q (by omega) (by omega))
end LW7
