/-! the law: a sale -/
theorem IV.sl {S S' : Nat → Nat → Int} {c : Nat} (I : IV S c) (h : ∀ k, ¬ (k = 6 ∨ k = 42 ∨ k = 43 ∨ k = 122 ∨ k = 123) → ¬ scr k → S' k = S k) (h80 : ∀ i, i ≠ 0 → i ≠ 19 → i ≠ 20 → i ≠ 21 → S' 80 i = S 80 i) (pl : PL S') (c39 : chs (S' 39)) (c49 : chs (S' 49)) (fa : FA S') (pr : ∀ j, j < 8 → S' 122 j = S' 42 j ∧ -1 ≤ S' 42 j ∧ S' 42 j ≤ 9999) (s61 : S' 6 1 = 0 ∨ S' 6 1 = 1) (s62 : 0 ≤ S' 6 2 ∧ S' 6 2 ≤ 8) (s63 : ∀ j, bt (ii (S' 6 3)) j = true → j < nt (EC S) ∧ EC S 7 j = 1) (st : ∀ j, j < 8 → S' 123 j = bI (bt (ii (S' 6 3)) j)) (s19 : S' 80 19 = S' 6 1) (s20 : S' 80 20 = S' 6 4) (s21 : S' 80 21 = S' 6 2) : IV S' c := by
  have e : ∀ k, k < 39 → (k ≠ 5 ∧ k ≠ 6) → S' k = S k := fun k a b => h k (by omega) (fun z => by unfold scr at z; omega)
  have e4 : ∀ k, 42 ≤ k → k < 80 → (k ≠ 49 ∧ k ≠ 42 ∧ k ≠ 43) → S' k = S k := fun k a b d => h k (by omega) (fun z => by unfold scr at z; omega)
  have e8 : ∀ k, 92 ≤ k → ((k < 130 ∨ 136 ≤ k) ∧ k ≠ 122 ∧ k ≠ 123) → S' k = S k := fun k a b => h k (by omega) (fun z => by unfold scr at z; omega)
  have e81 : S' 81 = S 81 := h 81 (by decide) (fun z => by unfold scr at z; omega)
  have ek : ∀ k, kl k → S' k = S k := fun k hk => h k (by unfold kl at hk; omega) (fun z => by unfold scr at z; unfold kl at hk; omega)
  have eC : EC S' = EC S := EC_of ek
  have eM : EM S' = EM S := by
    funext k i
    unfold EM
    rw [e8 106 (by decide) (by decide), e8 107 (by decide) (by decide), e8 108 (by decide) (by decide), e8 105 (by decide) (by decide), e8 109 (by decide) (by decide), e8 110 (by decide) (by decide), e8 111 (by decide) (by decide), e8 112 (by decide) (by decide), h80 2 (by decide) (by decide) (by decide) (by decide) , h80 3 (by decide) (by decide) (by decide) (by decide) , h80 4 (by decide) (by decide) (by decide) (by decide) ]
  have eN : ntM S' = ntM S := by unfold ntM; rw [h80 4 (by decide) (by decide) (by decide) (by decide) ]
  have kgE : ∀ k, kg k → S' k = S k := fun k hk => e k (by unfold kg at hk; omega) (by unfold kg at hk; omega)
  exact mkIV
    (xki := I.ki.of ek (e 31 (by decide) (by decide)))
    (xdg := fun a ha => by rw [e 31 (by decide) (by decide)]; exact I.dg a ha)
    (xl3 := by unfold L3; rw [e4 50 (by decide) (by decide) (by decide), e4 51 (by decide) (by decide) (by decide), e81]; exact I.l3)
    (xri := I.ri.of kgE)
    (xrsz := fun s hs => by rw [e 33 (by decide) (by decide)]; exact I.rsz s hs)
    (xeE := by rw [eM, eC]; exact I.eE)
    (xday := by rw [h80 1 (by decide) (by decide) (by decide) (by decide) , e 3 (by decide) (by decide)]; exact I.day)
    (xnow := fun j hj => by rw [e8 113 (by decide) (by decide), e 32 (by decide) (by decide)]; exact I.now j hj)
    (xreg := fun j hj d => by
      rw [eN] at hj
      have := (ntM_8 (S := S) ⟨by rw [I.eE]; exact I.ki.1.2.1, fun j hj => by rw [I.now j hj]; exact I.ri.2.2.2.1 j⟩).1
      rw [LM_of (e8 (170 + j) (by omega) (by omega)) (e8 (190 + j) (by omega) (by omega)), LC_of kgE]; exact I.reg j hj d)
    (xrgm := I.rgm.of (fun k hk => by
      rcases hk with hk | hk | hk | hk
      · exact e4 k (by omega) (by omega) (by omega)
      · exact e4 k (by omega) (by omega) (by omega)
      · rw [hk]; exact e81
      · exact e8 k (by omega) (by omega)) (h80 4 (by decide) (by decide) (by decide) (by decide) ))
    (xsz := fun s hs => by rw [e8 (170 + s) (by omega) (by omega)]; exact I.sz s hs)
    (xask := fun j hj => by rw [e8 114 (by decide) (by decide), e4 (70 + j) (by omega) (by omega) (by omega)]; exact I.ask j hj)
    (xbr := by unfold BR; rw [e 36 (by decide) (by decide), e 37 (by decide) (by decide), e 38 (by decide) (by decide), e 3 (by decide) (by decide)]; exact I.br)
    (xbm := by unfold BM; rw [e8 116 (by decide) (by decide), e8 117 (by decide) (by decide), e8 118 (by decide) (by decide), h80 1 (by decide) (by decide) (by decide) (by decide) ]; exact I.bm)
    (xb36 := fun i hi => by rw [e8 116 (by decide) (by decide), e 36 (by decide) (by decide)]; exact I.b36 i hi)
    (xb37 := fun i hi => by rw [e8 117 (by decide) (by decide), e 37 (by decide) (by decide)]; exact I.b37 i hi)
    (xb38 := fun i hi => by rw [e8 118 (by decide) (by decide), e 38 (by decide) (by decide)]; exact I.b38 i hi)
    (xfa := fa)
    (xpr := pr)
    (xs61 := s61)
    (xs62 := s62)
    (xs63 := by rw [eC]; exact s63)
    (xst := st)
    (xs19 := s19)
    (xs20 := s20)
    (xs21 := s21)
    (xbd := by unfold BD; rw [e 7 (by decide) (by decide), e4 46 (by decide) (by decide) (by decide)]; exact I.bd)
    (xfb := by unfold FB nB; rw [e4 44 (by decide) (by decide) (by decide), e4 45 (by decide) (by decide) (by decide), e4 46 (by decide) (by decide) (by decide), e 7 (by decide) (by decide)]; exact I.fb)
    (xwr := by rw [e8 125 (by decide) (by decide), e4 46 (by decide) (by decide) (by decide)]; exact I.wr)
    (xgot := fun i hi => by rw [e8 126 (by decide) (by decide), e4 44 (by decide) (by decide) (by decide)]; exact I.got i hi)
    (xpay := fun i hi => by rw [e8 127 (by decide) (by decide), e4 45 (by decide) (by decide) (by decide)]; exact I.pay i hi)
    (xnb := by rw [h80 24 (by decide) (by decide) (by decide) (by decide) , e 7 (by decide) (by decide)]; exact I.nb)
    (xm1 := by rw [e 8 (by decide) (by decide)]; exact I.m1)
    (xph := fun j hj => by rw [e8 129 (by decide) (by decide), e4 48 (by decide) (by decide) (by decide)]; exact I.ph j hj)
    (xdk := by rw [h80 28 (by decide) (by decide) (by decide) (by decide) , e 8 (by decide) (by decide)]; exact I.dk)
    (xal := by rw [e 8 (by decide) (by decide), eC, e 32 (by decide) (by decide)]; exact I.al)
    (xoff := fun j a b => by
      rw [eC] at a
      exact ⟨by rw [e 32 (by decide) (by decide)]; exact (I.ofx j a b).1, by rw [e8 114 (by decide) (by decide)]; exact (I.ofx j a b).2.1, fun d => by rw [LC_of kgE]; exact (I.ofx j a b).2.2 d⟩)
    (xpl := pl)
    (xc39 := c39)
    (xc49 := c49)
section LWD
variable {G : Gx} {A : Nat → Nat} {B : Nat → Nat → Nat} {S : Nat → Nat → Int} {h : hw} {c : Nat}
variable {N : Nat} {xs : Nat → Int32} {i : Int32} {uc us : Nat} {J : hw → Nat → Nat → Prop}
/-- the state with the sale as it was -/
def mids (S S3 : Nat → Nat → Int) : Nat → Nat → Int := fun k i => if k = 6 ∨ k = 42 ∨ k = 43 ∨ k = 122 ∨ k = 123 then S k i else if k = 80 ∧ (i = 19 ∨ i = 20 ∨ i = 21) then S 80 i else S3 k i
theorem mids_k {S S3 : Nat → Nat → Int} {k : Nat} (h : ¬ (k = 6 ∨ k = 42 ∨ k = 43 ∨ k = 122 ∨ k = 123)) (h2 : k ≠ 80) : mids S S3 k = S3 k := by
  funext i; unfold mids; rw [if_neg h, if_neg (fun z => h2 z.1)]
theorem mids_s {S S3 : Nat → Nat → Int} {k : Nat} (h : k = 6 ∨ k = 42 ∨ k = 43 ∨ k = 122 ∨ k = 123) : mids S S3 k = S k := by
  funext i; unfold mids; rw [if_pos h]
theorem mids_80 {S S3 : Nat → Nat → Int} {i : Nat} (h : ¬ (i = 19 ∨ i = 20 ∨ i = 21)) : mids S S3 80 i = S3 80 i := by
  unfold mids; rw [if_neg (by decide), if_neg (fun z => h z.2)]
theorem Pic.w1614 (P : Pic G A B S h) (I : IV S c) (hc : c ≤ 511) (v1 : vp_in (i + 1) N) (v2 : vp_in (i + 2) N) (v3 : vp_in (i + 3) N) (hu : uc + 70 ≤ 603072) (hv : us + 48 * c + 260 ≤ 7219306) (q : CK G (A 0) (A 80) (A 90) (A 91) c uc us J) : wp_law_1614 G N xs (A 0) (A 80) (A 90) (A 91) i h uc us J := by
  obtain ⟨z1, e1, r1⟩ := ii_ex (xs (Int32.toNatClampNeg (i + 1)))
  obtain ⟨z2, e2, r2⟩ := ii_ex (xs (Int32.toNatClampNeg (i + 2)))
  obtain ⟨z3, e3, r3⟩ := ii_ex (xs (Int32.toNatClampNeg (i + 3)))
  unfold wp_law_1614
  rw [e1, e2, e3]
  refine ⟨v1, v2, v3, by omega, by omega, P.o (k := 0) rfl, ?_⟩
  have n4 := I.n4
  obtain ⟨n8, -, -⟩ := ntM_8 I.mo
  obtain ⟨h8, hn⟩ := nt8 I.ki
  have eN : ntM S = nt (EC S) := by unfold ntM; rw [n4, hn]; rfl
  obtain ⟨as, has⟩ : ∃ as : Nat → Int, as = fun j => S (70 + j) 5 := ⟨_, rfl⟩
  have asr : ∀ j, j < 8 → S 114 j = as j ∧ 0 ≤ as j ∧ as j ≤ 9999 := fun j hj => by
    have := I.ask j hj
    rw [has]; show S 114 j = S (70 + j) 5 ∧ 0 ≤ S (70 + j) 5 ∧ S (70 + j) 5 ≤ 9999; omega
  have ref : ∀ (S2 : Nat → Nat → Int) (h2 : hw), Pic G A B S2 h2 → (∀ k, ¬ kr k → ¬ ks k → k ≠ 40 → k ≠ 90 → S2 k = S k) → ∀ post : Int32 → hw → Prop, ((1 ≤ z1 ∧ z1 ≤ 9999) → (1 ≤ z2 ∧ z2 ≤ 999) → (1 ≤ z3 ∧ z3 ≤ 8) → anyb (tpf (EC S) (S 32)) (nt (EC S)) = true → okb (EC S) z3 (st0 (EC S) (S 32) as z1) = true → ∀ Z, Z = sres (EC S) z3 (S 32) as z1 z2 → ∀ A' B' S' h' uc us, Pic G A' B' S' h' → (∀ k, k < 180 → A' k = A k) → (∀ k, ¬ kM k → k ≠ 80 → ¬ ksm k → S' k = S2 k) → (∀ i, i ≠ 0 → i ≠ 19 → i ≠ 20 → i ≠ 21 → S' 80 i = S2 80 i) → S' 80 0 = 0 → S' 80 19 = 1 → S' 80 21 = z3 → S' 80 20 = Z.2.2 → (∀ j, j < 8 → S' 123 j = bI (Z.1.1 j)) → (∀ j, j < 8 → S' 122 j = spr Z j) → (∀ j, S' 113 j = if j < nt (EC S) ∧ spr Z j ≠ -1 then -1 else S 113 j) → PL S' → RM S2 S' → RT S2 S' uc us → post (ii (cnt (fun j => decide (spr Z j ≠ -1)) 8)) h') → (¬ ((1 ≤ z1 ∧ z1 ≤ 9999) ∧ (1 ≤ z2 ∧ z2 ≤ 999) ∧ 1 ≤ z3 ∧ z3 ≤ 8) → ∀ h', Pic G A B (su S2 80 0 1) h' → post 0 h') → ((1 ≤ z1 ∧ z1 ≤ 9999) → (1 ≤ z2 ∧ z2 ≤ 999) → (1 ≤ z3 ∧ z3 ≤ 8) → ¬ (anyb (tpf (EC S) (S 32)) (nt (EC S)) = true ∧ okb (EC S) z3 (st0 (EC S) (S 32) as z1) = true) → ∀ S' h', Pic G A B S' h' → (∀ k, k ≠ 130 → k ≠ 131 → S' k = su S2 80 0 2 k) → PL S' → post 0 h') → wp_X12_sell G (A 80) (ii z1) (ii z2) (ii z3) h2 64 (48 * c + 200) post := by
    intro S2 h2 P2 f2 post q1 x1 x2
    have e80 : S2 80 = S 80 := f2 80 (fun z => by unfold kr at z; omega) (fun z => by unfold ks at z; omega) (by decide) (by decide)
    have f : ∀ k, 100 ≤ k → S2 k = S k := fun k hk => f2 k (fun z => by unfold kr at z; omega) (fun z => by unfold ks at z; omega) (by omega) (by omega)
    obtain ⟨mo2, eE2, eN2⟩ := I.mo.of (S' := S2) (fun k hk => by
      rcases hk with hk | hk
      · rw [hk]; exact e80
      · exact f k (by omega))
    rw [I.eE] at eE2
    rw [eN] at eN2
    have rg2 : RG S2 := I.rgm.of (fun k hk => f2 k (fun z => by unfold kr at z; omega) (fun z => by unfold ks at z; omega) (by omega) (by omega)) (by rw [e80])
    refine P2.m_sell mo2 (I.pl.of (f 130 (by decide)) (f 131 (by decide))) rg2 (fun j hj d hd => ?_) (by rw [e80]; exact I.day2 hc) (fun t ht => by rw [f _ (by omega)]; have := I.sz t ht; omega) (fun S' uc us r => r.bound (fun s hs => by rw [f _ (by omega)]; have := I.sz s hs; omega)) (now := S 32) (asks := as) (fun j hj => by rw [f 113 (by decide)]; exact I.now j hj) (fun j hj => by rw [f 114 (by decide)]; exact (asr j hj).1) (fun j hj => by have := asr j hj; exact ⟨by omega, by omega⟩) r1 r2 r3 (fun a b d y w Z hZ A3 B3 S3 h3 uc3 us3 P3 a3 m1 m2 m3 m4 m5 m6 m7 m8 m9 m10 m11 m12 => ?_) (fun a h3 P3 => x1 a h3 P3) (fun a b d y S3 h3 P3 k3 p3 => x2 a b d (by rw [eE2, eN2] at y; exact y) S3 h3 P3 k3 p3)
    · rw [eN2] at hj
      rw [e80] at hd
      rw [LM_of (f _ (by omega)) (f _ (by omega)), f 113 (by decide), I.reg j (by rw [eN]; exact hj) d, I.now j (by omega)]
      exact I.ri.2.2.2.2.1 j (by omega) d (by rw [← I.day]; exact hd)
    · rw [eE2, eN2] at y
      rw [eE2] at w hZ
      exact q1 a b d y w Z hZ A3 B3 S3 h3 uc3 us3 P3 a3 m1 m2 m3 m4 m5 m6 m7 m8 (fun j => by rw [m9 j, eN2, f 113 (by decide)]) m10 m11 m12
  refine P.c_sell I.ki I.c39 hc I.ri (fun j hj => by have := I.ask j hj; omega) I.fa r1 r2 r3 (fun a b d y w Z hZ S1 h1 P1 R1 k1 c39 w32 g1 g2 g3 g4 g5 g6 => ?_) (fun a => ?_) (fun a b d no S1 h1 P1 k1 c39 => ?_)
  · rw [← has] at w hZ
    have cr := cnt_in (fun j => decide (spr Z j ≠ -1)) 8
    have vr : rg (cnt (fun j => decide (spr Z j ≠ -1)) 8) := ⟨by omega, by omega⟩
    refine P1.out vr (fun h2 P2 => ⟨v1, v2, v3, 64, 48 * c + 200, by omega, by omega, P2.o (k := 80) rfl, ?_⟩)
    obtain ⟨S2, hS2⟩ : ∃ S2, S2 = su S1 90 0 (cnt (fun j => decide (spr Z j ≠ -1)) 8) := ⟨_, rfl⟩
    rw [← hS2] at P2
    have f2 : ∀ k, ¬ kr k → ¬ ks k → k ≠ 40 → k ≠ 90 → S2 k = S k := fun k x y z t => by rw [hS2, su_row _ _ t, k1 k x y z]
    have t2 : ∀ k, k ≠ 90 → S2 k = S1 k := fun k x => by rw [hS2, su_row _ _ x]
    have e90 : S2 90 0 = cnt (fun j => decide (spr Z j ≠ -1)) 8 := by rw [hS2, su_at]
    have f : ∀ k, 100 ≤ k → S2 k = S k := fun k hk => f2 k (fun z => by unfold kr at z; omega) (fun z => by unfold ks at z; omega) (by omega) (by omega)
    have e80 : S2 80 = S 80 := f2 80 (fun z => by unfold kr at z; omega) (fun z => by unfold ks at z; omega) (by decide) (by decide)
    refine ref S2 h2 P2 f2 _ (fun _ _ _ _ _ Z2 hZ2 A3 B3 S3 h3 uc3 us3 P3 a3 m1 m2 m3 m4 m5 m6 m7 m8 m9 m10 m11 m12 => ?_) (fun a' => absurd ⟨a, b, d⟩ a') (fun _ _ _ no => absurd ⟨y, w⟩ no)
    have eZ : Z2 = Z := by rw [hZ2, hZ]
    subst eZ
    have si := fun j => spr_i (E := EC S) (C := z3) (now := S 32) (asks := as) (pr := z1) (stp := z2) ⟨by omega, a.2⟩ b.1 j
    rw [← hZ] at si
    have lo : ∀ k, k < 80 → S3 k = S1 k := fun k hk => by rw [m1 k (fun z => by unfold kM at z; omega) (by omega) (fun z => by unfold ksm at z; omega), t2 k (by omega)]
    have nw : ∀ j, j < 8 → S3 113 j = S3 32 j := fun j hj => by
      rw [m9 j, lo 32 (by decide), w32 j, I.now j hj]
      refine ite_iff ?_
      rw [Bool.and_eq_true, decide_eq_true_eq (p := j < nt (EC S)), decide_eq_true_eq]
    have g80 : ∀ i, i ≠ 0 → i ≠ 19 → i ≠ 20 → i ≠ 21 → S3 80 i = S 80 i := fun i x1 x2 x3 x4 => by rw [m2 i x1 x2 x3 x4, e80]
    have n49 : S3 49 = S 49 := by rw [lo 49 (by decide), k1 49 (fun z => by unfold kr at z; omega) (fun z => by unfold ks at z; omega) (by decide)]
    obtain ⟨Sm, hSm⟩ : ∃ Sm, Sm = mids S S3 := ⟨_, rfl⟩
    have mk : ∀ k, ¬ (k = 6 ∨ k = 42 ∨ k = 43 ∨ k = 122 ∨ k = 123) → k ≠ 80 → Sm k = S3 k := fun k x y => by rw [hSm]; exact mids_k x y
    have ms : ∀ k, (k = 6 ∨ k = 42 ∨ k = 43 ∨ k = 122 ∨ k = 123) → Sm k = S k := fun k x => by rw [hSm]; exact mids_s x
    have m8' : ∀ i, ¬ (i = 19 ∨ i = 20 ∨ i = 21) → Sm 80 i = S3 80 i := fun i x => by rw [hSm]; exact mids_80 x
    have m8s : ∀ i, (i = 19 ∨ i = 20 ∨ i = 21) → Sm 80 i = S 80 i := fun i x => by rw [hSm]; unfold mids; rw [if_neg (by decide), if_pos ⟨rfl, x⟩]
    have Im : IV Sm (c + 1) := I.reg2 (S2 := S2) R1 (fun k x => by rw [mk k (by unfold kg at x; omega) (by unfold kg at x; omega)]; exact lo k (by unfold kg at x; omega)) (fun k x y z => by
      by_cases t : k = 6 ∨ k = 42 ∨ k = 43 ∨ k = 122 ∨ k = 123
      · exact ms k t
      · have zz : k ≠ 5 ∧ k ≠ 39 ∧ k ≠ 40 ∧ k ≠ 41 ∧ k ≠ 80 ∧ k ≠ 90 ∧ ¬ (130 ≤ k ∧ k < 136) := by unfold scr at z; omega
        rw [mk k t zz.2.2.2.2.1, m1 k x zz.2.2.2.2.1 (fun u => by unfold ksm at u; omega), f2 k y (fun u => by unfold ks at u; omega) zz.2.2.1 zz.2.2.2.2.2.1]) (fun i hi => by
      by_cases t : i = 19 ∨ i = 20 ∨ i = 21
      · exact m8s i t
      · rw [m8' i t]; exact g80 i hi (by omega) (by omega) (by omega)) (m10.of (mk 130 (by decide) (by decide)) (mk 131 (by decide) (by decide))) (by rw [mk 39 (by decide) (by decide), lo 39 (by decide)]; exact c39) (by rw [mk 49 (by decide) (by decide), n49]; exact I.c49) (by unfold ntM; rw [e80]) (by rw [e80]) (fun j hj d => LM_of (f _ (by omega)) (f _ (by omega)) d) (fun s hs => f _ (by omega)) (RM.of (S1 := S3) (fun k hk => mk k (by omega) (by omega)) (m8' 4 (by decide)) (m8' 1 (by decide)) m11) (m12.of (fun t ht => mk _ (by omega) (by omega))) (fun j hj => by rw [mk 113 (by decide) (by decide), mk 32 (by decide) (by decide)]; exact nw j hj) (fun z => by
      rw [mk 32 (by decide) (by decide), lo 32 (by decide)]
      refine alk_offs (fun j hj => ?_) (I.al z)
      rw [w32 j]
      split
      · exact Or.inr rfl
      · exact Or.inl rfl) (fun j hj h9 => by
      rw [mk 32 (by decide) (by decide), lo 32 (by decide), w32 j, decide_eq_false (by omega), Bool.false_and, if_neg (by decide)]; exact I.off j hj h9)
    have eCm : EC Sm = EC S := EC_of (fun k hk => by
      rw [mk k (by unfold kl at hk; omega) (by unfold kl at hk; omega), lo k (by unfold kl at hk; omega)]
      exact k1 k (fun z => by unfold kr at z; unfold kl at hk; omega) (fun z => by unfold ks at z; unfold kl at hk; omega) (by unfold kl at hk; omega))
    have I3 : IV S3 (c + 1) := Im.sl (fun k hk hs => (mk k (fun z => hk (by omega)) (fun z => hs (by unfold scr; omega))).symm) (fun i i0 i1 i2 i3 => (m8' i (by omega)).symm) m10 (by rw [lo 39 (by decide)]; exact c39) (by rw [n49]; exact I.c49) (by unfold FA; rw [lo 42 (by decide), lo 43 (by decide)]; exact g6) (fun j hj => by rw [m8 j hj, lo 42 (by decide), g5 j hj]; exact ⟨rfl, (si j).1⟩) (by rw [lo 6 (by decide), g1]; exact Or.inr rfl) (by rw [lo 6 (by decide), g2]; omega) (fun j hj => by
      rw [lo 6 (by decide), g3 j] at hj
      have := tpf_n ((si j).2.2 hj)
      rw [eCm]; exact ⟨this.1, this.2.1⟩) (fun j hj => by rw [m7 j hj, lo 6 (by decide), g3 j]) (by rw [m4, lo 6 (by decide), g1]) (by rw [m6, lo 6 (by decide), g4]) (by rw [m5, lo 6 (by decide), g2])
    rw [← a3 80 (by decide), ← a3 90 (by decide)]
    exact P3.tlJ m3 vr (by rw [m1 90 (fun z => by unfold kM at z; omega) (by decide) (fun z => by unfold ksm at z; omega), e90]) (q A3 B3 S3 h3 _ _ P3 ⟨a3 0 (by decide), a3 80 (by decide), a3 90 (by decide), a3 91 (by decide)⟩ I3 (by omega) (by omega))
  · refine ⟨fun _ => ⟨v1, v2, v3, 64, 48 * c + 200, by omega, by omega, P.o (k := 80) rfl, ?_⟩, fun z => absurd z (by decide), Or.inl rfl⟩
    exact ref S h P (fun _ _ _ _ _ => rfl) _ (fun a' b' d' => absurd ⟨a', b', d'⟩ a) (fun _ h3 P3 => P3.endX I (Or.inl rfl) il_1 q (by omega) (by omega)) (fun a' b' d' => absurd ⟨a', b', d'⟩ a)
  · rw [← has] at no
    have I1 := I.sc k1 c39
    refine ⟨fun z => absurd z (by decide), fun _ => ⟨v1, v2, v3, 64, 48 * c + 200, by omega, by omega, P1.o (k := 80) rfl, ?_⟩, Or.inr rfl⟩
    refine ref S1 h1 P1 (fun k _ x y _ => k1 k (fun z => by unfold kp5 at z; unfold ks at x; omega)) _ (fun _ _ _ y w => absurd ⟨y, w⟩ no) (fun a' => absurd ⟨a, b, d⟩ a') (fun _ _ _ _ S3 h3 P3 k3 p3 => ?_)
    exact P3.tlX (e := 2) (by rw [k3 80 (by decide) (by decide), su_at]) (Or.inr (Or.inl rfl)) il_2 (q A B S3 h3 _ _ P3 ⟨rfl, rfl, rfl, rfl⟩ (I1.sm k3 p3).nx (by omega) (by omega))
end LWD
