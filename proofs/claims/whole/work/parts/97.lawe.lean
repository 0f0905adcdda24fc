/-! the law: a move -/
theorem IV.mvt {S S' : Nat → Nat → Int} {c : Nat} (I : IV S c) (h : ∀ k, ¬ (k = 8 ∨ k = 48 ∨ k = 129) → ¬ scr k → S' k = S k) (h80 : ∀ i, i ≠ 0 → i ≠ 28 → S' 80 i = S 80 i) (pl : PL S') (c39 : chs (S' 39)) (c49 : chs (S' 49)) (m1 : S' 8 1 = 1) (ph : ∀ j, j < 8 → S' 129 j = S' 48 j ∧ -1 ≤ S' 48 j ∧ S' 48 j ≤ 16) (dk : S' 80 28 = S' 8 2) : IV S' c := by
  have e : ∀ k, k < 39 → (k ≠ 5 ∧ k ≠ 8) → S' k = S k := fun k a b => h k (by omega) (fun z => by unfold scr at z; omega)
  have e4 : ∀ k, 42 ≤ k → k < 80 → (k ≠ 49 ∧ k ≠ 48) → S' k = S k := fun k a b d => h k (by omega) (fun z => by unfold scr at z; omega)
  have e8 : ∀ k, 92 ≤ k → ((k < 130 ∨ 136 ≤ k) ∧ k ≠ 129) → S' k = S k := fun k a b => h k (by omega) (fun z => by unfold scr at z; omega)
  have e81 : S' 81 = S 81 := h 81 (by decide) (fun z => by unfold scr at z; omega)
  have ek : ∀ k, kl k → S' k = S k := fun k hk => h k (by unfold kl at hk; omega) (fun z => by unfold scr at z; unfold kl at hk; omega)
  have eC : EC S' = EC S := EC_of ek
  have eM : EM S' = EM S := by
    funext k i
    unfold EM
    rw [e8 106 (by decide) (by decide), e8 107 (by decide) (by decide), e8 108 (by decide) (by decide), e8 105 (by decide) (by decide), e8 109 (by decide) (by decide), e8 110 (by decide) (by decide), e8 111 (by decide) (by decide), e8 112 (by decide) (by decide), h80 2 (by decide) (by decide) , h80 3 (by decide) (by decide) , h80 4 (by decide) (by decide) ]
  have eN : ntM S' = ntM S := by unfold ntM; rw [h80 4 (by decide) (by decide) ]
  have kgE : ∀ k, kg k → S' k = S k := fun k hk => e k (by unfold kg at hk; omega) (by unfold kg at hk; omega)
  exact mkIV
    (xki := I.ki.of ek (e 31 (by decide) (by decide)))
    (xdg := fun a ha => by rw [e 31 (by decide) (by decide)]; exact I.dg a ha)
    (xl3 := by unfold L3; rw [e4 50 (by decide) (by decide) (by decide), e4 51 (by decide) (by decide) (by decide), e81]; exact I.l3)
    (xri := I.ri.of kgE)
    (xrsz := fun s hs => by rw [e 33 (by decide) (by decide)]; exact I.rsz s hs)
    (xeE := by rw [eM, eC]; exact I.eE)
    (xday := by rw [h80 1 (by decide) (by decide) , e 3 (by decide) (by decide)]; exact I.day)
    (xnow := fun j hj => by rw [e8 113 (by decide) (by decide), e 32 (by decide) (by decide)]; exact I.now j hj)
    (xreg := fun j hj d => by
      rw [eN] at hj
      have := (ntM_8 (S := S) ⟨by rw [I.eE]; exact I.ki.1.2.1, fun j hj => by rw [I.now j hj]; exact I.ri.2.2.2.1 j⟩).1
      rw [LM_of (e8 (170 + j) (by omega) (by omega)) (e8 (190 + j) (by omega) (by omega)), LC_of kgE]; exact I.reg j hj d)
    (xrgm := I.rgm.of (fun k hk => by
      rcases hk with hk | hk | hk | hk
      · exact e4 k (by omega) (by omega) (by omega)
      · exact e4 k (by omega) (by omega) (by omega)
      · rw [hk]; exact e81
      · exact e8 k (by omega) (by omega)) (h80 4 (by decide) (by decide) ))
    (xsz := fun s hs => by rw [e8 (170 + s) (by omega) (by omega)]; exact I.sz s hs)
    (xask := fun j hj => by rw [e8 114 (by decide) (by decide), e4 (70 + j) (by omega) (by omega) (by omega)]; exact I.ask j hj)
    (xbr := by unfold BR; rw [e 36 (by decide) (by decide), e 37 (by decide) (by decide), e 38 (by decide) (by decide), e 3 (by decide) (by decide)]; exact I.br)
    (xbm := by unfold BM; rw [e8 116 (by decide) (by decide), e8 117 (by decide) (by decide), e8 118 (by decide) (by decide), h80 1 (by decide) (by decide) ]; exact I.bm)
    (xb36 := fun i hi => by rw [e8 116 (by decide) (by decide), e 36 (by decide) (by decide)]; exact I.b36 i hi)
    (xb37 := fun i hi => by rw [e8 117 (by decide) (by decide), e 37 (by decide) (by decide)]; exact I.b37 i hi)
    (xb38 := fun i hi => by rw [e8 118 (by decide) (by decide), e 38 (by decide) (by decide)]; exact I.b38 i hi)
    (xfa := by unfold FA; rw [e4 42 (by decide) (by decide) (by decide), e4 43 (by decide) (by decide) (by decide)]; exact I.fa)
    (xpr := fun j hj => by rw [e8 122 (by decide) (by decide), e4 42 (by decide) (by decide) (by decide)]; exact I.pr j hj)
    (xs61 := by rw [e 6 (by decide) (by decide)]; exact I.s61)
    (xs62 := by rw [e 6 (by decide) (by decide)]; exact I.s62)
    (xs63 := by rw [e 6 (by decide) (by decide), eC]; exact I.s63)
    (xst := fun j hj => by rw [e8 123 (by decide) (by decide), e 6 (by decide) (by decide)]; exact I.st j hj)
    (xs19 := by rw [h80 19 (by decide) (by decide) , e 6 (by decide) (by decide)]; exact I.s19)
    (xs20 := by rw [h80 20 (by decide) (by decide) , e 6 (by decide) (by decide)]; exact I.s20)
    (xs21 := by rw [h80 21 (by decide) (by decide) , e 6 (by decide) (by decide)]; exact I.s21)
    (xbd := by unfold BD; rw [e 7 (by decide) (by decide), e4 46 (by decide) (by decide) (by decide)]; exact I.bd)
    (xfb := by unfold FB nB; rw [e4 44 (by decide) (by decide) (by decide), e4 45 (by decide) (by decide) (by decide), e4 46 (by decide) (by decide) (by decide), e 7 (by decide) (by decide)]; exact I.fb)
    (xwr := by rw [e8 125 (by decide) (by decide), e4 46 (by decide) (by decide) (by decide)]; exact I.wr)
    (xgot := fun i hi => by rw [e8 126 (by decide) (by decide), e4 44 (by decide) (by decide) (by decide)]; exact I.got i hi)
    (xpay := fun i hi => by rw [e8 127 (by decide) (by decide), e4 45 (by decide) (by decide) (by decide)]; exact I.pay i hi)
    (xnb := by rw [h80 24 (by decide) (by decide) , e 7 (by decide) (by decide)]; exact I.nb)
    (xm1 := Or.inr m1)
    (xph := ph)
    (xdk := dk)
    (xal := fun z => by rw [m1] at z; omega)
    (xoff := fun j a b => by
      rw [eC] at a
      exact ⟨by rw [e 32 (by decide) (by decide)]; exact (I.ofx j a b).1, by rw [e8 114 (by decide) (by decide)]; exact (I.ofx j a b).2.1, fun d => by rw [LC_of kgE]; exact (I.ofx j a b).2.2 d⟩)
    (xpl := pl)
    (xc39 := c39)
    (xc49 := c49)
theorem mph_out {E : Nat → Nat → Int} {pl : Nat → Int} {cr its : Int} {q : Mst} {j : Nat} (hj : nt E ≤ j) (k : Nat) (hk : k ≤ nt E) : (mph E pl cr its q k).2.1 j = q.2.1 j := by
  induction k with
  | zero => rfl
  | succ k ih =>
    have ih := ih (by omega)
    show (mstep E pl cr its k (mph E pl cr its q k)).2.1 j = _
    unfold mstep
    split
    · show mvn E k (pl k) (mph E pl cr its q k).2.1 j = _
      unfold mvn
      rw [if_neg (by omega), if_neg (fun z => by unfold sil at z; rw [Bool.and_eq_true, decide_eq_true_eq (p := _ ∧ _ ∧ _)] at z; omega)]
      exact ih
    · exact ih
theorem mrun_out {E : Nat → Nat → Int} {pl : Nat → Int} {cr : Int} {j : Nat} (hj : nt E ≤ j) (f : Nat) : ∀ (wt : Nat → Bool) (now ph : Nat → Int) (dk ps : Int), (mrun E pl cr (nt E) f wt now ph dk ps).1 j = now j := by
  induction f with
  | zero => intro wt now ph dk ps; rfl
  | succ f ih =>
    intro wt now ph dk ps
    rw [mrun_s]
    split
    · split
      · rw [ih, mph_out hj _ (Nat.le_refl _)]
      · split
        · rfl
        · rename_i l
          rw [ih]
          rcases lws_in (onw (wt, now, ph, 0)) (nt E) with ⟨y, -⟩ | ⟨b, b0, y, -⟩
          · exact absurd y l
          · rw [y, Int.toNat_natCast, up_ne (by omega)]
    · rfl
section LWE
variable {G : Gx} {A : Nat → Nat} {B : Nat → Nat → Nat} {S : Nat → Nat → Int} {h : hw} {c : Nat}
variable {N : Nat} {xs : Nat → Int32} {i : Int32} {uc us : Nat} {J : hw → Nat → Nat → Prop}
/-- the old state with the new moves -/
def midm (S S3 : Nat → Nat → Int) : Nat → Nat → Int := fun k i => if k = 8 ∨ k = 48 ∨ k = 129 then S3 k i else if k = 80 ∧ i = 28 then S3 80 28 else S k i
theorem midm_k {S S3 : Nat → Nat → Int} {k : Nat} (h : ¬ (k = 8 ∨ k = 48 ∨ k = 129)) (h2 : k ≠ 80) : midm S S3 k = S k := by
  funext i; unfold midm; rw [if_neg h, if_neg (fun z => h2 z.1)]
theorem midm_s {S S3 : Nat → Nat → Int} {k : Nat} (h : k = 8 ∨ k = 48 ∨ k = 129) : midm S S3 k = S3 k := by
  funext i; unfold midm; rw [if_pos h]
theorem midm_80 {S S3 : Nat → Nat → Int} {i : Nat} (h : i ≠ 28) : midm S S3 80 i = S 80 i := by
  unfold midm; rw [if_neg (by decide), if_neg (fun z => h z.2)]
theorem Pic.w2010 (P : Pic G A B S h) (I : IV S c) (hc : c ≤ 511) (v1 : vp_in (i + 1) N) (hu : uc + 70 ≤ 603072) (hv : us + 48 * c + 260 ≤ 7219306) (q : CK G (A 0) (A 80) (A 90) (A 91) c uc us J) : wp_law_2010 G N xs (A 0) (A 80) (A 90) (A 91) i h uc us J := by
  obtain ⟨z1, e1, r1⟩ := ii_ex (xs (Int32.toNatClampNeg (i + 1)))
  unfold wp_law_2010
  rw [e1]
  refine ⟨v1, by omega, by omega, P.o (k := 0) rfl, ?_⟩
  have n4 := I.n4
  obtain ⟨n8, -, -⟩ := ntM_8 I.mo
  obtain ⟨h8, hn⟩ := nt8 I.ki
  have eN : ntM S = nt (EC S) := by unfold ntM; rw [n4, hn]; rfl
  have ref : ∀ (S2 : Nat → Nat → Int) (h2 : hw), Pic G A B S2 h2 → (∀ k, ¬ kr k → ¬ kp5 k → k ≠ 8 → k ≠ 48 → k ≠ 90 → S2 k = S k) → ∀ p : Nat → Int, ((1 ≤ z1 ∧ z1 ≤ 4) → S 6 1 = 1 → okp (EC S) (mvf S) (S 6 2) 0 (fun _ => -1) → fst (EC S) (mvf S) (S 6 2) 0 (fun _ => -1) p) → ∀ post : Int32 → hw → Prop, ((1 ≤ z1 ∧ z1 ≤ 4) → S 6 1 = 1 → okp (EC S) (mvf S) (S 6 2) 0 (fun _ => -1) → ∀ Z, Z = mres (EC S) (mvf S) p (S 32) z1 → ∀ A' B' S' h' uc us, Pic G A' B' S' h' → (∀ k, k < 180 → A' k = A k) → (∀ k, ¬ kmv k → k ≠ 80 → k ≠ 130 → k ≠ 131 → k ≠ 135 → S' k = S2 k) → (∀ i, i ≠ 0 → i ≠ 28 → S' 80 i = S2 80 i) → S' 80 0 = 0 → S' 80 28 = Z.2.2.1 → (∀ j, j < 8 → S' 113 j = Z.1 j) → (∀ j, j < 8 → S' 129 j = Z.2.1 j) → (∀ j, j < 8 → -1 ≤ S' 129 j ∧ S' 129 j ≤ 16) → PL S' → RM S2 S' → RT S2 S' uc us → post (ii Z.2.2.2) h') → (¬ (1 ≤ z1 ∧ z1 ≤ 4) → ∀ h', Pic G A B (su S2 80 0 1) h' → post 0 h') → ((1 ≤ z1 ∧ z1 ≤ 4) → ¬ (S 6 1 = 1 ∧ okp (EC S) (mvf S) (S 6 2) 0 (fun _ => -1)) → ∀ S' h', Pic G A B S' h' → (∀ k, k ≠ 130 → k ≠ 131 → S' k = su S2 80 0 2 k) → PL S' → post 0 h') → wp_X12_move G (A 80) (ii z1) h2 64 (48 * c + 200) post := by
    intro S2 h2 P2 f2 p hp post q1 x1 x2
    have e80 : S2 80 = S 80 := f2 80 (fun z => by unfold kr at z; omega) (fun z => by unfold kp5 at z; omega) (by decide) (by decide) (by decide)
    have f : ∀ k, 100 ≤ k → S2 k = S k := fun k hk => f2 k (fun z => by unfold kr at z; omega) (fun z => by unfold kp5 at z; omega) (by omega) (by omega) (by omega)
    obtain ⟨mo2, eE2, eN2⟩ := I.mo.of (S' := S2) (fun k hk => by
      rcases hk with hk | hk
      · rw [hk]; exact e80
      · exact f k (by omega))
    rw [I.eE] at eE2
    rw [eN] at eN2
    have rg2 : RG S2 := I.rgm.of (fun k hk => f2 k (fun z => by unfold kr at z; omega) (fun z => by unfold kp5 at z; omega) (by omega) (by omega) (by omega)) (by rw [e80])
    refine P2.m_move mo2 (I.pl.of (f 130 (by decide)) (f 131 (by decide))) rg2 (fun j hj d hd => ?_) (by rw [e80]; exact I.day2 hc) (fun t ht => by rw [f _ (by omega)]; have := I.sz t ht; omega) (fun S' uc us r => r.bound (fun s hs => by rw [f _ (by omega)]; have := I.sz s hs; omega)) (now := S 32) (mv := mvf S) (C := S 6 2) (p := p) (fun j hj => by rw [f 113 (by decide)]; exact I.now j hj) (fun j hj => ?_) (fun j hj => ?_) (fun j hj => by rw [f 123 (by decide), I.st j hj]; exact b01 _) (by rw [e80, I.s19]; exact I.s61) (by rw [e80]; exact I.s21) I.s62 r1 (fun r a b => by rw [e80, I.s19] at a; rw [eE2] at b ⊢; exact hp r a b) (fun a b d Z hZ A3 B3 S3 h3 uc3 us3 P3 a3 m1 m2 m3 m4 m5 m6 m7 _ m9 m10 m11 => ?_) (fun a h3 P3 => x1 a h3 P3) (fun a b S3 h3 P3 k3 p3 => x2 a (by rw [e80, I.s19, eE2] at b; exact b) S3 h3 P3 k3 p3)
    · rw [eN2] at hj
      rw [e80] at hd
      rw [LM_of (f _ (by omega)) (f _ (by omega)), f 113 (by decide), I.reg j (by rw [eN]; exact hj) d, I.now j (by omega)]
      exact I.ri.2.2.2.2.1 j (by omega) d (by rw [← I.day]; exact hd)
    · rw [eN2] at hj
      rw [f 123 (by decide), I.st j (by omega)]
      unfold mvf
      cases bt (ii (S 6 3)) j <;> rfl
    · unfold mvf at hj
      rw [Bool.and_eq_true] at hj
      rw [eN2, eE2]; exact I.s63 j hj.1
    · rw [e80, I.s19] at b
      rw [eE2] at d hZ
      exact q1 a b d Z hZ A3 B3 S3 h3 uc3 us3 P3 a3 m1 m2 m3 m4 m5 m6 m7 m9 m10 m11
  refine P.c_move I.ki I.c39 hc I.ri I.s61 I.s62 I.s63 r1 (fun a b p cp hp Z hZ S1 h1 P1 R1 k1 c39 g1 g2 g3 g4 g5 => ?_) (fun a => ?_) (fun a no S1 h1 P1 k1 c39 => ?_)
  · have vr : rg Z.2.2.2 := ⟨by omega, by omega⟩
    refine P1.out vr (fun h2 P2 => ⟨v1, 64, 48 * c + 200, by omega, by omega, P2.o (k := 80) rfl, ?_⟩)
    obtain ⟨S2, hS2⟩ : ∃ S2, S2 = su S1 90 0 Z.2.2.2 := ⟨_, rfl⟩
    rw [← hS2] at P2
    have f2 : ∀ k, ¬ kr k → ¬ kp5 k → k ≠ 8 → k ≠ 48 → k ≠ 90 → S2 k = S k := fun k x y z w t => by rw [hS2, su_row _ _ t, k1 k x y z w]
    have t2 : ∀ k, k ≠ 90 → S2 k = S1 k := fun k x => by rw [hS2, su_row _ _ x]
    have e90 : S2 90 0 = Z.2.2.2 := by rw [hS2, su_at]
    have f : ∀ k, 100 ≤ k → S2 k = S k := fun k hk => f2 k (fun z => by unfold kr at z; omega) (fun z => by unfold kp5 at z; omega) (by omega) (by omega) (by omega)
    have e80 : S2 80 = S 80 := f2 80 (fun z => by unfold kr at z; omega) (fun z => by unfold kp5 at z; omega) (by decide) (by decide) (by decide)
    refine ref S2 h2 P2 f2 p (fun _ _ _ => hp) _ (fun _ _ _ Z2 hZ2 A3 B3 S3 h3 uc3 us3 P3 a3 m1 m2 m3 m4 m5 m6 m7 m9 m10 m11 => ?_) (fun a' => absurd a a') (fun _ no => absurd ⟨b, fst_ok hp⟩ no)
    have eZ : Z2 = Z := by rw [hZ2, hZ]
    subst eZ
    have lo : ∀ k, k < 80 → S3 k = S1 k := fun k hk => by rw [m1 k (fun z => by unfold kmv kM at z; omega) (by omega) (by omega) (by omega) (by omega), t2 k (by omega)]
    have g80 : ∀ i, i ≠ 0 → i ≠ 28 → S3 80 i = S 80 i := fun i x1 x2 => by rw [m2 i x1 x2, e80]
    have n49 : S3 49 = S 49 := by rw [lo 49 (by decide), k1 49 (fun z => by unfold kr at z; omega) (fun z => by unfold kp5 at z; omega) (by decide) (by decide)]
    obtain ⟨Sm, hSm⟩ : ∃ Sm, Sm = midm S S3 := ⟨_, rfl⟩
    have mk : ∀ k, ¬ (k = 8 ∨ k = 48 ∨ k = 129) → k ≠ 80 → Sm k = S k := fun k x y => by rw [hSm]; exact midm_k x y
    have ms : ∀ k, (k = 8 ∨ k = 48 ∨ k = 129) → Sm k = S3 k := fun k x => by rw [hSm]; exact midm_s x
    have m8' : ∀ i, i ≠ 28 → Sm 80 i = S 80 i := fun i x => by rw [hSm]; exact midm_80 x
    have m8s : Sm 80 28 = S3 80 28 := by rw [hSm]; rfl
    have Im : IV Sm c := I.mvt (fun k hk hs => mk k hk (fun z => hs (by unfold scr; omega))) (fun i _ i1 => m8' i i1) (I.pl.of (mk 130 (by decide) (by decide)) (mk 131 (by decide) (by decide))) (by rw [mk 39 (by decide) (by decide)]; exact I.c39) (by rw [mk 49 (by decide) (by decide)]; exact I.c49) (by rw [ms 8 (by decide), lo 8 (by decide)]; exact g1) (fun j hj => by
      have := m7 j hj
      rw [ms 129 (by decide), ms 48 (by decide), lo 48 (by decide), g3 j hj]
      rw [m6 j hj] at this ⊢
      exact ⟨rfl, this⟩) (by rw [m8s, ms 8 (by decide), lo 8 (by decide), g4, m4])
    have eCm : EC Sm = EC S := EC_of (fun k hk => mk k (by unfold kl at hk; omega) (by unfold kl at hk; omega))
    have Rm : RC Sm S1 c := ⟨R1.1, by rw [mk 3 (by decide) (by decide)]; exact R1.2.1, fun j hj d => by
      rw [LC_of (S := S) (fun k hk => mk k (by unfold kg at hk; omega) (by unfold kg at hk; omega)), mk 3 (by decide) (by decide)]; exact R1.2.2 j hj d⟩
    have I3 : IV S3 (c + 1) := Im.reg2 (S2 := S2) Rm (fun k x => lo k (by unfold kg at x; omega)) (fun k x y z => by
      by_cases t : k = 8 ∨ k = 48 ∨ k = 129
      · exact (ms k t).symm
      · have zz : k ≠ 5 ∧ k ≠ 39 ∧ k ≠ 40 ∧ k ≠ 41 ∧ k ≠ 80 ∧ k ≠ 90 ∧ ¬ (130 ≤ k ∧ k < 136) := by unfold scr at z; omega
        rw [mk k t zz.2.2.2.2.1, m1 k (fun u => by unfold kmv at u; exact u.elim x (fun v => t (Or.inr (Or.inr v)))) zz.2.2.2.2.1 (by omega) (by omega) (by omega), f2 k y (fun u => by unfold kp5 at u; omega) (by omega) (by omega) zz.2.2.2.2.2.1]) (fun i hi => by
      by_cases t : i = 28
      · rw [t]; exact m8s.symm
      · rw [m8' i t]; exact g80 i hi t) m9 (by rw [lo 39 (by decide)]; exact c39) (by rw [n49]; exact I.c49) (by unfold ntM; rw [e80, m8' 4 (by decide)]) (by rw [e80, m8' 1 (by decide)]) (fun j hj d => by rw [LM_of (f _ (by unfold ntM at hj; rw [m8' 4 (by decide)] at hj; unfold ntM at n8; omega)) (f _ (by unfold ntM at hj; rw [m8' 4 (by decide)] at hj; unfold ntM at n8; omega))]; exact (LM_of (mk _ (by unfold ntM at hj; rw [m8' 4 (by decide)] at hj; unfold ntM at n8; omega) (by omega)) (mk _ (by unfold ntM at hj; rw [m8' 4 (by decide)] at hj; unfold ntM at n8; omega) (by omega)) d).symm) (fun s hs => by rw [f _ (by omega), mk _ (by omega) (by omega)]) m10 m11 (fun j hj => by rw [m5 j hj, lo 32 (by decide), g2]) (fun z => by rw [ms 8 (by decide), lo 8 (by decide), g1] at z; omega) (fun j hj h9 => by
      rw [eCm] at hj
      rw [lo 32 (by decide), g2, hZ]
      unfold mres
      rw [mrun_out hj]; exact I.off j hj h9)
    rw [← a3 80 (by decide), ← a3 90 (by decide)]
    exact P3.tlJ m3 vr (by rw [m1 90 (fun z => by unfold kmv kM at z; omega) (by decide) (by decide) (by decide) (by decide), e90]) (q A3 B3 S3 h3 _ _ P3 ⟨a3 0 (by decide), a3 80 (by decide), a3 90 (by decide), a3 91 (by decide)⟩ I3 (by omega) (by omega))
  · refine ⟨fun _ => ⟨v1, 64, 48 * c + 200, by omega, by omega, P.o (k := 80) rfl, ?_⟩, fun z => absurd z (by decide), Or.inl rfl⟩
    exact ref S h P (fun _ _ _ _ _ _ => rfl) (fun _ => 0) (fun r => absurd r a) _ (fun a' => absurd a' a) (fun _ h3 P3 => P3.endX I (Or.inl rfl) il_1 q (by omega) (by omega)) (fun a' => absurd a' a)
  · have I1 := I.sc k1 c39
    refine ⟨fun z => absurd z (by decide), fun _ => ⟨v1, 64, 48 * c + 200, by omega, by omega, P1.o (k := 80) rfl, ?_⟩, Or.inr rfl⟩
    refine ref S1 h1 P1 (fun k _ x _ _ _ => k1 k x) (fun _ => 0) (fun _ w ok => absurd ⟨w, ok⟩ no) _ (fun _ w ok => absurd ⟨w, ok⟩ no) (fun a' => absurd a a') (fun _ _ S3 h3 P3 k3 p3 => ?_)
    exact P3.tlX (e := 2) (by rw [k3 80 (by decide) (by decide), su_at]) (Or.inr (Or.inl rfl)) il_2 (q A B S3 h3 _ _ P3 ⟨rfl, rfl, rfl, rfl⟩ (I1.sm k3 p3).nx (by omega) (by omega))
end LWE
