/-! the law: the ratio -/
theorem IV.ra {S S' : Nat → Nat → Int} {c : Nat} (I : IV S c) (h : ∀ k, ¬ (k = 1) → ¬ scr k → S' k = S k) (h80 : ∀ i, i ≠ 0 → i ≠ 2 → S' 80 i = S 80 i) (pl : PL S') (c39 : chs (S' 39)) (c49 : chs (S' 49)) {r : Int} (hr : 0 ≤ r ∧ r ≤ 500) (h12 : S' 1 2 = r) (h802 : S' 80 2 = r) (hoff : ∀ j, j < 8 → S 32 j = -1) : IV S' c := by
  have e : ∀ k, k < 39 → (k ≠ 5 ∧ k ≠ 1) → S' k = S k := fun k a b => h k (by omega) (fun z => by unfold scr at z; omega)
  have e4 : ∀ k, 42 ≤ k → k < 80 → (k ≠ 49 ∧ 0 ≤ k) → S' k = S k := fun k a b d => h k (by omega) (fun z => by unfold scr at z; omega)
  have e8 : ∀ k, 92 ≤ k → ((k < 130 ∨ 136 ≤ k) ∧ 0 ≤ k) → S' k = S k := fun k a b => h k (by omega) (fun z => by unfold scr at z; omega)
  have e81 : S' 81 = S 81 := h 81 (by decide) (fun z => by unfold scr at z; omega)
  have eK : ∀ k i, k < 8 → EC S' k i = EC S k i := fun k i hk => by
    unfold EC
    have e6 : ∀ j, j < 10 → S' (60 + j) = S (60 + j) := fun j hj => e4 _ (by omega) (by omega) (by omega)
    have e7 : ∀ j, j < 8 → S' (70 + j) = S (70 + j) := fun j hj => e4 _ (by omega) (by omega) (by omega)
    have k8 : k = 0 ∨ k = 1 ∨ k = 2 ∨ k = 3 ∨ k = 4 ∨ k = 5 ∨ k = 6 ∨ k = 7 := by omega
    rw [e 30 (by decide) (by decide)]
    by_cases q : i < 8
    · rw [e6 i (by omega), e7 i q]
      rcases k8 with z | z | z | z | z | z | z | z <;> subst z <;> rfl
    · by_cases q2 : i < 10
      · rw [e6 i q2]
        rcases k8 with z | z | z | z | z | z | z | z <;> subst z <;> first | rfl | (show (if i < 8 then _ else _) = (if i < 8 then _ else _); rw [if_neg q, if_neg q])
      · rcases k8 with z | z | z | z | z | z | z | z <;> subst z <;> first | rfl | (show (if i < 8 then _ else _) = (if i < 8 then _ else _); rw [if_neg q, if_neg q]) | (show (if i < 10 then _ else _) = (if i < 10 then _ else _); rw [if_neg q2, if_neg q2])
  have e81' : EC S' 8 1 = EC S 8 1 := by show S' 51 2 = S 51 2; rw [e4 51 (by decide) (by decide) (by decide)]
  have e82' : EC S' 8 2 = EC S 8 2 := by show S' 50 2 = S 50 2; rw [e4 50 (by decide) (by decide) (by decide)]
  have e80' : EC S' 8 0 = r := h12
  have eNt : nt (EC S') = nt (EC S) := by unfold nt; rw [e81']
  have eOK : EOK (EC S') := by
    obtain ⟨o0, o1, o2, o3, o4, o5, o6, o7, o8, o9, o10⟩ := I.ki.1.2.1
    refine ⟨fun i => by rw [eK 0 i (by decide)]; exact o0 i, fun i => by rw [eK 1 i (by decide)]; exact o1 i, fun i => by rw [eK 2 i (by decide)]; exact o2 i, fun i => by rw [eK 3 i (by decide)]; exact o3 i, fun i => by rw [eK 4 i (by decide), e81', e82']; exact o4 i, fun i => by rw [eK 5 i (by decide), e81', e82']; exact o5 i, fun i => by rw [eK 6 i (by decide)]; exact o6 i, fun i => by rw [eK 7 i (by decide)]; exact o7 i, by rw [e80']; exact hr, by rw [e81']; exact o9, by rw [e82']; exact o10⟩
  have eMC : EM S' = EC S' := by
    funext k i
    have eX : ∀ k i, k < 8 → EM S' k i = EM S k i := fun k i hk => by
      unfold EM
      rw [e8 106 (by decide) (by decide), e8 107 (by decide) (by decide), e8 108 (by decide) (by decide), e8 105 (by decide) (by decide), e8 109 (by decide) (by decide), e8 110 (by decide) (by decide), e8 111 (by decide) (by decide), e8 112 (by decide) (by decide)]
      have k8 : k = 0 ∨ k = 1 ∨ k = 2 ∨ k = 3 ∨ k = 4 ∨ k = 5 ∨ k = 6 ∨ k = 7 := by omega
      rcases k8 with z | z | z | z | z | z | z | z <;> subst z <;> rfl
    by_cases k8 : k < 8
    · rw [eX k i k8, eK k i k8, I.eE]
    · unfold EM EC
      rw [if_neg (by omega), if_neg (by omega), if_neg (by omega), if_neg (by omega), if_neg (by omega), if_neg (by omega), if_neg (by omega), if_neg (by omega), if_neg (show ¬ k = 0 by omega), if_neg (show ¬ k = 1 by omega), if_neg (show ¬ k = 2 by omega), if_neg (show ¬ k = 3 by omega), if_neg (show ¬ k = 4 by omega), if_neg (show ¬ k = 5 by omega), if_neg (show ¬ k = 6 by omega), if_neg (show ¬ k = 7 by omega), h12, h802, h80 3 (by decide) (by decide), h80 4 (by decide) (by decide), e4 51 (by decide) (by decide) (by decide), e4 50 (by decide) (by decide) (by decide), I.n3, I.n4]
  have eN : ntM S' = ntM S := by unfold ntM; rw [h80 4 (by decide) (by decide) ]
  have kgE : ∀ k, kg k → S' k = S k := fun k hk => e k (by unfold kg at hk; omega) (by unfold kg at hk; omega)
  exact mkIV
    (xki := ⟨⟨by
      have := I.ki.1.1
      unfold LOK at this ⊢
      rw [e4 50 (by decide) (by decide) (by decide), e4 51 (by decide) (by decide) (by decide)]; exact this, eOK, fun j hj => by
      have h8 := I.ki.1.1.2.2.1
      rw [e4 51 (by decide) (by decide) (by decide)] at hj
      rw [e4 (70 + j) (by omega) (by omega) (by omega)]; exact I.ki.1.2.2 j hj⟩, fun a b ha hb => by
      rw [e4 50 (by decide) (by decide) (by decide)] at ha hb
      rw [e 31 (by decide) (by decide), lossE_cg (fun k hk => ⟨eK k a (by omega), eK k b (by omega)⟩) (funext fun i => eK 3 i (by decide))]; exact I.ki.2 a b ha hb⟩)
    (xdg := fun a ha => by rw [e 31 (by decide) (by decide)]; exact I.dg a ha)
    (xl3 := by unfold L3; rw [e4 50 (by decide) (by decide) (by decide), e4 51 (by decide) (by decide) (by decide), e81]; exact I.l3)
    (xri := I.ri.of kgE)
    (xrsz := fun s hs => by rw [e 33 (by decide) (by decide)]; exact I.rsz s hs)
    (xeE := eMC)
    (xday := by rw [h80 1 (by decide) (by decide) , e 3 (by decide) (by decide)]; exact I.day)
    (xnow := fun j hj => by rw [e8 113 (by decide) (by decide), e 32 (by decide) (by decide)]; exact I.now j hj)
    (xreg := fun j hj d => by
      rw [eN] at hj
      have := (ntM_8 (S := S) ⟨by rw [I.eE]; exact I.ki.1.2.1, fun j hj => by rw [I.now j hj]; exact I.ri.2.2.2.1 j⟩).1
      rw [LM_of (e8 (170 + j) (by omega) (by omega)) (e8 (190 + j) (by omega) (by omega)), LC_of kgE]; exact I.reg j hj d)
    (xrgm := I.rgm.of (fun k hk => by
      rcases hk with hk | hk | hk | hk
      · exact e4 k (by omega) (by omega) (by omega)
      · exact e4 k (by omega) (by omega) (by omega)
      · rw [hk]; exact e81
      · exact e8 k (by omega) (by omega)) (h80 4 (by decide) (by decide) ))
    (xsz := fun s hs => by rw [e8 (170 + s) (by omega) (by omega)]; exact I.sz s hs)
    (xask := fun j hj => by rw [e8 114 (by decide) (by decide), e4 (70 + j) (by omega) (by omega) (by omega)]; exact I.ask j hj)
    (xbr := by unfold BR; rw [e 36 (by decide) (by decide), e 37 (by decide) (by decide), e 38 (by decide) (by decide), e 3 (by decide) (by decide)]; exact I.br)
    (xbm := by unfold BM; rw [e8 116 (by decide) (by decide), e8 117 (by decide) (by decide), e8 118 (by decide) (by decide), h80 1 (by decide) (by decide) ]; exact I.bm)
    (xb36 := fun i hi => by rw [e8 116 (by decide) (by decide), e 36 (by decide) (by decide)]; exact I.b36 i hi)
    (xb37 := fun i hi => by rw [e8 117 (by decide) (by decide), e 37 (by decide) (by decide)]; exact I.b37 i hi)
    (xb38 := fun i hi => by rw [e8 118 (by decide) (by decide), e 38 (by decide) (by decide)]; exact I.b38 i hi)
    (xfa := by unfold FA; rw [e4 42 (by decide) (by decide) (by decide), e4 43 (by decide) (by decide) (by decide)]; exact I.fa)
    (xpr := fun j hj => by rw [e8 122 (by decide) (by decide), e4 42 (by decide) (by decide) (by decide)]; exact I.pr j hj)
    (xs61 := by rw [e 6 (by decide) (by decide)]; exact I.s61)
    (xs62 := by rw [e 6 (by decide) (by decide)]; exact I.s62)
    (xs63 := by rw [e 6 (by decide) (by decide)]; exact fun j hj => by rw [eK 7 j (by decide), eNt]; exact I.s63 j hj)
    (xst := fun j hj => by rw [e8 123 (by decide) (by decide), e 6 (by decide) (by decide)]; exact I.st j hj)
    (xs19 := by rw [h80 19 (by decide) (by decide) , e 6 (by decide) (by decide)]; exact I.s19)
    (xs20 := by rw [h80 20 (by decide) (by decide) , e 6 (by decide) (by decide)]; exact I.s20)
    (xs21 := by rw [h80 21 (by decide) (by decide) , e 6 (by decide) (by decide)]; exact I.s21)
    (xbd := by unfold BD; rw [e 7 (by decide) (by decide), e4 46 (by decide) (by decide) (by decide)]; exact I.bd)
    (xfb := by unfold FB nB; rw [e4 44 (by decide) (by decide) (by decide), e4 45 (by decide) (by decide) (by decide), e4 46 (by decide) (by decide) (by decide), e 7 (by decide) (by decide)]; exact I.fb)
    (xwr := by rw [e8 125 (by decide) (by decide), e4 46 (by decide) (by decide) (by decide)]; exact I.wr)
    (xgot := fun i hi => by rw [e8 126 (by decide) (by decide), e4 44 (by decide) (by decide) (by decide)]; exact I.got i hi)
    (xpay := fun i hi => by rw [e8 127 (by decide) (by decide), e4 45 (by decide) (by decide) (by decide)]; exact I.pay i hi)
    (xnb := by rw [h80 24 (by decide) (by decide) , e 7 (by decide) (by decide)]; exact I.nb)
    (xm1 := by rw [e 8 (by decide) (by decide)]; exact I.m1)
    (xph := fun j hj => by rw [e8 129 (by decide) (by decide), e4 48 (by decide) (by decide) (by decide)]; exact I.ph j hj)
    (xdk := by rw [h80 28 (by decide) (by decide) , e 8 (by decide) (by decide)]; exact I.dk)
    (xal := fun _ i hi h7 hc => by
      have g8 := (nt8 I.ki).1
      rw [eNt] at hi
      have o := hoff i (by omega)
      rw [e 32 (by decide) (by decide)] at hc
      exact absurd o hc)
    (xoff := fun j a b => by
      rw [eNt] at a
      exact ⟨by rw [e 32 (by decide) (by decide)]; exact (I.ofx j a b).1, by rw [e8 114 (by decide) (by decide)]; exact (I.ofx j a b).2.1, fun d => by rw [LC_of kgE]; exact (I.ofx j a b).2.2 d⟩)
    (xpl := pl)
    (xc39 := c39)
    (xc49 := c49)
section LWG
variable {G : Gx} {A : Nat → Nat} {B : Nat → Nat → Nat} {S : Nat → Nat → Int} {h : hw} {c : Nat}
variable {N : Nat} {xs : Nat → Int32} {i : Int32} {uc us : Nat} {J : hw → Nat → Nat → Prop}
theorem alloff (I : IV S c) {S2 : Nat → Nat → Int} (e113 : S2 113 = S 113) (eN : ntM S2 = ntM S) : (∀ j, j < ntM S2 → S2 113 j = -1) ↔ ∀ j, j < 8 → S 32 j = -1 := by
  obtain ⟨n8, -, n5⟩ := ntM_8 I.mo
  rw [I.eE] at n5
  rw [eN, e113]
  exact ⟨fun w j hj => by
    by_cases y : j < ntM S
    · rw [← I.now j hj]; exact w j y
    · exact I.off j (by omega) hj, fun w j hj => by rw [I.now j (by omega)]; exact w j (by omega)⟩
theorem Pic.w528 (P : Pic G A B S h) (I : IV S c) (v1 : vp_in (i + 1) N) (hu : uc + 70 ≤ 603072) (hv : us + 48 * c + 260 ≤ 7219306) (q : CK G (A 0) (A 80) (A 90) (A 91) c uc us J) : wp_law_528 G N xs (A 0) (A 80) (A 90) (A 91) i h uc us J := by
  obtain ⟨z1, e1, r1⟩ := ii_ex (xs (Int32.toNatClampNeg (i + 1)))
  unfold wp_law_528
  rw [e1]
  refine ⟨v1, by omega, by omega, P.o (k := 0) rfl, ?_⟩
  have e12 : S 80 2 = S 1 2 := congrFun (congrFun I.eE 8) 0
  have ok := I.ki.1.2.1.2.2.2.2.2.2.2.2.1
  have ok : 0 ≤ S 1 2 ∧ S 1 2 ≤ 500 := ok
  have vr : rg (S 1 2) := ⟨by omega, by omega⟩
  refine P.c_setRatio I.ri.2.2.2.1 r1 (fun a b h1 P1 => ?_) (fun a => ?_) (fun a b => ?_)
  · refine P1.out vr (fun h2 P2 => ⟨v1, P2.o (k := 80) rfl, ?_⟩)
    obtain ⟨S2, hS2⟩ : ∃ S2, S2 = su (su S 1 2 z1) 90 0 (S 1 2) := ⟨_, rfl⟩
    rw [← hS2] at P2
    have f2 : ∀ k, k ≠ 1 → k ≠ 90 → S2 k = S k := fun k x w => by rw [hS2, su_row _ _ w, su_row _ _ x]
    obtain ⟨mo2, -, eN2⟩ := I.mo.of (S' := S2) (fun k hk => f2 k (by omega) (by omega))
    have ao := alloff I (f2 113 (by decide) (by decide)) eN2
    refine P2.m_setRatio mo2 r1 (fun _ _ h3 P3 => ?_) (fun a' => absurd a a') (fun _ b' => absurd (ao.mpr b) b')
    rw [f2 80 (by decide) (by decide), e12]
    have f3 : ∀ k, k ≠ 1 → k ≠ 90 → k ≠ 80 → su (su S2 80 0 0) 80 2 z1 k = S k := fun k x w y => by rw [su_row _ _ y, su_row _ _ y, f2 k x w]
    refine P3.tlJ (by rw [su_nei _ _ _ (by decide), su_at]) vr (by rw [su_ne _ _ _ (by decide), su_ne _ _ _ (by decide), hS2, su_at]) (q A B _ h3 _ _ P3 ⟨rfl, rfl, rfl, rfl⟩ (IV.nx (I.ra (fun k hk hs => f3 k hk (fun z => hs (by unfold scr; omega)) (fun z => hs (by unfold scr; omega))) (fun i i0 i2 => by rw [su_nei _ _ _ i2, su_nei _ _ _ i0, f2 80 (by decide) (by decide)]) (I.pl.of (f3 130 (by decide) (by decide) (by decide)) (f3 131 (by decide) (by decide) (by decide))) (by rw [f3 39 (by decide) (by decide) (by decide)]; exact I.c39) (by rw [f3 49 (by decide) (by decide) (by decide)]; exact I.c49) a (by rw [su_ne _ _ _ (by decide), su_ne _ _ _ (by decide), hS2, su_ne _ _ _ (by decide), su_at]) (by rw [su_at]) b)) (by omega) (by omega))
  · refine ⟨fun _ => ⟨v1, P.o (k := 80) rfl, ?_⟩, fun z => absurd z (by decide), Or.inl rfl⟩
    exact P.m_setRatio I.mo r1 (fun a' => absurd a' a) (fun a' h3 P3 => P3.endX I (Or.inl rfl) il_1 q (by omega) (by omega)) (fun a' => absurd a' a)
  · have ao := alloff I (S2 := S) rfl rfl
    refine ⟨fun z => absurd z (by decide), fun _ => ⟨v1, P.o (k := 80) rfl, ?_⟩, Or.inr rfl⟩
    exact P.m_setRatio I.mo r1 (fun _ b' => absurd (ao.mp b') b) (fun a' => absurd a a') (fun _ _ h3 P3 => P3.endX I (Or.inr (Or.inl rfl)) il_2 q (by omega) (by omega))
end LWG
