/-! the law: what stands behind c calls -/
def IV (S : Nat → Nat → Int) (c : Nat) : Prop := (KI S) ∧ (dg S) ∧ (L3 S) ∧ (RI S c) ∧ (∀ s, s < 8 → 2 * S 33 s ≤ c + 1) ∧ (EM S = EC S) ∧ (S 80 1 = S 3 1) ∧ (∀ j, j < 8 → S 113 j = S 32 j) ∧ (∀ j : Nat, j < ntM S → ∀ d, LM S j d = LC S j d) ∧ (RG S) ∧ (∀ s, s < 8 → 0 ≤ S (170 + s) 2 ∧ S (170 + s) 2 ≤ 4 * c ∧ 0 ≤ S (170 + s) 3 ∧ S (170 + s) 3 ≤ 6 * c + 20) ∧ (∀ j, j < 8 → S 114 j = S (70 + j) 5 ∧ 0 ≤ S 114 j ∧ S 114 j ≤ 9999) ∧ (BR S) ∧ (BM S) ∧ (∀ i, i < 8 → S 116 i = S 36 i) ∧ (∀ i, i < 64 → S 117 i = S 37 i) ∧ (∀ i, i < 64 → S 118 i = S 38 i) ∧ (FA S) ∧ (∀ j, j < 8 → S 122 j = S 42 j ∧ -1 ≤ S 42 j ∧ S 42 j ≤ 9999) ∧ (S 6 1 = 0 ∨ S 6 1 = 1) ∧ (0 ≤ S 6 2 ∧ S 6 2 ≤ 8) ∧ (∀ j, bt (ii (S 6 3)) j = true → j < nt (EC S) ∧ EC S 7 j = 1) ∧ (∀ j, j < 8 → S 123 j = bI (bt (ii (S 6 3)) j)) ∧ (S 80 19 = S 6 1) ∧ (S 80 20 = S 6 4) ∧ (S 80 21 = S 6 2) ∧ (BD S) ∧ (FB S) ∧ (S 125 = S 46) ∧ (∀ i, i < 4 → S 126 i = S 44 i) ∧ (∀ i, i < 4 → S 127 i = S 45 i) ∧ (S 80 24 = S 7 2) ∧ (S 8 1 = 0 ∨ S 8 1 = 1) ∧ (∀ j, j < 8 → S 129 j = S 48 j ∧ -1 ≤ S 48 j ∧ S 48 j ≤ 16) ∧ (S 80 28 = S 8 2) ∧ (S 8 1 = 0 → alk (EC S) (S 32)) ∧ (∀ j, nt (EC S) ≤ j → j < 8 → S 32 j = -1 ∧ S 114 j = 0 ∧ ∀ d, LC S j d = -1) ∧ (PL S) ∧ (chs (S 39)) ∧ (chs (S 49))
section IVS
variable {S : Nat → Nat → Int} {c : Nat}
theorem IV.ki (I : IV S c) : KI S := I.1
theorem IV.dg (I : IV S c) : dg S := I.2.1
theorem IV.l3 (I : IV S c) : L3 S := I.2.2.1
theorem IV.ri (I : IV S c) : RI S c := I.2.2.2.1
theorem IV.rsz (I : IV S c) : ∀ s, s < 8 → 2 * S 33 s ≤ c + 1 := I.2.2.2.2.1
theorem IV.eE (I : IV S c) : EM S = EC S := I.2.2.2.2.2.1
theorem IV.day (I : IV S c) : S 80 1 = S 3 1 := I.2.2.2.2.2.2.1
theorem IV.now (I : IV S c) : ∀ j, j < 8 → S 113 j = S 32 j := I.2.2.2.2.2.2.2.1
theorem IV.reg (I : IV S c) : ∀ j : Nat, j < ntM S → ∀ d, LM S j d = LC S j d := I.2.2.2.2.2.2.2.2.1
theorem IV.rgm (I : IV S c) : RG S := I.2.2.2.2.2.2.2.2.2.1
theorem IV.sz (I : IV S c) : ∀ s, s < 8 → 0 ≤ S (170 + s) 2 ∧ S (170 + s) 2 ≤ 4 * c ∧ 0 ≤ S (170 + s) 3 ∧ S (170 + s) 3 ≤ 6 * c + 20 := I.2.2.2.2.2.2.2.2.2.2.1
theorem IV.ask (I : IV S c) : ∀ j, j < 8 → S 114 j = S (70 + j) 5 ∧ 0 ≤ S 114 j ∧ S 114 j ≤ 9999 := I.2.2.2.2.2.2.2.2.2.2.2.1
theorem IV.br (I : IV S c) : BR S := I.2.2.2.2.2.2.2.2.2.2.2.2.1
theorem IV.bm (I : IV S c) : BM S := I.2.2.2.2.2.2.2.2.2.2.2.2.2.1
theorem IV.b36 (I : IV S c) : ∀ i, i < 8 → S 116 i = S 36 i := I.2.2.2.2.2.2.2.2.2.2.2.2.2.2.1
theorem IV.b37 (I : IV S c) : ∀ i, i < 64 → S 117 i = S 37 i := I.2.2.2.2.2.2.2.2.2.2.2.2.2.2.2.1
theorem IV.b38 (I : IV S c) : ∀ i, i < 64 → S 118 i = S 38 i := I.2.2.2.2.2.2.2.2.2.2.2.2.2.2.2.2.1
theorem IV.fa (I : IV S c) : FA S := I.2.2.2.2.2.2.2.2.2.2.2.2.2.2.2.2.2.1
theorem IV.pr (I : IV S c) : ∀ j, j < 8 → S 122 j = S 42 j ∧ -1 ≤ S 42 j ∧ S 42 j ≤ 9999 := I.2.2.2.2.2.2.2.2.2.2.2.2.2.2.2.2.2.2.1
theorem IV.s61 (I : IV S c) : S 6 1 = 0 ∨ S 6 1 = 1 := I.2.2.2.2.2.2.2.2.2.2.2.2.2.2.2.2.2.2.2.1
theorem IV.s62 (I : IV S c) : 0 ≤ S 6 2 ∧ S 6 2 ≤ 8 := I.2.2.2.2.2.2.2.2.2.2.2.2.2.2.2.2.2.2.2.2.1
theorem IV.s63 (I : IV S c) : ∀ j, bt (ii (S 6 3)) j = true → j < nt (EC S) ∧ EC S 7 j = 1 := I.2.2.2.2.2.2.2.2.2.2.2.2.2.2.2.2.2.2.2.2.2.1
theorem IV.st (I : IV S c) : ∀ j, j < 8 → S 123 j = bI (bt (ii (S 6 3)) j) := I.2.2.2.2.2.2.2.2.2.2.2.2.2.2.2.2.2.2.2.2.2.2.1
theorem IV.s19 (I : IV S c) : S 80 19 = S 6 1 := I.2.2.2.2.2.2.2.2.2.2.2.2.2.2.2.2.2.2.2.2.2.2.2.1
theorem IV.s20 (I : IV S c) : S 80 20 = S 6 4 := I.2.2.2.2.2.2.2.2.2.2.2.2.2.2.2.2.2.2.2.2.2.2.2.2.1
theorem IV.s21 (I : IV S c) : S 80 21 = S 6 2 := I.2.2.2.2.2.2.2.2.2.2.2.2.2.2.2.2.2.2.2.2.2.2.2.2.2.1
theorem IV.bd (I : IV S c) : BD S := I.2.2.2.2.2.2.2.2.2.2.2.2.2.2.2.2.2.2.2.2.2.2.2.2.2.2.1
theorem IV.fb (I : IV S c) : FB S := I.2.2.2.2.2.2.2.2.2.2.2.2.2.2.2.2.2.2.2.2.2.2.2.2.2.2.2.1
theorem IV.wr (I : IV S c) : S 125 = S 46 := I.2.2.2.2.2.2.2.2.2.2.2.2.2.2.2.2.2.2.2.2.2.2.2.2.2.2.2.2.1
theorem IV.got (I : IV S c) : ∀ i, i < 4 → S 126 i = S 44 i := I.2.2.2.2.2.2.2.2.2.2.2.2.2.2.2.2.2.2.2.2.2.2.2.2.2.2.2.2.2.1
theorem IV.pay (I : IV S c) : ∀ i, i < 4 → S 127 i = S 45 i := I.2.2.2.2.2.2.2.2.2.2.2.2.2.2.2.2.2.2.2.2.2.2.2.2.2.2.2.2.2.2.1
theorem IV.nb (I : IV S c) : S 80 24 = S 7 2 := I.2.2.2.2.2.2.2.2.2.2.2.2.2.2.2.2.2.2.2.2.2.2.2.2.2.2.2.2.2.2.2.1
theorem IV.m1 (I : IV S c) : S 8 1 = 0 ∨ S 8 1 = 1 := I.2.2.2.2.2.2.2.2.2.2.2.2.2.2.2.2.2.2.2.2.2.2.2.2.2.2.2.2.2.2.2.2.1
theorem IV.ph (I : IV S c) : ∀ j, j < 8 → S 129 j = S 48 j ∧ -1 ≤ S 48 j ∧ S 48 j ≤ 16 := I.2.2.2.2.2.2.2.2.2.2.2.2.2.2.2.2.2.2.2.2.2.2.2.2.2.2.2.2.2.2.2.2.2.1
theorem IV.dk (I : IV S c) : S 80 28 = S 8 2 := I.2.2.2.2.2.2.2.2.2.2.2.2.2.2.2.2.2.2.2.2.2.2.2.2.2.2.2.2.2.2.2.2.2.2.1
theorem IV.al (I : IV S c) : S 8 1 = 0 → alk (EC S) (S 32) := I.2.2.2.2.2.2.2.2.2.2.2.2.2.2.2.2.2.2.2.2.2.2.2.2.2.2.2.2.2.2.2.2.2.2.2.1
theorem IV.off (I : IV S c) : ∀ j, nt (EC S) ≤ j → j < 8 → S 32 j = -1 := fun j a b => (I.2.2.2.2.2.2.2.2.2.2.2.2.2.2.2.2.2.2.2.2.2.2.2.2.2.2.2.2.2.2.2.2.2.2.2.2.1 j a b).1
theorem IV.ofx (I : IV S c) : ∀ j, nt (EC S) ≤ j → j < 8 → S 32 j = -1 ∧ S 114 j = 0 ∧ ∀ d, LC S j d = -1 := I.2.2.2.2.2.2.2.2.2.2.2.2.2.2.2.2.2.2.2.2.2.2.2.2.2.2.2.2.2.2.2.2.2.2.2.2.1
theorem IV.pl (I : IV S c) : PL S := I.2.2.2.2.2.2.2.2.2.2.2.2.2.2.2.2.2.2.2.2.2.2.2.2.2.2.2.2.2.2.2.2.2.2.2.2.2.1
theorem IV.c39 (I : IV S c) : chs (S 39) := I.2.2.2.2.2.2.2.2.2.2.2.2.2.2.2.2.2.2.2.2.2.2.2.2.2.2.2.2.2.2.2.2.2.2.2.2.2.2.1
theorem IV.c49 (I : IV S c) : chs (S 49) := I.2.2.2.2.2.2.2.2.2.2.2.2.2.2.2.2.2.2.2.2.2.2.2.2.2.2.2.2.2.2.2.2.2.2.2.2.2.2.2
theorem mkIV (xki : KI S) (xdg : dg S) (xl3 : L3 S) (xri : RI S c) (xrsz : ∀ s, s < 8 → 2 * S 33 s ≤ c + 1) (xeE : EM S = EC S) (xday : S 80 1 = S 3 1) (xnow : ∀ j, j < 8 → S 113 j = S 32 j) (xreg : ∀ j : Nat, j < ntM S → ∀ d, LM S j d = LC S j d) (xrgm : RG S) (xsz : ∀ s, s < 8 → 0 ≤ S (170 + s) 2 ∧ S (170 + s) 2 ≤ 4 * c ∧ 0 ≤ S (170 + s) 3 ∧ S (170 + s) 3 ≤ 6 * c + 20) (xask : ∀ j, j < 8 → S 114 j = S (70 + j) 5 ∧ 0 ≤ S 114 j ∧ S 114 j ≤ 9999) (xbr : BR S) (xbm : BM S) (xb36 : ∀ i, i < 8 → S 116 i = S 36 i) (xb37 : ∀ i, i < 64 → S 117 i = S 37 i) (xb38 : ∀ i, i < 64 → S 118 i = S 38 i) (xfa : FA S) (xpr : ∀ j, j < 8 → S 122 j = S 42 j ∧ -1 ≤ S 42 j ∧ S 42 j ≤ 9999) (xs61 : S 6 1 = 0 ∨ S 6 1 = 1) (xs62 : 0 ≤ S 6 2 ∧ S 6 2 ≤ 8) (xs63 : ∀ j, bt (ii (S 6 3)) j = true → j < nt (EC S) ∧ EC S 7 j = 1) (xst : ∀ j, j < 8 → S 123 j = bI (bt (ii (S 6 3)) j)) (xs19 : S 80 19 = S 6 1) (xs20 : S 80 20 = S 6 4) (xs21 : S 80 21 = S 6 2) (xbd : BD S) (xfb : FB S) (xwr : S 125 = S 46) (xgot : ∀ i, i < 4 → S 126 i = S 44 i) (xpay : ∀ i, i < 4 → S 127 i = S 45 i) (xnb : S 80 24 = S 7 2) (xm1 : S 8 1 = 0 ∨ S 8 1 = 1) (xph : ∀ j, j < 8 → S 129 j = S 48 j ∧ -1 ≤ S 48 j ∧ S 48 j ≤ 16) (xdk : S 80 28 = S 8 2) (xal : S 8 1 = 0 → alk (EC S) (S 32)) (xoff : ∀ j, nt (EC S) ≤ j → j < 8 → S 32 j = -1 ∧ S 114 j = 0 ∧ ∀ d, LC S j d = -1) (xpl : PL S) (xc39 : chs (S 39)) (xc49 : chs (S 49)) : IV S c := ⟨xki, xdg, xl3, xri, xrsz, xeE, xday, xnow, xreg, xrgm, xsz, xask, xbr, xbm, xb36, xb37, xb38, xfa, xpr, xs61, xs62, xs63, xst, xs19, xs20, xs21, xbd, xfb, xwr, xgot, xpay, xnb, xm1, xph, xdk, xal, xoff, xpl, xc39, xc49⟩
end IVS
/-- the keys that say nothing from call to call -/
def scr (k : Nat) : Prop := k = 5 ∨ k = 39 ∨ k = 40 ∨ k = 41 ∨ k = 49 ∨ k = 80 ∨ k = 90 ∨ k = 91 ∨ (130 ≤ k ∧ k < 136)
theorem IV.of {S S' : Nat → Nat → Int} {c : Nat} (I : IV S c) (h : ∀ k, ¬ scr k → S' k = S k) (h80 : ∀ i, i ≠ 0 → S' 80 i = S 80 i) (pl : PL S') (c39 : chs (S' 39)) (c49 : chs (S' 49)) : IV S' c := by
  have e : ∀ k, k < 39 → k ≠ 5 → S' k = S k := fun k a b => h k (fun z => by unfold scr at z; omega)
  have e4 : ∀ k, 42 ≤ k → k < 80 → k ≠ 49 → S' k = S k := fun k a b d => h k (fun z => by unfold scr at z; omega)
  have e8 : ∀ k, 92 ≤ k → (k < 130 ∨ 136 ≤ k) → S' k = S k := fun k a b => h k (fun z => by unfold scr at z; omega)
  have e81 : S' 81 = S 81 := h 81 (fun z => by unfold scr at z; omega)
  have ek : ∀ k, kl k → S' k = S k := fun k hk => h k (fun z => by unfold scr at z; unfold kl at hk; omega)
  have eC : EC S' = EC S := EC_of ek
  have eM : EM S' = EM S := by
    funext k i
    unfold EM
    rw [e8 106 (by decide) (by decide), e8 107 (by decide) (by decide), e8 108 (by decide) (by decide), e8 105 (by decide) (by decide), e8 109 (by decide) (by decide), e8 110 (by decide) (by decide), e8 111 (by decide) (by decide), e8 112 (by decide) (by decide), h80 2 (by decide), h80 3 (by decide), h80 4 (by decide)]
  have eN : ntM S' = ntM S := by unfold ntM; rw [h80 4 (by decide)]
  have kgE : ∀ k, kg k → S' k = S k := fun k hk => e k (by unfold kg at hk; omega) (by unfold kg at hk; omega)
  exact mkIV
    (xki := I.ki.of ek (e 31 (by decide) (by decide)))
    (xdg := fun a ha => by rw [e 31 (by decide) (by decide)]; exact I.dg a ha)
    (xl3 := by unfold L3; rw [e4 50 (by decide) (by decide) (by decide), e4 51 (by decide) (by decide) (by decide), e81]; exact I.l3)
    (xri := I.ri.of kgE)
    (xrsz := fun s hs => by rw [e 33 (by decide) (by decide)]; exact I.rsz s hs)
    (xeE := by rw [eM, eC]; exact I.eE)
    (xday := by rw [h80 1 (by decide), e 3 (by decide) (by decide)]; exact I.day)
    (xnow := fun j hj => by rw [e8 113 (by decide) (by decide), e 32 (by decide) (by decide)]; exact I.now j hj)
    (xreg := fun j hj d => by
      rw [eN] at hj
      have := (ntM_8 (S := S) ⟨by rw [I.eE]; exact I.ki.1.2.1, fun j hj => by rw [I.now j hj]; exact I.ri.2.2.2.1 j⟩).1
      rw [LM_of (e8 (170 + j) (by omega) (by omega)) (e8 (190 + j) (by omega) (by omega)), LC_of kgE]; exact I.reg j hj d)
    (xrgm := I.rgm.of (fun k hk => by
      rcases hk with hk | hk | hk | hk
      · exact e4 k (by omega) (by omega) (by omega)
      · exact e4 k (by omega) (by omega) (by omega)
      · rw [hk]; exact e81
      · exact e8 k (by omega) (by omega)) (h80 4 (by decide)))
    (xsz := fun s hs => by rw [e8 (170 + s) (by omega) (by omega)]; exact I.sz s hs)
    (xask := fun j hj => by rw [e8 114 (by decide) (by decide), e4 (70 + j) (by omega) (by omega) (by omega)]; exact I.ask j hj)
    (xbr := by unfold BR; rw [e 36 (by decide) (by decide), e 37 (by decide) (by decide), e 38 (by decide) (by decide), e 3 (by decide) (by decide)]; exact I.br)
    (xbm := by unfold BM; rw [e8 116 (by decide) (by decide), e8 117 (by decide) (by decide), e8 118 (by decide) (by decide), h80 1 (by decide)]; exact I.bm)
    (xb36 := fun i hi => by rw [e8 116 (by decide) (by decide), e 36 (by decide) (by decide)]; exact I.b36 i hi)
    (xb37 := fun i hi => by rw [e8 117 (by decide) (by decide), e 37 (by decide) (by decide)]; exact I.b37 i hi)
    (xb38 := fun i hi => by rw [e8 118 (by decide) (by decide), e 38 (by decide) (by decide)]; exact I.b38 i hi)
    (xfa := by unfold FA; rw [e4 42 (by decide) (by decide) (by decide), e4 43 (by decide) (by decide) (by decide)]; exact I.fa)
    (xpr := fun j hj => by rw [e8 122 (by decide) (by decide), e4 42 (by decide) (by decide) (by decide)]; exact I.pr j hj)
    (xs61 := by rw [e 6 (by decide) (by decide)]; exact I.s61)
    (xs62 := by rw [e 6 (by decide) (by decide)]; exact I.s62)
    (xs63 := by rw [e 6 (by decide) (by decide), eC]; exact I.s63)
    (xst := fun j hj => by rw [e8 123 (by decide) (by decide), e 6 (by decide) (by decide)]; exact I.st j hj)
    (xs19 := by rw [h80 19 (by decide), e 6 (by decide) (by decide)]; exact I.s19)
    (xs20 := by rw [h80 20 (by decide), e 6 (by decide) (by decide)]; exact I.s20)
    (xs21 := by rw [h80 21 (by decide), e 6 (by decide) (by decide)]; exact I.s21)
    (xbd := by unfold BD; rw [e 7 (by decide) (by decide), e4 46 (by decide) (by decide) (by decide)]; exact I.bd)
    (xfb := by unfold FB nB; rw [e4 44 (by decide) (by decide) (by decide), e4 45 (by decide) (by decide) (by decide), e4 46 (by decide) (by decide) (by decide), e 7 (by decide) (by decide)]; exact I.fb)
    (xwr := by rw [e8 125 (by decide) (by decide), e4 46 (by decide) (by decide) (by decide)]; exact I.wr)
    (xgot := fun i hi => by rw [e8 126 (by decide) (by decide), e4 44 (by decide) (by decide) (by decide)]; exact I.got i hi)
    (xpay := fun i hi => by rw [e8 127 (by decide) (by decide), e4 45 (by decide) (by decide) (by decide)]; exact I.pay i hi)
    (xnb := by rw [h80 24 (by decide), e 7 (by decide) (by decide)]; exact I.nb)
    (xm1 := by rw [e 8 (by decide) (by decide)]; exact I.m1)
    (xph := fun j hj => by rw [e8 129 (by decide) (by decide), e4 48 (by decide) (by decide) (by decide)]; exact I.ph j hj)
    (xdk := by rw [h80 28 (by decide), e 8 (by decide) (by decide)]; exact I.dk)
    (xal := by rw [e 8 (by decide) (by decide), eC, e 32 (by decide) (by decide)]; exact I.al)
    (xoff := fun j a b => by
      rw [eC] at a
      exact ⟨by rw [e 32 (by decide) (by decide)]; exact (I.ofx j a b).1, by rw [e8 114 (by decide) (by decide)]; exact (I.ofx j a b).2.1, fun d => by rw [LC_of kgE]; exact (I.ofx j a b).2.2 d⟩)
    (xpl := pl)
    (xc39 := c39)
    (xc49 := c49)
/-- one call on -/
theorem RI.nx {S : Nat → Nat → Int} {c : Nat} (R : RI S c) : RI S (c + 1) := ⟨fun s hs => by
    obtain ⟨a, b, d⟩ := R.1 s hs
    refine ⟨a, by omega, fun x y => ?_⟩
    have := d x y; omega, R.2.1, R.2.2.1, R.2.2.2.1, R.2.2.2.2.1, by have := R.2.2.2.2.2.1; omega, R.2.2.2.2.2.2⟩
theorem IV.nx {S : Nat → Nat → Int} {c : Nat} (I : IV S c) : IV S (c + 1) := mkIV (xki := I.ki) (xdg := I.dg) (xl3 := I.l3) (xri := I.ri.nx) (xrsz := (fun s hs => by have := I.rsz s hs; omega)) (xeE := I.eE) (xday := I.day) (xnow := I.now) (xreg := I.reg) (xrgm := I.rgm) (xsz := (fun s hs => by have := I.sz s hs; omega)) (xask := I.ask) (xbr := I.br) (xbm := I.bm) (xb36 := I.b36) (xb37 := I.b37) (xb38 := I.b38) (xfa := I.fa) (xpr := I.pr) (xs61 := I.s61) (xs62 := I.s62) (xs63 := I.s63) (xst := I.st) (xs19 := I.s19) (xs20 := I.s20) (xs21 := I.s21) (xbd := I.bd) (xfb := I.fb) (xwr := I.wr) (xgot := I.got) (xpay := I.pay) (xnb := I.nb) (xm1 := I.m1) (xph := I.ph) (xdk := I.dk) (xal := I.al) (xoff := I.ofx) (xpl := I.pl) (xc39 := I.c39) (xc49 := I.c49)
