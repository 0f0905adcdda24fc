/-! the law: the register -/
theorem IV.rg {S S' : Nat → Nat → Int} {c : Nat} (I : IV S c) (h : ∀ k, ¬ (k = 32 ∨ k = 33 ∨ k = 34 ∨ k = 35 ∨ k = 113 ∨ k = 170 ∨ k = 171 ∨ k = 172 ∨ k = 173 ∨ k = 174 ∨ k = 175 ∨ k = 176 ∨ k = 177 ∨ k = 190 ∨ k = 191 ∨ k = 192 ∨ k = 193 ∨ k = 194 ∨ k = 195 ∨ k = 196 ∨ k = 197) → ¬ scr k → S' k = S k) (h80 : ∀ i, i ≠ 0 → S' 80 i = S 80 i) (pl : PL S') (c39 : chs (S' 39)) (c49 : chs (S' 49)) (R : RI S' c) (n8 : ntM S ≤ 8) (lc : ∀ j, j < 8 → ∀ d, LC S' j d = if S 3 1 ≤ d then S' 32 j else LC S j d) (lm : ∀ j : Nat, j < ntM S → ∀ d, LM S' j d = if S 3 1 ≤ d then S' 32 j else LM S j d) (now : ∀ j, j < 8 → S' 113 j = S' 32 j) (rgm : RG S') (sz : ∀ s, s < 8 → 0 ≤ S' (170 + s) 2 ∧ S' (170 + s) 2 ≤ 4 * (c + 1 : Nat) ∧ 0 ≤ S' (170 + s) 3 ∧ S' (170 + s) 3 ≤ 6 * (c + 1 : Nat) + 20) (al : S 8 1 = 0 → alk (EC S) (S' 32)) (off : ∀ j, nt (EC S) ≤ j → j < 8 → S' 32 j = -1) : IV S' (c + 1) := by
  have e : ∀ k, k < 39 → (k ≠ 5 ∧ k ≠ 32 ∧ k ≠ 33 ∧ k ≠ 34 ∧ k ≠ 35) → S' k = S k := fun k a b => h k (by omega) (fun z => by unfold scr at z; omega)
  have e4 : ∀ k, 42 ≤ k → k < 80 → (k ≠ 49 ∧ k ≠ 1000) → S' k = S k := fun k a b d => h k (by omega) (fun z => by unfold scr at z; omega)
  have e8 : ∀ k, 92 ≤ k → ((k < 130 ∨ 136 ≤ k) ∧ k ≠ 113 ∧ k ≠ 170 ∧ k ≠ 171 ∧ k ≠ 172 ∧ k ≠ 173 ∧ k ≠ 174 ∧ k ≠ 175 ∧ k ≠ 176 ∧ k ≠ 177 ∧ k ≠ 190 ∧ k ≠ 191 ∧ k ≠ 192 ∧ k ≠ 193 ∧ k ≠ 194 ∧ k ≠ 195 ∧ k ≠ 196 ∧ k ≠ 197) → S' k = S k := fun k a b => h k (by omega) (fun z => by unfold scr at z; omega)
  have e81 : S' 81 = S 81 := h 81 (by decide) (fun z => by unfold scr at z; omega)
  have ek : ∀ k, kl k → S' k = S k := fun k hk => h k (by unfold kl at hk; omega) (fun z => by unfold scr at z; unfold kl at hk; omega)
  have eC : EC S' = EC S := EC_of ek
  have eM : EM S' = EM S := by
    funext k i
    unfold EM
    rw [e8 106 (by decide) (by decide), e8 107 (by decide) (by decide), e8 108 (by decide) (by decide), e8 105 (by decide) (by decide), e8 109 (by decide) (by decide), e8 110 (by decide) (by decide), e8 111 (by decide) (by decide), e8 112 (by decide) (by decide), h80 2 (by decide), h80 3 (by decide), h80 4 (by decide)]
  have eN : ntM S' = ntM S := by unfold ntM; rw [h80 4 (by decide)]
  exact mkIV
    (xki := I.ki.of ek (e 31 (by decide) (by decide)))
    (xdg := fun a ha => by rw [e 31 (by decide) (by decide)]; exact I.dg a ha)
    (xl3 := by unfold L3; rw [e4 50 (by decide) (by decide) (by decide), e4 51 (by decide) (by decide) (by decide), e81]; exact I.l3)
    (xri := R.nx)
    (xrsz := fun s hs => by have := (R.1 s hs).2.1; omega)
    (xeE := by rw [eM, eC]; exact I.eE)
    (xday := by rw [h80 1 (by decide), e 3 (by decide) (by decide)]; exact I.day)
    (xnow := now)
    (xreg := fun j hj d => by
      rw [eN] at hj
      rw [lm j hj d, lc j (by omega) d, I.reg j hj d])
    (xrgm := rgm)
    (xsz := sz)
    (xask := fun j hj => by rw [e8 114 (by decide) (by decide), e4 (70 + j) (by omega) (by omega) (by omega)]; exact I.ask j hj)
    (xbr := by unfold BR; rw [e 36 (by decide) (by decide), e 37 (by decide) (by decide), e 38 (by decide) (by decide), e 3 (by decide) (by decide)]; exact I.br)
    (xbm := by unfold BM; rw [e8 116 (by decide) (by decide), e8 117 (by decide) (by decide), e8 118 (by decide) (by decide), h80 1 (by decide)]; exact I.bm)
    (xb36 := fun i hi => by rw [e8 116 (by decide) (by decide), e 36 (by decide) (by decide)]; exact I.b36 i hi)
    (xb37 := fun i hi => by rw [e8 117 (by decide) (by decide), e 37 (by decide) (by decide)]; exact I.b37 i hi)
    (xb38 := fun i hi => by rw [e8 118 (by decide) (by decide), e 38 (by decide) (by decide)]; exact I.b38 i hi)
    (xfa := by unfold FA; rw [e4 42 (by decide) (by decide) (by decide), e4 43 (by decide) (by decide) (by decide)]; exact I.fa)
    (xpr := fun j hj => by rw [e8 122 (by decide) (by decide), e4 42 (by decide) (by decide) (by decide)]; exact I.pr j hj)
    (xs61 := by rw [e 6 (by decide) (by decide)]; exact I.s61)
    (xs62 := by rw [e 6 (by decide) (by decide)]; exact I.s62)
    (xs63 := by rw [e 6 (by decide) (by decide), eC]; exact I.s63)
    (xst := fun j hj => by rw [e8 123 (by decide) (by decide), e 6 (by decide) (by decide)]; exact I.st j hj)
    (xs19 := by rw [h80 19 (by decide), e 6 (by decide) (by decide)]; exact I.s19)
    (xs20 := by rw [h80 20 (by decide), e 6 (by decide) (by decide)]; exact I.s20)
    (xs21 := by rw [h80 21 (by decide), e 6 (by decide) (by decide)]; exact I.s21)
    (xbd := by unfold BD; rw [e 7 (by decide) (by decide), e4 46 (by decide) (by decide) (by decide)]; exact I.bd)
    (xfb := by unfold FB nB; rw [e4 44 (by decide) (by decide) (by decide), e4 45 (by decide) (by decide) (by decide), e4 46 (by decide) (by decide) (by decide), e 7 (by decide) (by decide)]; exact I.fb)
    (xwr := by rw [e8 125 (by decide) (by decide), e4 46 (by decide) (by decide) (by decide)]; exact I.wr)
    (xgot := fun i hi => by rw [e8 126 (by decide) (by decide), e4 44 (by decide) (by decide) (by decide)]; exact I.got i hi)
    (xpay := fun i hi => by rw [e8 127 (by decide) (by decide), e4 45 (by decide) (by decide) (by decide)]; exact I.pay i hi)
    (xnb := by rw [h80 24 (by decide), e 7 (by decide) (by decide)]; exact I.nb)
    (xm1 := by rw [e 8 (by decide) (by decide)]; exact I.m1)
    (xph := fun j hj => by rw [e8 129 (by decide) (by decide), e4 48 (by decide) (by decide) (by decide)]; exact I.ph j hj)
    (xdk := by rw [h80 28 (by decide), e 8 (by decide) (by decide)]; exact I.dk)
    (xal := by rw [e 8 (by decide) (by decide), eC]; exact al)
    (xoff := fun j a b => by
      rw [eC] at a
      exact ⟨off j a b, by rw [e8 114 (by decide) (by decide)]; exact (I.ofx j a b).2.1, fun d => by
        rw [lc j b d]; split
        · exact off j a b
        · exact (I.ofx j a b).2.2 d⟩)
    (xpl := pl)
    (xc39 := c39)
    (xc49 := c49)
theorem tog_mono {a b x : Int} (h : a ≤ b) : tog a x ≤ tog b x := by unfold tog mx ab; split <;> split <;> split <;> split <;> split <;> split <;> omega
theorem tog_ge (b x : Int) : b ≤ tog b x ∧ x ≤ tog b x := by unfold tog mx ab; split <;> split <;> split <;> omega
/-- who goes off harms nobody any more -/
theorem hs_offs {E : Nat → Nat → Int} {i : Nat} {ch ch' : Nat → Int} (hi : ch' i = ch i) {n : Nat} (h : ∀ j, j < n → ch' j = ch j ∨ ch' j = -1) : ∀ a, hs E i ch' n = some a → ∃ b, hs E i ch n = some b ∧ a ≤ b := by
  induction n with
  | zero => intro a ha; cases ha
  | succ n ih =>
    have ih := ih (fun j hj => h j (by omega))
    intro a ha
    unfold hs at ha ⊢
    by_cases y : nrm ch' i n = true
    · have e : ch' n = ch n := by
        rcases h n (by omega) with z | z
        · exact z
        · unfold nrm at y; rw [decide_eq_true_eq] at y; exact absurd z y.2.1
      have y2 : nrm ch i n = true := by rw [← y]; unfold nrm; rw [e, hi]
      rw [if_pos y] at ha
      rw [if_pos y2]
      rw [e, hi] at ha
      cases e1 : hs E i ch' n with
      | none =>
        rw [e1] at ha
        have ha : some (hmE E n i (ab (ch n - ch i))) = some a := ha
        cases ha
        cases e2 : hs E i ch n with
        | none => exact ⟨_, rfl, Int.le_refl _⟩
        | some b => exact ⟨_, rfl, (tog_ge b _).2⟩
      | some w =>
        rw [e1] at ha
        have ha : some (tog w (hmE E n i (ab (ch n - ch i)))) = some a := ha
        cases ha
        obtain ⟨b, hb, hle⟩ := ih w e1
        rw [hb]
        exact ⟨_, rfl, tog_mono hle⟩
    · rw [if_neg y] at ha
      obtain ⟨b, hb, hle⟩ := ih a ha
      by_cases y2 : nrm ch i n = true
      · rw [if_pos y2, hb]
        exact ⟨_, rfl, Int.le_trans hle (tog_ge b _).1⟩
      · rw [if_neg y2]; exact ⟨b, hb, hle⟩
theorem alk_offs {E : Nat → Nat → Int} {ch ch' : Nat → Int} (h : ∀ j, j < nt E → ch' j = ch j ∨ ch' j = -1) (q : alk E ch) : alk E ch' := fun i hi h7 hc => by
  have e : ch' i = ch i := (h i hi).resolve_right hc
  have k := q i hi h7 (by rw [← e]; exact hc)
  unfold kp at k ⊢
  cases e1 : hs E i ch' (nt E) with
  | none => rfl
  | some a =>
    obtain ⟨b, hb, hle⟩ := hs_offs e h a e1
    rw [hb] at k
    have k : decide (E 8 0 ≤ lvE E i - b) = true := k
    show decide (E 8 0 ≤ lvE E i - a) = true
    rw [decide_eq_true_eq] at k ⊢
    omega
section LW8
variable {G : Gx} {A : Nat → Nat} {B : Nat → Nat → Nat} {S : Nat → Nat → Int} {h : hw} {c : Nat}
variable {N : Nat} {xs : Nat → Int32} {i : Int32} {uc us : Nat} {J : hw → Nat → Nat → Prop}
theorem RT.room {S0 : Nat → Nat → Int} (I : IV S0 c) : ∀ (S' : Nat → Nat → Int) (uc us : Nat), RT S0 S' uc us → uc ≤ 64 ∧ us ≤ 48 * c + 200 := fun S' uc us r => r.bound (fun s hs => by have := I.sz s hs; omega)
theorem RT.sz {S0 S' : Nat → Nat → Int} (I : IV S0 c) {u v : Nat} (r : RT S0 S' u v) : ∀ s, s < 8 → 0 ≤ S' (170 + s) 2 ∧ S' (170 + s) 2 ≤ 4 * (c + 1 : Nat) ∧ 0 ≤ S' (170 + s) 3 ∧ S' (170 + s) 3 ≤ 6 * (c + 1 : Nat) + 20 := fun s hs => by
  have a := I.sz s hs
  have b := r.1 s hs
  unfold rl1 at b
  rcases b.2.2 with w | ⟨w, w2⟩
  · omega
  · have g : gr (S0 (170 + s) 3) ≤ 6 * (c : Int) + 20 ∧ 0 ≤ gr (S0 (170 + s) 3) := by unfold gr; split <;> omega
    omega
theorem Pic.w926 (P : Pic G A B S h) (I : IV S c) (hc : c ≤ 511) (v1 : vp_in (i + 1) N) (hu : uc + 70 ≤ 603072) (hv : us + 48 * c + 260 ≤ 7219306) (q : CK G (A 0) (A 80) (A 90) (A 91) c uc us J) : wp_law_926 G N xs (A 0) (A 80) (A 90) (A 91) i h uc us J := by
  obtain ⟨z1, e1, r1⟩ := ii_ex (xs (Int32.toNatClampNeg (i + 1)))
  unfold wp_law_926
  rw [e1]
  refine ⟨v1, by omega, by omega, P.o (k := 0) rfl, ?_⟩
  have n4 := I.n4
  obtain ⟨n8, -, -⟩ := ntM_8 I.mo
  have vi : ∀ z, inM S z ↔ vst S z := fun z => by unfold inM vst; rw [n4]
  refine P.c_putOff I.ki hc I.ri r1 (fun a S1 h1 P1 R1 k1 w1 => ?_) (fun a => ?_)
  · have vn := vst_I I a
    have cr := I.ri.2.2.2.1 z1.toNat
    have vr : rg (S 32 z1.toNat) := ⟨by omega, by omega⟩
    refine P1.out vr (fun h2 P2 => ⟨v1, 64, 48 * c + 200, by omega, by omega, P2.o (k := 80) rfl, ?_⟩)
    obtain ⟨S2, hS2⟩ : ∃ S2, S2 = su S1 90 0 (S 32 z1.toNat) := ⟨_, rfl⟩
    rw [← hS2] at P2
    have f2 : ∀ k, ¬ kr k → k ≠ 90 → S2 k = S k := fun k x y => by rw [hS2, su_row _ _ y, k1 k x]
    have g2 : ∀ k, kr k → S2 k = S1 k := fun k x => by rw [hS2, su_row _ _ (fun y => by unfold kr at x; omega)]
    have e90 : S2 90 0 = S 32 z1.toNat := by rw [hS2, su_at]
    have e80 : S2 80 = S 80 := f2 80 (fun z => by unfold kr at z; omega) (by decide)
    have e113 : S2 113 = S 113 := f2 113 (fun z => by unfold kr at z; omega) (by decide)
    have e17 : ∀ s, s < 8 → S2 (170 + s) = S (170 + s) := fun s _ => f2 _ (fun z => by unfold kr at z; omega) (by omega)
    have e19 : ∀ s, s < 8 → S2 (190 + s) = S (190 + s) := fun s _ => f2 _ (fun z => by unfold kr at z; omega) (by omega)
    have eN2 : ntM S2 = ntM S := by unfold ntM; rw [e80]
    have mo2 : MO S2 := (I.mo.of (S' := S2) (fun k hk => f2 k (fun z => by unfold kr at z; omega) (by omega))).1
    have rg2 : RG S2 := I.rgm.of (fun k hk => f2 k (fun z => by unfold kr at z; omega) (by omega)) (by rw [e80])
    have i2 : inM S2 z1 := by unfold inM; rw [e80, n4]; exact a
    have lm2 : ∀ j : Nat, j < ntM S → ∀ d, LM S2 j d = LM S j d := fun j hj d => LM_of (e17 j (by omega)) (e19 j (by omega)) d
    refine P2.m_putOff mo2 rg2 (fun j hj d hd => ?_) (by rw [e80]; exact I.day2 hc) (fun t ht => by rw [e17 t ht]; have := I.sz t ht; omega) (fun S' uc us r => r.bound (fun s hs => by rw [e17 s hs]; have := I.sz s hs; omega)) r1 (fun _ A3 B3 S3 h3 uc3 us3 P3 a3 m1 m2 m3 m4 => ?_) (fun a' => absurd i2 a')
    · rw [eN2] at hj
      rw [e80] at hd
      rw [lm2 j hj d, e113, I.reg j hj d, I.now j (by omega)]
      exact I.ri.2.2.2.2.1 j (by omega) d (by rw [← I.day]; exact hd)
    · rw [show S2 113 z1.toNat = S 32 z1.toNat by rw [e113]; exact I.now _ vn.2.1]
      have m1' : ∀ k, ¬ kM k → k ≠ 80 → S3 k = S2 k := fun k x y => by rw [m1 k x, su_row _ _ y]
      have f3 : ∀ k, ¬ kM k → k ≠ 80 → ¬ kr k → k ≠ 90 → S3 k = S k := fun k x y z w => by rw [m1' k x y, f2 k z w]
      have f32 : ∀ k, kr k → S3 k = S1 k := fun k x => by rw [m1' k (fun z => by unfold kM at z; unfold kr at x; omega) (fun z => by unfold kr at x; omega), g2 k x]
      have f3a : S3 32 = S1 32 := f32 32 (Or.inl rfl)
      have e3 : S3 3 = S1 3 := by rw [m1' 3 (fun z => by unfold kM at z; omega) (by decide), hS2, su_row _ _ (by decide)]
      have e31 : S1 3 = S 3 := k1 3 (fun z => by unfold kr at z; omega)
      have kg3 : ∀ k, kg k → S3 k = S1 k := fun k x => by
        by_cases y : k = 3
        · rw [y]; exact e3
        · exact f32 k (by unfold kg at x; unfold kr; omega)
      have g80 : ∀ i, i ≠ 0 → S3 80 i = S 80 i := fun i hi => by rw [m1 80 (fun z => by unfold kM at z; omega), su_nei _ _ _ hi, e80]
      have g0 : S3 80 0 = 0 := by rw [m1 80 (fun z => by unfold kM at z; omega), su_at]
      have nw : ∀ j, j < 8 → S3 113 j = S3 32 j := fun j hj => by
        rw [m2, f3a, w1, e113]; unfold up
        by_cases y : j = z1.toNat
        · rw [if_pos y, if_pos y]
        · rw [if_neg y, if_neg y]; exact I.now j hj
      have I3 : IV S3 (c + 1) := I.rg (fun k hk hs => f3 k (fun z => hk (by unfold kM at z; omega)) (fun z => hs (by unfold scr; omega)) (fun z => hk (by unfold kr at z; omega)) (fun z => hs (by unfold scr; omega))) g80 (I.pl.of (f3 130 (fun z => by unfold kM at z; omega) (by decide) (fun z => by unfold kr at z; omega) (by decide)) (f3 131 (fun z => by unfold kM at z; omega) (by decide) (fun z => by unfold kr at z; omega) (by decide))) (by rw [f3 39 (fun z => by unfold kM at z; omega) (by decide) (fun z => by unfold kr at z; omega) (by decide)]; exact I.c39) (by rw [f3 49 (fun z => by unfold kM at z; omega) (by decide) (fun z => by unfold kr at z; omega) (by decide)]; exact I.c49) (R1.1.of kg3) n8 (fun j hj d => by rw [LC_of kg3, f3a]; exact R1.2.2 j hj d) (fun j hj d => by
        rw [m3.2.2 j (by rw [eN2]; exact hj) d, e80, I.day, nw j (by omega), lm2 j hj d]) nw m3.1 (RT.sz I (S' := S3) ⟨fun s hs => by have := m4.1 s hs; unfold rl1 at this ⊢; rw [e17 s hs] at this; exact this, Int.le_trans m4.2.1 (sm_le2 (fun s hs => by unfold ds1; rw [e17 s hs]; exact Int.le_refl _)), Int.le_trans m4.2.2 (sm_le2 (fun s hs => by unfold cs1; rw [e17 s hs]; exact Int.le_refl _))⟩) (fun z => by
        rw [f3a, w1]
        refine alk_offs (fun j hj => ?_) (I.al z)
        unfold up
        by_cases y : j = z1.toNat
        · rw [if_pos y]; exact Or.inr rfl
        · rw [if_neg y]; exact Or.inl rfl) (fun j hj h8 => by
        rw [f3a, w1, up_ne (by omega)]; exact I.off j hj h8)
      rw [← a3 80 (by decide), ← a3 90 (by decide)]
      exact P3.tlJ g0 vr (by rw [m1' 90 (fun z => by unfold kM at z; omega) (by decide), e90]) (q A3 B3 S3 h3 _ _ P3 ⟨a3 0 (by decide), a3 80 (by decide), a3 90 (by decide), a3 91 (by decide)⟩ I3 (by omega) (by omega))
  · refine ⟨fun _ => ⟨v1, 64, 48 * c + 200, by omega, by omega, P.o (k := 80) rfl, ?_⟩, rfl⟩
    exact P.m_putOff I.mo I.rgm (fun j hj d hd => by
      obtain ⟨n8, -, -⟩ := ntM_8 I.mo
      rw [I.reg j hj d, I.now j (by omega)]
      exact I.ri.2.2.2.2.1 j (by omega) d (by rw [← I.day]; exact hd)) (I.day2 hc) (fun t ht => by have := I.sz t ht; omega) (RT.room I) r1 (fun a' => absurd ((vi _).mp a') a) (fun a' h3 P3 => P3.endX I (Or.inl rfl) il_1 q (by omega) (by omega))
end LW8
