/-! the law: the border; packings -/
theorem IV.bo {S S' : Nat → Nat → Int} {c : Nat} (I : IV S c) (h : ∀ k, k ≠ 36 → k ≠ 37 → k ≠ 38 → k ≠ 116 → k ≠ 117 → k ≠ 118 → ¬ scr k → S' k = S k) (h80 : ∀ i, i ≠ 0 → S' 80 i = S 80 i) (pl : PL S') (c39 : chs (S' 39)) (c49 : chs (S' 49)) (b36 : ∀ i, i < 8 → (S' 36 i = 0 ∨ S' 36 i = 1) ∧ S' 116 i = S' 36 i) (b37 : ∀ i, i < 64 → (-1 ≤ S' 37 i ∧ S' 37 i ≤ S 3 1) ∧ S' 117 i = S' 37 i) (b38 : ∀ i, i < 64 → (S' 38 i = 0 ∨ S' 38 i = 1) ∧ S' 118 i = S' 38 i) : IV S' c := by
  have e : ∀ k, k < 36 → k ≠ 5 → S' k = S k := fun k a b => h k (by omega) (by omega) (by omega) (by omega) (by omega) (by omega) (fun z => by unfold scr at z; omega)
  have e4 : ∀ k, 42 ≤ k → k < 80 → k ≠ 49 → S' k = S k := fun k a b d => h k (by omega) (by omega) (by omega) (by omega) (by omega) (by omega) (fun z => by unfold scr at z; omega)
  have e8 : ∀ k, 92 ≤ k → ((k < 130 ∨ 136 ≤ k) ∧ k ≠ 116 ∧ k ≠ 117 ∧ k ≠ 118) → S' k = S k := fun k a b => h k (by omega) (by omega) (by omega) (by omega) (by omega) (by omega) (fun z => by unfold scr at z; omega)
  have e81 : S' 81 = S 81 := h 81 (by decide) (by decide) (by decide) (by decide) (by decide) (by decide) (fun z => by unfold scr at z; omega)
  have ek : ∀ k, kl k → S' k = S k := fun k hk => h k (by unfold kl at hk; omega) (by unfold kl at hk; omega) (by unfold kl at hk; omega) (by unfold kl at hk; omega) (by unfold kl at hk; omega) (by unfold kl at hk; omega) (fun z => by unfold scr at z; unfold kl at hk; omega)
  have eC : EC S' = EC S := EC_of ek
  have eM : EM S' = EM S := by
    funext k i
    unfold EM
    rw [e8 106 (by decide) (by decide), e8 107 (by decide) (by decide), e8 108 (by decide) (by decide), e8 105 (by decide) (by decide), e8 109 (by decide) (by decide), e8 110 (by decide) (by decide), e8 111 (by decide) (by decide), e8 112 (by decide) (by decide), h80 2 (by decide), h80 3 (by decide), h80 4 (by decide)]
  have eN : ntM S' = ntM S := by unfold ntM; rw [h80 4 (by decide)]
  have kgE : ∀ k, kg k → S' k = S k := fun k hk => e k (by unfold kg at hk; omega) (by unfold kg at hk; omega)
  exact mkIV
    (xki := I.ki.of ek (e 31 (by decide) (by decide)))
    (xdg := fun a ha => by rw [e 31 (by decide) (by decide)]; exact I.dg a ha)
    (xl3 := by unfold L3; rw [e4 50 (by decide) (by decide) (by decide), e4 51 (by decide) (by decide) (by decide), e81]; exact I.l3)
    (xri := I.ri.of kgE)
    (xrsz := fun s hs => by rw [e 33 (by decide) (by decide)]; exact I.rsz s hs)
    (xeE := by rw [eM, eC]; exact I.eE)
    (xday := by rw [h80 1 (by decide), e 3 (by decide) (by decide)]; exact I.day)
    (xnow := fun j hj => by rw [e8 113 (by decide) (by decide), e 32 (by decide) (by decide)]; exact I.now j hj)
    (xreg := fun j hj d => by
      rw [eN] at hj
      have := (ntM_8 (S := S) ⟨by rw [I.eE]; exact I.ki.1.2.1, fun j hj => by rw [I.now j hj]; exact I.ri.2.2.2.1 j⟩).1
      rw [LM_of (e8 (170 + j) (by omega) (by omega)) (e8 (190 + j) (by omega) (by omega)), LC_of kgE]; exact I.reg j hj d)
    (xrgm := I.rgm.of (fun k hk => by
      rcases hk with hk | hk | hk | hk
      · exact e4 k (by omega) (by omega) (by omega)
      · exact e4 k (by omega) (by omega) (by omega)
      · rw [hk]; exact e81
      · exact e8 k (by omega) (by omega)) (h80 4 (by decide)))
    (xsz := fun s hs => by rw [e8 (170 + s) (by omega) (by omega)]; exact I.sz s hs)
    (xask := fun j hj => by rw [e8 114 (by decide) (by decide), e4 (70 + j) (by omega) (by omega) (by omega)]; exact I.ask j hj)
    (xbr := ⟨fun i hi => (b36 i hi).1, fun i hi => by rw [e 3 (by decide) (by decide)]; exact (b37 i hi).1, fun i hi => (b38 i hi).1, by rw [e 3 (by decide) (by decide)]; exact I.br.2.2.2⟩)
    (xbm := ⟨fun i hi => by rw [(b36 i hi).2]; exact (b36 i hi).1, fun i hi => by rw [(b37 i hi).2, h80 1 (by decide), I.day]; exact (b37 i hi).1, fun i hi => by rw [(b38 i hi).2]; exact (b38 i hi).1, by rw [h80 1 (by decide)]; exact I.bm.2.2.2⟩)
    (xb36 := fun i hi => (b36 i hi).2)
    (xb37 := fun i hi => (b37 i hi).2)
    (xb38 := fun i hi => (b38 i hi).2)
    (xfa := by unfold FA; rw [e4 42 (by decide) (by decide) (by decide), e4 43 (by decide) (by decide) (by decide)]; exact I.fa)
    (xpr := fun j hj => by rw [e8 122 (by decide) (by decide), e4 42 (by decide) (by decide) (by decide)]; exact I.pr j hj)
    (xs61 := by rw [e 6 (by decide) (by decide)]; exact I.s61)
    (xs62 := by rw [e 6 (by decide) (by decide)]; exact I.s62)
    (xs63 := by rw [e 6 (by decide) (by decide), eC]; exact I.s63)
    (xst := fun j hj => by rw [e8 123 (by decide) (by decide), e 6 (by decide) (by decide)]; exact I.st j hj)
    (xs19 := by rw [h80 19 (by decide), e 6 (by decide) (by decide)]; exact I.s19)
    (xs20 := by rw [h80 20 (by decide), e 6 (by decide) (by decide)]; exact I.s20)
    (xs21 := by rw [h80 21 (by decide), e 6 (by decide) (by decide)]; exact I.s21)
    (xbd := by unfold BD; rw [e 7 (by decide) (by decide), e4 46 (by decide) (by decide) (by decide)]; exact I.bd)
    (xfb := by unfold FB nB; rw [e4 44 (by decide) (by decide) (by decide), e4 45 (by decide) (by decide) (by decide), e4 46 (by decide) (by decide) (by decide), e 7 (by decide) (by decide)]; exact I.fb)
    (xwr := by rw [e8 125 (by decide) (by decide), e4 46 (by decide) (by decide) (by decide)]; exact I.wr)
    (xgot := fun i hi => by rw [e8 126 (by decide) (by decide), e4 44 (by decide) (by decide) (by decide)]; exact I.got i hi)
    (xpay := fun i hi => by rw [e8 127 (by decide) (by decide), e4 45 (by decide) (by decide) (by decide)]; exact I.pay i hi)
    (xnb := by rw [h80 24 (by decide), e 7 (by decide) (by decide)]; exact I.nb)
    (xm1 := by rw [e 8 (by decide) (by decide)]; exact I.m1)
    (xph := fun j hj => by rw [e8 129 (by decide) (by decide), e4 48 (by decide) (by decide) (by decide)]; exact I.ph j hj)
    (xdk := by rw [h80 28 (by decide), e 8 (by decide) (by decide)]; exact I.dk)
    (xal := by rw [e 8 (by decide) (by decide), eC, e 32 (by decide) (by decide)]; exact I.al)
    (xoff := fun j a b => by
      rw [eC] at a
      exact ⟨by rw [e 32 (by decide) (by decide)]; exact (I.ofx j a b).1, by rw [e8 114 (by decide) (by decide)]; exact (I.ofx j a b).2.1, fun d => by rw [LC_of kgE]; exact (I.ofx j a b).2.2 d⟩)
    (xpl := pl)
    (xc39 := c39)
    (xc49 := c49)
section LW5
variable {G : Gx} {A : Nat → Nat} {B : Nat → Nat → Nat} {S : Nat → Nat → Int} {h : hw} {c : Nat}
theorem Pic.outBr (P : Pic G A B S h) {b : Bool} {r : Int32} (hr : r = ii (bI b)) {K : hw → Prop} (q : ∀ h', Pic G A B (su S 90 0 (bI b)) h' → K h') : ∀ J16 : Nat → Int32 → Int64 → Prop, (∀ (t2 : Nat) (t3 : Int32) (t4 : Int64), (stJ G h t2 t3 t4 K) → J16 t2 t3 t4) → ((r = 0 → J16 (A 90) 0 0) ∧ (¬ r = 0 → J16 (A 90) 0 1)) := by
  rw [hr]; exact P.outB q
theorem Pic.tlB (P : Pic G A B S h) {b : Bool} (h0 : S 80 0 = 0) (h9 : S 90 0 = bI b) {r : Int32} (hr : r = ii (bI b)) {JJ : Prop} (fin : JJ) : (isO h (A 80) 12 ∧ wp_X12_thrown G (A 80) h (fun r5 => ((r5 = 0 → ∀ J269 : Prop, (JJ → J269) → ((¬ (0 : Int32) = 0 → J269) ∧ ((0 : Int32) = 0 → ldJ G h (A 90) 0 (fun v6 => ∀ J1350 : Int64 → Int64 → Prop, (∀ (t7 : Int64) (t8 : Int64), ((((lg_cmp t7 t8) = 0 → J269) ∧ (¬ (lg_cmp t7 t8) = 0 → False))) → J1350 t7 t8) → ((r = 0 → J1350 v6 0) ∧ (¬ r = 0 → J1350 v6 1)))))) ∧ (¬ r5 = 0 → False)))) := by
  refine ⟨P.o (k := 80) rfl, P.rI (k := 80) rfl rfl ?_⟩
  rw [h0, ← il_0]
  refine ⟨fun _ J269 hJ => ⟨fun z => absurd rfl z, fun _ => ?_⟩, fun z => absurd rfl z⟩
  refine P.jld (k := 90) (i := 0) (n := 1) rfl il_0 (by decide) (by decide) ?_
  rw [h9, hr]
  have fin := hJ fin
  intro J2 hJ2
  rw [bI_1, bI_0]
  refine ⟨fun z => hJ2 _ _ ?_, fun z => hJ2 _ _ ?_⟩
  · rw [z, show Int64.ofInt (bI false) = 0 from jj_0.symm, lgc]; exact ⟨fun _ => fin, fun z => absurd rfl z⟩
  · rw [z, show Int64.ofInt (bI true) = 1 by decide, lgc]; exact ⟨fun _ => fin, fun z => absurd rfl z⟩
theorem Pic.tlX (P : Pic G A B S h) {e : Int} (h0 : S 80 0 = e) (he : e = 1 ∨ e = 2 ∨ e = 3 ∨ e = 4) {x : Int32} (hx : x = ii e) {JJ : Prop} (fin : JJ) {X : Prop → Prop} : (isO h (A 80) 12 ∧ wp_X12_thrown G (A 80) h (fun r5 => ((r5 = x → ∀ J269 : Prop, (JJ → J269) → ((¬ x = 0 → J269) ∧ (x = 0 → X J269))) ∧ (¬ r5 = x → False)))) := by
  refine ⟨P.o (k := 80) rfl, P.rI (k := 80) rfl rfl ?_⟩
  have nz : x ≠ 0 := fun z => by
    rw [hx, il_0, ii_eq ⟨by omega, by omega⟩ ⟨by decide, by decide⟩] at z; omega
  rw [h0, ← hx]
  exact ⟨fun _ J269 hJ => ⟨fun _ => hJ fin, fun z => absurd z nz⟩, fun z => absurd rfl z⟩
variable {N : Nat} {xs : Nat → Int32} {i : Int32} {uc us : Nat} {J : hw → Nat → Nat → Prop}
theorem Pic.w2266 (P : Pic G A B S h) (I : IV S c) (hc : c ≤ 511) (q : CK G (A 0) (A 80) (A 90) (A 91) c uc us J) : wp_law_2266 G N xs (A 0) (A 80) (A 90) (A 91) i h uc us J := by
  refine ⟨P.o (k := 0) rfl, P.c_isSound I.ki hc I.ri I.bd I.fb I.fa (fun j hj => (I.pr j hj).2) I.m1 I.al ⟨P.o (k := 80) rfl, P.m_isSound (fun h3 P3 => ?_)⟩⟩
  exact ⟨fun _ => q A B _ h3 uc us P3 ⟨rfl, rfl, rfl, rfl⟩ (I.s8 0).nx (by omega) (by omega), fun z => absurd rfl z⟩
/-- a packing's scratch -/
theorem IV.sc (I : IV S c) {S1 : Nat → Nat → Int} (k1 : ∀ k, ¬ kp5 k → S1 k = S k) (c39 : chs (S1 39)) : IV S1 c := I.of (fun k hk => k1 k (fun z => hk (by unfold kp5 at z; unfold scr; omega))) (fun i _ => by rw [k1 80 (fun z => by unfold kp5 at z; omega)]) (I.pl.of (k1 130 (fun z => by unfold kp5 at z; omega)) (k1 131 (fun z => by unfold kp5 at z; omega))) c39 (by rw [k1 49 (fun z => by unfold kp5 at z; omega)]; exact I.c49)
theorem IV.sm (I : IV S c) {e : Int} {S1 : Nat → Nat → Int} (k1 : ∀ k, k ≠ 130 → k ≠ 131 → S1 k = su S 80 0 e k) (pl : PL S1) : IV S1 c := I.of (fun k hk => by rw [k1 k (fun z => hk (by unfold scr; omega)) (fun z => hk (by unfold scr; omega)), su_row _ _ (fun z => hk (by unfold scr; omega))]) (fun i hi => by rw [k1 80 (by decide) (by decide), su_nei _ _ _ hi]) pl (by rw [k1 39 (by decide) (by decide), su_row _ _ (by decide)]; exact I.c39) (by rw [k1 49 (by decide) (by decide), su_row _ _ (by decide)]; exact I.c49)
theorem Pic.w1415 (P : Pic G A B S h) (I : IV S c) (v1 : vp_in (i + 1) N) (hu : uc + 70 ≤ 603072) (hv : us + 48 * c + 260 ≤ 7219306) (q : CK G (A 0) (A 80) (A 90) (A 91) c uc us J) : wp_law_1415 G N xs (A 0) (A 80) (A 90) (A 91) i h uc us J := by
  obtain ⟨z1, e1, r1⟩ := ii_ex (xs (Int32.toNatClampNeg (i + 1)))
  unfold wp_law_1415
  rw [e1]
  refine ⟨v1, by omega, by omega, P.o (k := 0) rfl, ?_⟩
  refine P.c_canPack I.ki I.c39 r1 (fun a ok S1 h1 P1 k1 c39 => ?_) (fun a no S1 h1 P1 k1 c39 => ?_) (fun a => ?_)
  · have I1 := I.sc k1 c39
    have e : EM S1 = EC S := by rw [I1.eE]; exact EC_of (fun k hk => k1 k (fun z => by unfold kp5 at z; unfold kl at hk; omega))
    refine P1.outBr (b := true) il_1 (fun h2 P2 => ⟨v1, P2.o (k := 80) rfl, ?_⟩)
    have I9 := I1.s9 (bI true)
    refine P2.m_canPack I9.mo I9.pl r1 (fun _ _ S3 h3 P3 k3 p3 => ?_) (fun _ no => absurd (by rw [EM_9, e]; exact ok) no) (fun a' => absurd a a')
    exact P3.tlB (b := true) (by rw [k3 80 (by decide) (by decide), su_at]) (by rw [k3 90 (by decide) (by decide), su_row _ _ (by decide), su_at]) il_1 (q A B S3 h3 _ _ P3 ⟨rfl, rfl, rfl, rfl⟩ (I9.sm k3 p3).nx (by omega) (by omega))
  · have I1 := I.sc k1 c39
    have e : EM S1 = EC S := by rw [I1.eE]; exact EC_of (fun k hk => k1 k (fun z => by unfold kp5 at z; unfold kl at hk; omega))
    refine P1.outBr (b := false) il_0 (fun h2 P2 => ⟨v1, P2.o (k := 80) rfl, ?_⟩)
    have I9 := I1.s9 (bI false)
    refine P2.m_canPack I9.mo I9.pl r1 (fun _ ok => absurd (by rw [EM_9, e] at ok; exact ok) no) (fun _ _ S3 h3 P3 k3 p3 => ?_) (fun a' => absurd a a')
    exact P3.tlB (b := false) (by rw [k3 80 (by decide) (by decide), su_at]) (by rw [k3 90 (by decide) (by decide), su_row _ _ (by decide), su_at]) il_0 (q A B S3 h3 _ _ P3 ⟨rfl, rfl, rfl, rfl⟩ (I9.sm k3 p3).nx (by omega) (by omega))
  · refine ⟨fun _ => ⟨v1, P.o (k := 80) rfl, ?_⟩, rfl⟩
    exact P.m_canPack I.mo I.pl r1 (fun a' => absurd a' a) (fun a' => absurd a' a) (fun a' h3 P3 => P3.endX I (Or.inl rfl) il_1 q (by omega) (by omega))
theorem Pic.w1141 (P : Pic G A B S h) (I : IV S c) (hc : c ≤ 511) (v1 : vp_in (i + 1) N) (v2 : vp_in (i + 2) N) (hu : uc + 70 ≤ 603072) (hv : us + 48 * c + 260 ≤ 7219306) (q : CK G (A 0) (A 80) (A 90) (A 91) c uc us J) : wp_law_1141 G N xs (A 0) (A 80) (A 90) (A 91) i h uc us J := by
  obtain ⟨z1, e1, r1⟩ := ii_ex (xs (Int32.toNatClampNeg (i + 1)))
  obtain ⟨z2, e2, r2⟩ := ii_ex (xs (Int32.toNatClampNeg (i + 2)))
  unfold wp_law_1141
  rw [e1, e2]
  refine ⟨v1, v2, by omega, by omega, P.o (k := 0) rfl, ?_⟩
  have n4 := I.n4
  have s30 := I.br.2.2.2
  have vi : ∀ z, inM S z ↔ vst S z := fun z => by unfold inM vst; rw [n4]
  refine P.c_ask I.ki r1 r2 (fun a b h1 P1 => ?_) (fun a => ?_) (fun a b => ?_)
  · have vn := vst_I I a
    have vr : rg (S 3 1 + 3) := ⟨by omega, by omega⟩
    obtain ⟨t, et⟩ : ∃ t, t = z1.toNat * 8 + z2.toNat := ⟨_, rfl⟩
    have et2 : 8 * z1.toNat + z2.toNat = t := by omega
    rw [← et] at P1
    refine P1.out vr (fun h2 P2 => ⟨v1, v2, P2.o (k := 80) rfl, ?_⟩)
    obtain ⟨S2, hS2⟩ : ∃ S2, S2 = su (su (su S 37 t (S 3 1)) 38 t 0) 90 0 (S 3 1 + 3) := ⟨_, rfl⟩
    rw [← hS2] at P2
    have f2 : ∀ k, k ≠ 37 → k ≠ 38 → k ≠ 90 → S2 k = S k := fun k x y z => by rw [hS2, su_row _ _ z, su_row _ _ y, su_row _ _ x]
    have eE2 : EM S2 = EM S := (I.mo.of (S' := S2) (fun k hk => f2 k (by omega) (by omega) (by omega))).2.1
    have mo2 : MO S2 := (I.mo.of (S' := S2) (fun k hk => f2 k (by omega) (by omega) (by omega))).1
    have i2 : ∀ z, inM S2 z ↔ vst S z := fun z => by unfold inM vst; rw [f2 80 (by decide) (by decide) (by decide), n4]
    refine P2.m_ask mo2 r1 r2 (fun _ _ h3 P3 => ?_) (fun a' => absurd ((i2 _).mpr a) a') (fun _ b' => absurd b b')
    rw [et2, f2 80 (by decide) (by decide) (by decide), I.day] at P3
    rw [f2 80 (by decide) (by decide) (by decide), I.day]
    have f3 : ∀ k, k ≠ 37 → k ≠ 38 → k ≠ 90 → k ≠ 80 → k ≠ 117 → k ≠ 118 → su (su (su S2 80 0 0) 117 t (S 3 1)) 118 t 0 k = S k := fun k x y z w u v => by rw [su_row _ _ v, su_row _ _ u, su_row _ _ w, f2 k x y z]
    have e37 : su (su (su S2 80 0 0) 117 t (S 3 1)) 118 t 0 37 = su S 37 t (S 3 1) 37 := by rw [su_row _ _ (by decide), su_row _ _ (by decide), su_row _ _ (by decide), hS2, su_row _ _ (by decide), su_row _ _ (by decide)]
    have e38 : su (su (su S2 80 0 0) 117 t (S 3 1)) 118 t 0 38 = su S 38 t 0 38 := by rw [su_row _ _ (by decide), su_row _ _ (by decide), su_row _ _ (by decide), hS2, su_row _ _ (by decide), su_up, su_up, su_row _ _ (by decide)]
    refine P3.tlJ (by rw [su_ne _ _ _ (by decide), su_ne _ _ _ (by decide), su_at]) vr (by rw [su_ne _ _ _ (by decide), su_ne _ _ _ (by decide), su_ne _ _ _ (by decide), hS2, su_at]) (q A B _ h3 _ _ P3 ⟨rfl, rfl, rfl, rfl⟩ (IV.nx (I.bo (fun k x1 x2 x3 x4 x5 x6 hk => f3 k x2 x3 (fun z => hk (by unfold scr; omega)) (fun z => hk (by unfold scr; omega)) x5 x6) (fun i hi => ?_) (I.pl.of (f3 130 (by decide) (by decide) (by decide) (by decide) (by decide) (by decide)) (f3 131 (by decide) (by decide) (by decide) (by decide) (by decide) (by decide))) (by rw [f3 39 (by decide) (by decide) (by decide) (by decide) (by decide) (by decide)]; exact I.c39) (by rw [f3 49 (by decide) (by decide) (by decide) (by decide) (by decide) (by decide)]; exact I.c49) (fun i hi => ?_) (fun i hi => ?_) (fun i hi => ?_))) (by omega) (by omega))
    · rw [su_ne _ _ _ (by decide), su_ne _ _ _ (by decide), su_nei _ _ _ hi, f2 80 (by decide) (by decide) (by decide)]
    · rw [f3 36 (by decide) (by decide) (by decide) (by decide) (by decide) (by decide), f3 116 (by decide) (by decide) (by decide) (by decide) (by decide) (by decide)]
      exact ⟨I.br.1 i hi, I.b36 i hi⟩
    · rw [e37, su_ne (k := 118) (k' := 117) _ _ _ (by decide)]
      by_cases y : i = t
      · subst y; rw [su_at, su_at]; exact ⟨⟨by omega, Int.le_refl _⟩, rfl⟩
      · rw [su_nei _ _ _ y, su_nei _ _ _ y, su_ne (k := 80) (k' := 117) _ _ _ (by decide), f2 117 (by decide) (by decide) (by decide)]
        exact ⟨I.br.2.1 i hi, I.b37 i hi⟩
    · rw [e38]
      by_cases y : i = t
      · subst y; rw [su_at, su_at]; exact ⟨Or.inl rfl, rfl⟩
      · rw [su_nei _ _ _ y, su_nei _ _ _ y, su_ne (k := 117) (k' := 118) _ _ _ (by decide), su_ne (k := 80) (k' := 118) _ _ _ (by decide), f2 118 (by decide) (by decide) (by decide)]
        exact ⟨I.br.2.2.1 i hi, I.b38 i hi⟩
  · refine ⟨fun z => absurd z (by decide), fun _ => ⟨v1, v2, P.o (k := 80) rfl, ?_⟩, Or.inr rfl⟩
    exact P.m_ask I.mo r1 r2 (fun a' => absurd ((vi _).mp a') a) (fun a' h3 P3 => P3.endX I (Or.inl rfl) il_1 q (by omega) (by omega)) (fun a' => absurd ((vi _).mp a') a)
  · refine ⟨fun _ => ⟨v1, v2, P.o (k := 80) rfl, ?_⟩, fun z => absurd z (by decide), Or.inl rfl⟩
    exact P.m_ask I.mo r1 r2 (fun _ b' => absurd b' b) (fun a' => absurd ((vi _).mpr a) a') (fun _ _ h3 P3 => P3.endX I (Or.inr (Or.inl rfl)) il_2 q (by omega) (by omega))
end LW5
