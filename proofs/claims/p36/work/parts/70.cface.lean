/-! the class's own calls: guards, questions -/
theorem bI_01 (b : Bool) : ii (bI b) = 0 ∨ ii (bI b) = 1 := by
  cases b
  · exact Or.inl rfl
  · exact Or.inr rfl
theorem ab_le {x : Int} (h : -200000 ≤ x ∧ x ≤ 200000) : 0 ≤ ab x ∧ ab x ≤ 200000 := by unfold ab; omega
theorem fst_m {E : Nat → Nat → Int} {C : Int} {m m' : Nat → Bool} {s : Nat} {p p' : Nat → Int} (h : ∀ i, i < 8 → m i = m' i) (q : fst E m C s p p') : fst E m' C s p p' := by
  refine ⟨q.1, fun t ht ht8 hm => ?_⟩
  obtain ⟨g1, g2, g3⟩ := q.2 t ht ht8 (by rw [h t ht8]; exact hm)
  refine ⟨g1, fun k hk hmk => g2 k hk (by rw [h k (by omega)]; exact hmk), fun c c0 c1 w => g3 c c0 c1 ⟨fun k hk hmk => w.1 k hk (by rw [← h k (by omega)]; exact hmk), okp_m (fun i hi => (h i hi).symm) w.2⟩⟩
theorem okp_0 {E : Nat → Nat → Int} {C : Int} {m : Nat → Bool} {p q : Nat → Int} (h : okp E m C 0 p) : okp E m C 0 q := okp_of (fun i hi => by omega) h
/-- a station's number, of a number -/
def vst (S : Nat → Nat → Int) (v : Int) : Prop := 0 ≤ v ∧ v < S 51 2
def vsi (S : Nat → Nat → Int) (v : Int) : Prop := 0 ≤ v ∧ v < S 50 2
section CF1
variable {G : Gx} {A : Nat → Nat} {B : Nat → Nat → Nat} {S : Nat → Nat → Int} {h : hw}
theorem needR {p : Nat} {v a b : Int} (hv : rg v) (ha : rg a) (hb : rg b) {x y z : Int32} (hx : x = ii v) (hy : y = ii a) (hz : z = ii b) {post : Prop} {xp : String → Prop} (q1 : a ≤ v → v ≤ b → post) (q0 : ¬ (a ≤ v ∧ v ≤ b) → xp "java/lang/IllegalArgumentException") : wp_X11_needRange G p x y z h post xp := by
  subst hx hy hz
  intro J hJ
  rw [ii_lt hv ha, ii_le hv hb]
  exact ⟨fun c => hJ (q0 (by omega)), fun c => ⟨fun c2 => q1 (by omega) c2, fun c2 => hJ (q0 (by omega))⟩⟩
theorem needC {p : Nat} {c r : Int} (hc : rg c) (hr : rg r) {post : Prop} {xp : String → Prop} (q1 : 0 ≤ c ∧ c ≤ 19 → 0 ≤ r ∧ r ≤ 19 → post) (q0 : ¬ ((0 ≤ c ∧ c ≤ 19) ∧ 0 ≤ r ∧ r ≤ 19) → xp "java/lang/IndexOutOfBoundsException") : wp_X11_needCell G p (ii c) (ii r) h post xp := by
  intro J hJ
  rw [il_0, il_20, ii_lt hc ⟨by omega, by omega⟩, ii_lt hr ⟨by omega, by omega⟩, ii_le ⟨by omega, by omega⟩ hc, ii_lt hr ⟨by omega, by omega⟩]
  exact ⟨fun a => hJ (q0 (by omega)), fun a => ⟨fun b => hJ (q0 (by omega)), fun b => ⟨fun d => hJ (q0 (by omega)), fun d => ⟨fun e => q1 (by omega) (by omega), fun e => hJ (q0 (by omega))⟩⟩⟩⟩
theorem Pic.needS (P : Pic G A B S h) (hL : LOK S) {v : Int} (hv : rg v) {post : Prop} {xp : String → Prop} (q1 : vsi S v → post) (q0 : ¬ vsi S v → xp "java/lang/IndexOutOfBoundsException") : wp_X11_needSite G (A 0) (ii v) h post xp := by
  have h1 := hL.1.1; have h2 := hL.1.2.1
  intro J hJ
  rw [il_0, ii_lt hv ⟨by omega, by omega⟩]
  refine ⟨fun c => hJ (q0 (fun z => by have := z.1; omega)), fun c => ?_⟩
  refine P.rR (k := 0) rfl rfl ?_
  refine P.rR (k := 1) rfl rfl ?_
  refine P.nS ?_
  rw [ii_lt hv ⟨by omega, by omega⟩]
  exact ⟨fun c2 => q1 ⟨by omega, c2⟩, fun c2 => hJ (q0 (fun z => c2 z.2))⟩
theorem Pic.stAt (P : Pic G A B S h) (hL : LOK S) {v : Int} (hv : rg v) {post : Nat → Prop} {xp : String → Prop} (q1 : vst S v → post (A (70 + v.toNat))) (q0 : ¬ vst S v → xp "java/lang/IndexOutOfBoundsException") : wp_X11_stationAt G (A 0) (ii v) h post xp := by
  have h1 := hL.2.1; have h2 := hL.2.2.1
  intro J hJ
  rw [il_0, ii_lt hv ⟨by omega, by omega⟩]
  refine ⟨fun c => hJ (q0 (fun z => by have := z.1; omega)), fun c => ?_⟩
  refine P.rR (k := 0) rfl rfl ?_
  refine P.nT ?_
  rw [ii_lt hv ⟨by omega, by omega⟩]
  refine ⟨fun c2 => ?_, fun c2 => hJ (q0 (fun z => c2 z.2))⟩
  refine P.rR (k := 0) rfl rfl ?_
  exact P.gT hL (i := v.toNat) (congrArg ii (by omega)) (by omega) (q1 ⟨by omega, c2⟩)
theorem Pic.needSil (P : Pic G A B S h) (hc : chs (S 32)) {post : Prop} {xp : String → Prop} (q1 : (∀ j, j < 8 → S 32 j = -1) → post) (q0 : ¬ (∀ j, j < 8 → S 32 j = -1) → xp "java/lang/IllegalStateException") : wp_X11_needSilence G (A 0) h post xp := by
  refine P.rR (k := 0) rfl rfl ⟨P.o (k := 3) rfl, P.onesOn hc (fun x hx => ?_)⟩
  refine ⟨fun z => q1 (fun j hj => ?_), fun z => q0 (fun w => z (b_ext (fun i _ => ?_)))⟩
  · have := hx j
    rw [z, b_0, decide_eq_true hj, Bool.true_and] at this
    exact Decidable.of_not_not (of_decide_eq_false this.symm)
  · rw [hx i, b_0]
    show (decide (i < 8) && decide (S 32 i ≠ -1)) = false
    by_cases y : i < 8
    · rw [decide_eq_false (p := S 32 i ≠ -1) (fun u => u (w i y)), Bool.and_false]
    · rw [decide_eq_false y, Bool.false_and]
theorem Pic.needCh (P : Pic G A B S h) {v : Int} (hv : rg v) {post : Prop} {xp : String → Prop} (q1 : 0 ≤ v → v ≤ 7 → post) (q0 : ¬ (0 ≤ v ∧ v ≤ 7) → xp "java/lang/IllegalArgumentException") : wp_X11_needChannel G (A 0) (ii v) h post xp := ⟨P.o (k := 0) rfl, needR hv (a := 0) (b := 7) ⟨by omega, by omega⟩ ⟨by omega, by omega⟩ rfl il_0 il_7 q1 q0⟩
theorem Pic.onAir (P : Pic G A B S h) (hL : LOK S) (hc : chs (S 32)) {v : Int} (hv : rg v) {post : Nat → Prop} {xp : String → Prop} (q1 : vst S v → S 32 v.toNat ≠ -1 → post (A (70 + v.toNat))) (q0 : ¬ vst S v → xp "java/lang/IndexOutOfBoundsException") (q2 : vst S v → S 32 v.toNat = -1 → xp "java/lang/UnsupportedOperationException") : wp_X11_stationOnAir G (A 0) (ii v) h post xp := by
  have h2 := hL.2.2.1
  refine ⟨P.o (k := 0) rfl, P.stAt hL hv (fun hv2 => ?_) q0⟩
  have hv3 := hv2
  unfold vst at hv3
  refine P.rR (k := 0) rfl rfl ?_
  refine P.oat (i := v.toNat) (k := 3) (r := 12) (rk := 32) rfl rfl ⟨by omega, by omega⟩ (congrArg ii (by omega)) (show _ < 8 by omega) ?_
  have := hc v.toNat
  rw [il_m1, ii_eq ⟨by omega, by omega⟩ ⟨by omega, by omega⟩]
  exact ⟨fun z => q1 hv2 z, fun z => q2 hv2 z⟩
theorem vst_n {v : Int} (h : vst S v) : v = ((v.toNat : Nat) : Int) ∧ (((v.toNat : Nat)) : Int) < S 51 2 := by unfold vst at h; omega
theorem vsi_n {v : Int} (h : vsi S v) : v = ((v.toNat : Nat) : Int) ∧ (((v.toNat : Nat)) : Int) < S 50 2 := by unfold vsi at h; omega
theorem Pic.c_loss (P : Pic G A B S h) (hK : KI S) {v w : Int} (hv : rg v) (hw : rg w) {post : Int32 → Prop} {xp : String → Prop} (q1 : vsi S v → vsi S w → post (ii (lossE (EC S) v.toNat w.toNat))) (q0 : ¬ (vsi S v ∧ vsi S w) → xp "java/lang/IndexOutOfBoundsException") : wp_X11_loss G (A 0) (ii v) (ii w) h post xp := by
  refine ⟨P.o (k := 0) rfl, P.needS hK.1.1 hv (fun a => ?_) (fun a => q0 (fun z => a z.1))⟩
  refine ⟨P.o (k := 0) rfl, P.needS hK.1.1 hw (fun b => ?_) (fun b => q0 (fun z => b z.2))⟩
  refine P.rR (k := 0) rfl rfl (P.rR (k := 1) rfl rfl ⟨P.o (k := 2) rfl, ?_⟩)
  exact P.loss hK (congrArg ii (vsi_n a).1) (congrArg ii (vsi_n b).1) (vsi_n a).2 (vsi_n b).2 (q1 a b)
theorem Pic.c_level (P : Pic G A B S h) (hK : KI S) {v : Int} (hv : rg v) {post : Int32 → Prop} {xp : String → Prop} (q1 : vst S v → post (ii (lvE (EC S) v.toNat))) (q0 : ¬ vst S v → xp "java/lang/IndexOutOfBoundsException") : wp_X11_level G (A 0) (ii v) h post xp := by
  refine P.rR (k := 0) rfl rfl ⟨P.o (k := 0) rfl, P.stAt hK.1.1 hv (fun a => ?_) q0⟩
  exact ⟨P.o (k := 1) rfl, P.level hK (vst_n a).2 (q1 a)⟩
theorem Pic.c_harm (P : Pic G A B S h) (hK : KI S) (hc : chs (S 32)) {v : Int} (hv : rg v) {post : Int32 → Prop} {xp : String → Prop} (q1 : vst S v → S 32 v.toNat ≠ -1 → ∀ a, hs (EC S) v.toNat (S 32) (nt (EC S)) = some a → post (ii a)) (q0 : ¬ vst S v → xp "java/lang/IndexOutOfBoundsException") (q2 : vst S v → S 32 v.toNat = -1 → xp "java/lang/UnsupportedOperationException") (q3 : vst S v → S 32 v.toNat ≠ -1 → hs (EC S) v.toNat (S 32) (nt (EC S)) = none → xp "java/util/NoSuchElementException") : wp_X11_harm G (A 0) (ii v) h post xp := by
  refine P.rR (k := 0) rfl rfl ⟨P.o (k := 0) rfl, P.onAir hK.1.1 hc hv (fun a b => ?_) q0 q2⟩
  refine P.rR (k := 0) rfl rfl (P.rR (k := 3) rfl rfl ⟨P.o (k := 1) rfl, ?_⟩)
  refine P.allHarm hK (r := 12) (vst_n a).2 (Or.inl rfl) hc ?_
  cases e : hs (EC S) v.toNat (S 32) (nt (EC S)) with
  | none => exact ⟨fun z => absurd (by rw [il_m6]) z, fun _ => q3 a b e⟩
  | some y =>
    have ha := hs_le hK.1.2.1 v.toNat (S 32) _ y e
    have hn := (nt8 hK).1
    refine ⟨fun _ => q1 a b y e, fun z => ?_⟩
    have z : ii y = -1000000 := z
    rw [il_m6, ii_eq ⟨by omega, by omega⟩ ⟨by decide, by decide⟩] at z
    omega
theorem Pic.c_keeps (P : Pic G A B S h) (hK : KI S) (hc : chs (S 32)) {v : Int} (hv : rg v) {post : Int32 → Prop} {xp : String → Prop} (q1 : vst S v → S 32 v.toNat ≠ -1 → post (ii (bI (kp (EC S) v.toNat (S 32))))) (q0 : ¬ vst S v → xp "java/lang/IndexOutOfBoundsException") (q2 : vst S v → S 32 v.toNat = -1 → xp "java/lang/UnsupportedOperationException") : wp_X11_keeps G (A 0) (ii v) h post xp := by
  refine P.rR (k := 0) rfl rfl ⟨P.o (k := 0) rfl, P.onAir hK.1.1 hc hv (fun a b => ?_) q0 q2⟩
  refine P.rR (k := 0) rfl rfl (P.rR (k := 3) rfl rfl ⟨P.o (k := 1) rfl, ?_⟩)
  exact P.keeps hK (r := 12) (vst_n a).2 (Or.inl rfl) hc ⟨bI_01 _, q1 a b⟩
theorem Pic.c_bars (P : Pic G A B S h) (hK : KI S) {v c w d : Int} (hv : rg v) (hc : rg c) (hw : rg w) (hd : rg d) {post : Int32 → Prop} {xp : String → Prop} (q1 : vst S v → vst S w → v ≠ w → (0 ≤ c ∧ c ≤ 7) → (0 ≤ d ∧ d ≤ 7) → post (ii (bI (br2 (EC S) v.toNat c w.toNat d)))) (q0 : ¬ (vst S v ∧ vst S w) → xp "java/lang/IndexOutOfBoundsException") (q2 : vst S v → vst S w → ¬ (v ≠ w ∧ (0 ≤ c ∧ c ≤ 7) ∧ 0 ≤ d ∧ d ≤ 7) → xp "java/lang/IllegalArgumentException") : wp_X11_bars G (A 0) (ii v) (ii c) (ii w) (ii d) h post xp := by
  have h8 := hK.1.1.2.2.1
  refine ⟨P.o (k := 0) rfl, P.stAt hK.1.1 hv (fun a => ?_) (fun a => q0 (fun z => a z.1))⟩
  refine ⟨P.o (k := 0) rfl, P.stAt hK.1.1 hw (fun b => ?_) (fun b => q0 (fun z => b z.2))⟩
  refine ⟨fun z => ?_, fun z => q2 a b (fun y => y.1 ?_)⟩
  · have hne : v ≠ w := fun y => z (by rw [y])
    refine ⟨P.o (k := 0) rfl, P.needCh hc (fun c0 c1 => ?_) (fun y => q2 a b (fun u => y u.2.1))⟩
    refine ⟨P.o (k := 0) rfl, P.needCh hd (fun d0 d1 => ?_) (fun y => q2 a b (fun u => y u.2.2))⟩
    refine P.rR (k := 0) rfl rfl ⟨P.o (k := 1) rfl, ?_⟩
    have h0 : 0 ≤ ab (c - d) ∧ ab (c - d) ≤ 8 := by unfold ab; omega
    refine P.bar hK (vst_n a).2 (vst_n b).2 (ap := ab (c - d)) ⟨by omega, by omega⟩ (by rw [ii_sub, ii_ab ⟨by omega, by omega⟩]) ⟨bI_01 _, q1 a b hne ⟨c0, c1⟩ ⟨d0, d1⟩⟩
  · have na := vst_n a; have nb := vst_n b
    have e := P.2.1 (70 + v.toNat) (70 + w.toNat) _ _ (ctn_st na.2 (by omega)) (ctn_st nb.2 (by omega)) z
    omega
theorem Pic.c_chAt (P : Pic G A B S h) (hK : KI S) {n : Nat} (hn : n ≤ 511) (R : RI S n) {v d : Int} (hv : rg v) (hd : rg d) {post : Int32 → Prop} {xp : String → Prop} (q1 : vst S v → (0 ≤ d ∧ d ≤ S 3 1) → post (ii (LC S v.toNat d))) (q0 : ¬ vst S v → xp "java/lang/IndexOutOfBoundsException") (q2 : vst S v → ¬ (0 ≤ d ∧ d ≤ S 3 1) → xp "java/lang/IllegalArgumentException") : wp_X11_channelOf G (A 0) (ii v) (ii d) h post xp := by
  have ht := R.today
  have h8 := hK.1.1.2.2.1
  refine ⟨P.o (k := 0) rfl, P.stAt hK.1.1 hv (fun a => ?_) q0⟩
  refine P.rR (k := 0) rfl rfl (P.rI (k := 3) rfl rfl ⟨P.o (k := 0) rfl, ?_⟩)
  refine needR hd (a := 0) (b := S 3 1) ⟨by omega, by omega⟩ ⟨by omega, by omega⟩ rfl il_0 rfl (fun b c => ?_) (q2 a)
  have na := vst_n a
  refine P.rR (k := 0) rfl rfl (P.rI (ctn_st na.2 (by omega)) rfl ⟨P.o (k := 3) rfl, ?_⟩)
  rw [(hK.ends na.2).2.2.2.2.1]
  exact P.channelAt hn R (s := v.toNat) (by omega) rfl hd (q1 a ⟨b, c⟩)
/-! the border -/
/-- the border's cells -/
def BR (S : Nat → Nat → Int) : Prop := (∀ i, i < 8 → S 36 i = 0 ∨ S 36 i = 1) ∧ (∀ i, i < 64 → -1 ≤ S 37 i ∧ S 37 i ≤ S 3 1) ∧ (∀ i, i < 64 → S 38 i = 0 ∨ S 38 i = 1) ∧ (0 ≤ S 3 1 ∧ S 3 1 ≤ 100000)
theorem Pic.isFor (P : Pic G A B S h) (hB : BR S) {i : Nat} (hi : i < 8) {x : Int32} (hx : x = ii (i : Int)) {post : Int32 → Prop} (q : post (ii (S 36 i))) : wp_X1_isForeign G (A 4) x h post := by
  have := hB.1 i hi
  refine P.oat (i := i) (k := 4) (r := 16) (rk := 36) rfl rfl ⟨by omega, by omega⟩ hx (show _ < 8 by omega) ?_
  rw [il_1, ii_eq ⟨by omega, by omega⟩ ⟨by omega, by omega⟩]
  refine ⟨fun z => ?_, fun z => ?_⟩
  · rw [show S 36 i = 0 by omega] at q; exact q
  · rw [z] at q; exact q
theorem ix8 {a b : Nat} {x y : Int32} (hx : x = ii (a : Int)) (hy : y = ii (b : Int)) : (x * 8) + y = ii ((a * 8 + b : Nat) : Int) := by
  subst hx hy
  rw [il_8, ii_mul, ii_add]; exact congrArg ii (by omega)
theorem Pic.wasA (P : Pic G A B S h) (hB : BR S) {a b : Nat} (ha : a < 8) (hb : b < 8) {x y : Int32} (hx : x = ii (a : Int)) (hy : y = ii (b : Int)) {post : Int32 → Prop} (q : post (ii (bI (decide (S 37 (a * 8 + b) ≠ -1))))) : wp_X1_wasAsked G (A 4) x y h post := by
  have := hB.2.1 (a * 8 + b) (by omega)
  have := hB.2.2.2
  refine P.oat (i := a * 8 + b) (k := 4) (r := 17) (rk := 37) rfl rfl ⟨by omega, by omega⟩ (ix8 hx hy) (show _ < 64 by omega) ?_
  rw [il_m1, ii_eq ⟨by omega, by omega⟩ ⟨by omega, by omega⟩]
  refine ⟨fun z => ?_, fun z => ?_⟩
  · rw [decide_eq_false (fun w => w z)] at q; exact q
  · rw [decide_eq_true z] at q; exact q
/-- whether a yes counts -/
def yes (S : Nat → Nat → Int) (i : Nat) : Bool := decide (S 37 i ≠ -1) && (decide (S 38 i = 0) && decide (S 37 i + 3 ≤ S 3 1))
theorem Pic.yesC (P : Pic G A B S h) (hB : BR S) {a b : Nat} (ha : a < 8) (hb : b < 8) {x y : Int32} (hx : x = ii (a : Int)) (hy : y = ii (b : Int)) {post : Int32 → Prop} (q : post (ii (bI (yes S (a * 8 + b))))) : wp_X1_yesCounts G (A 4) x y (ii (S 3 1)) h post := by
  have b1 := hB.2.1 (a * 8 + b) (by omega)
  have b2 := hB.2.2.1 (a * 8 + b) (by omega)
  have b3 := hB.2.2.2
  refine ⟨P.o (k := 4) rfl, P.wasA hB ha hb hx hy ?_⟩
  intro J hJ
  have no : yes S (a * 8 + b) = false → J := fun z => by apply hJ; rw [z] at q; exact q
  rw [bI_1, bI_0]
  refine ⟨fun c => no (by unfold yes; rw [c]; rfl), fun c => ?_⟩
  refine P.oat (i := a * 8 + b) (k := 4) (r := 18) (rk := 38) rfl rfl ⟨by omega, by omega⟩ (ix8 hx hy) (show _ < 64 by omega) ?_
  rw [il_0, ii_eq ⟨by omega, by omega⟩ ⟨by omega, by omega⟩]
  refine ⟨fun c2 => no (by unfold yes; rw [decide_eq_false c2, Bool.false_and, Bool.and_false]), fun c2 => ?_⟩
  refine P.oat (i := a * 8 + b) (k := 4) (r := 17) (rk := 37) rfl rfl ⟨by omega, by omega⟩ (ix8 hx hy) (show _ < 64 by omega) ?_
  rw [il_3, ii_add, ii_lt ⟨by omega, by omega⟩ ⟨by omega, by omega⟩]
  refine ⟨fun c3 => no (by unfold yes; rw [decide_eq_false (p := S 37 (a * 8 + b) + 3 ≤ S 3 1) (by omega), Bool.and_false, Bool.and_false]), fun c3 => ?_⟩
  have : yes S (a * 8 + b) = true := by unfold yes; rw [c, decide_eq_true c2, decide_eq_true (by omega)]; rfl
  rw [this] at q; exact q
theorem Pic.c_setFor (P : Pic G A B S h) (hB : BR S) {v : Int} (hv : rg v) {b : Bool} {post : Int32 → hw → Prop} {xp : String → hw → Prop} (q1 : 0 ≤ v ∧ v ≤ 7 → ∀ h', Pic G A B (su S 36 v.toNat (bI b)) h' → post (ii (S 36 v.toNat)) h') (q0 : ¬ (0 ≤ v ∧ v ≤ 7) → xp "java/lang/IllegalArgumentException" h) : wp_X11_setForeign G (A 0) (ii v) (ii (bI b)) h post xp := by
  refine ⟨P.o (k := 0) rfl, P.needCh hv (fun a c => ?_) q0⟩
  have := hB.1 v.toNat (by omega)
  refine P.rR (k := 0) rfl rfl ⟨P.o (k := 4) rfl, P.isFor hB (i := v.toNat) (by omega) (congrArg ii (by omega)) ?_⟩
  refine P.rR (k := 0) rfl rfl ⟨P.o (k := 4) rfl, ?_⟩
  refine P.rR (k := 4) rfl rfl ?_
  intro J hJ
  have fin : ∀ z : Int, z = bI b → J (A 16) (ii v) (ii z) := fun z hz => by
    apply hJ
    refine ⟨P.o (k := 16) rfl, P.put (k := 16) (rk := 36) (i := v.toNat) (z := z) (by omega) (by omega) (congrArg ii (by omega)) rfl (show _ < 8 by omega) (fun h2 P2 => ⟨?_, ?_⟩)⟩
    · rcases this with w | w
      · rw [w]; exact Or.inl rfl
      · rw [w]; exact Or.inr rfl
    · rw [hz] at P2
      exact q1 ⟨a, c⟩ h2 P2
  rw [bI_1, bI_0]
  exact ⟨fun z => fin 0 (by rw [z]; rfl), fun z => fin 1 (by rw [z]; rfl)⟩
theorem Pic.c_ask (P : Pic G A B S h) (hK : KI S) {v c : Int} (hv : rg v) (hc : rg c) {post : Int32 → hw → Prop} {xp : String → hw → Prop} (q1 : vst S v → (0 ≤ c ∧ c ≤ 7) → ∀ h', Pic G A B (su (su S 37 (v.toNat * 8 + c.toNat) (S 3 1)) 38 (v.toNat * 8 + c.toNat) 0) h' → post (ii (S 3 1 + 3)) h') (q0 : ¬ vst S v → xp "java/lang/IndexOutOfBoundsException" h) (q2 : vst S v → ¬ (0 ≤ c ∧ c ≤ 7) → xp "java/lang/IllegalArgumentException" h) : wp_X11_askAbroad G (A 0) (ii v) (ii c) h post xp := by
  have h8 := hK.1.1.2.2.1
  refine ⟨P.o (k := 0) rfl, P.stAt hK.1.1 hv (fun a => ?_) q0⟩
  refine ⟨P.o (k := 0) rfl, P.needCh hc (fun c0 c1 => ?_) (q2 a)⟩
  have na := vst_n a
  refine P.rR (k := 0) rfl rfl (P.rI (ctn_st na.2 (by omega)) rfl (P.rR (k := 0) rfl rfl (P.rI (k := 3) rfl rfl ⟨P.o (k := 4) rfl, ?_⟩)))
  have num := (hK.ends na.2).2.2.2.2.1
  refine P.rR (k := 4) rfl rfl ⟨P.o (k := 17) rfl, P.put (k := 17) (rk := 37) (i := v.toNat * 8 + c.toNat) (z := S 3 1) (by omega) (by omega) (ix8 (by rw [num]) (congrArg ii (by omega))) rfl (show _ < 64 by omega) (fun h1 P1 => ?_)⟩
  refine P1.rR (k := 4) rfl rfl ⟨P1.o (k := 18) rfl, P1.put (k := 18) (rk := 38) (i := v.toNat * 8 + c.toNat) (z := 0) (by omega) (by omega) (ix8 (by rw [num]) (congrArg ii (by omega))) il_0 (show _ < 64 by omega) (fun h2 P2 => ?_)⟩
  rw [il_3, ii_add]
  exact q1 a ⟨c0, c1⟩ h2 P2
theorem Pic.c_object (P : Pic G A B S h) (hK : KI S) (hB : BR S) {v c : Int} (hv : rg v) (hc : rg c) {post : Int32 → hw → Prop} {xp : String → hw → Prop} (q1 : vst S v → (0 ≤ c ∧ c ≤ 7) → S 37 (v.toNat * 8 + c.toNat) ≠ -1 → S 3 1 < S 37 (v.toNat * 8 + c.toNat) + 3 → ∀ h', Pic G A B (su S 38 (v.toNat * 8 + c.toNat) 1) h' → post 1 h') (q4 : vst S v → (0 ≤ c ∧ c ≤ 7) → S 37 (v.toNat * 8 + c.toNat) ≠ -1 → ¬ S 3 1 < S 37 (v.toNat * 8 + c.toNat) + 3 → post 0 h) (q0 : ¬ vst S v → xp "java/lang/IndexOutOfBoundsException" h) (q2 : vst S v → ¬ (0 ≤ c ∧ c ≤ 7) → xp "java/lang/IllegalArgumentException" h) (q3 : vst S v → (0 ≤ c ∧ c ≤ 7) → S 37 (v.toNat * 8 + c.toNat) = -1 → xp "java/util/NoSuchElementException" h) : wp_X11_object G (A 0) (ii v) (ii c) h post xp := by
  have h8 := hK.1.1.2.2.1
  refine ⟨P.o (k := 0) rfl, P.stAt hK.1.1 hv (fun a => ?_) q0⟩
  refine ⟨P.o (k := 0) rfl, P.needCh hc (fun c0 c1 => ?_) (q2 a)⟩
  have na := vst_n a
  have num := (hK.ends na.2).2.2.2.2.1
  have b1 := hB.2.1 (v.toNat * 8 + c.toNat) (by omega)
  have b3 := hB.2.2.2
  refine P.rR (k := 0) rfl rfl (P.rI (ctn_st na.2 (by omega)) rfl ⟨P.o (k := 4) rfl, ?_⟩)
  refine P.wasA hB (a := v.toNat) (b := c.toNat) (by omega) (by omega) (by rw [num]) (congrArg ii (by omega)) ?_
  rw [bI_1, bI_0]
  refine ⟨fun z => ?_, fun z => q3 a ⟨c0, c1⟩ (Decidable.of_not_not (of_decide_eq_false z))⟩
  have z := of_decide_eq_true z
  refine P.rR (k := 0) rfl rfl (P.rI (ctn_st na.2 (by omega)) rfl (P.rR (k := 0) rfl rfl (P.rI (k := 3) rfl rfl ⟨P.o (k := 4) rfl, ?_⟩)))
  refine P.oat (i := v.toNat * 8 + c.toNat) (k := 4) (r := 17) (rk := 37) rfl rfl ⟨by omega, by omega⟩ (ix8 (by rw [num]) (congrArg ii (by omega))) (show _ < 64 by omega) ?_
  intro J hJ
  rw [il_3, ii_add, ii_le ⟨by omega, by omega⟩ ⟨by omega, by omega⟩]
  refine ⟨fun w => ?_, fun w => ?_⟩
  · apply hJ
    exact ⟨fun _ => ⟨Or.inl rfl, Or.inl rfl, q4 a ⟨c0, c1⟩ z (by omega)⟩, fun y => absurd rfl y⟩
  · apply hJ
    refine ⟨fun y => absurd y (by decide), fun _ => ?_⟩
    refine P.rR (k := 4) rfl rfl ⟨P.o (k := 18) rfl, P.put (k := 18) (rk := 38) (i := v.toNat * 8 + c.toNat) (z := 1) (by omega) (by omega) (ix8 (by rw [num]) (congrArg ii (by omega))) il_1 (show _ < 64 by omega) (fun h2 P2 => ?_)⟩
    exact ⟨Or.inr rfl, Or.inr rfl, q1 a ⟨c0, c1⟩ z (by omega) h2 P2⟩
theorem Pic.c_hasYes (P : Pic G A B S h) (hK : KI S) (hB : BR S) {v c : Int} (hv : rg v) (hc : rg c) {post : Int32 → Prop} {xp : String → Prop} (q1 : vst S v → (0 ≤ c ∧ c ≤ 7) → post (ii (bI (yes S (v.toNat * 8 + c.toNat))))) (q0 : ¬ vst S v → xp "java/lang/IndexOutOfBoundsException") (q2 : vst S v → ¬ (0 ≤ c ∧ c ≤ 7) → xp "java/lang/IllegalArgumentException") : wp_X11_hasYes G (A 0) (ii v) (ii c) h post xp := by
  have h8 := hK.1.1.2.2.1
  refine ⟨P.o (k := 0) rfl, P.stAt hK.1.1 hv (fun a => ?_) q0⟩
  refine ⟨P.o (k := 0) rfl, P.needCh hc (fun c0 c1 => ?_) (q2 a)⟩
  have na := vst_n a
  have num := (hK.ends na.2).2.2.2.2.1
  refine P.rR (k := 0) rfl rfl (P.rI (ctn_st na.2 (by omega)) rfl (P.rR (k := 0) rfl rfl (P.rI (k := 3) rfl rfl ⟨P.o (k := 4) rfl, ?_⟩)))
  refine P.yesC hB (a := v.toNat) (b := c.toNat) (by omega) (by omega) (by rw [num]) (congrArg ii (by omega)) ⟨bI_01 _, q1 a ⟨c0, c1⟩⟩
end CF1
