/-! numbers with a point: no NaN comes of small ones -/
section FL
theorem fl_bound {s : Bool} {c : Nat} {q : Int} (hc : c < 2 ^ 53) (h1 : -1074 ≤ q) : ∀ d, FP.Core.bound FP.Core.b64 s c q = d → FP.Core.encode FP.Core.b64 d % 2 ^ 63 ≤ 9218868437227405312 := by
  intro d hd
  subst hd
  unfold FP.Core.bound
  have eq : FP.Core.Fmt.qmax FP.Core.b64 = 971 := by decide
  have em : FP.Core.Fmt.qmin FP.Core.b64 = -1074 := by decide
  have et : FP.Core.Fmt.tails FP.Core.b64 = 4503599627370496 := by decide
  have ee : FP.Core.Fmt.exps FP.Core.b64 = 2048 := by decide
  rw [eq]
  by_cases z : q ≤ 971
  · rw [if_pos z]
    show (if c < FP.Core.Fmt.tails FP.Core.b64 then FP.Core.assemble FP.Core.b64 s 0 c else FP.Core.assemble FP.Core.b64 s ((q - FP.Core.Fmt.qmin FP.Core.b64).toNat + 1) (c - FP.Core.Fmt.tails FP.Core.b64)) % 2 ^ 63 ≤ _
    unfold FP.Core.assemble
    rw [et, em, ee]
    have hs : s.toNat = 0 ∨ s.toNat = 1 := by cases s <;> decide
    by_cases y : c < 4503599627370496
    · rw [if_pos y]; omega
    · rw [if_neg y]; omega
  · rw [if_neg z]
    show FP.Core.assemble FP.Core.b64 s (FP.Core.Fmt.exps FP.Core.b64 - 1) 0 % 2 ^ 63 ≤ _
    unfold FP.Core.assemble
    rw [et, ee]
    have hs : s.toNat = 0 ∨ s.toNat = 1 := by cases s <;> decide
    omega
theorem fl_ratio (s : Bool) (a b : Nat) (e : Int) : FP.Core.encode FP.Core.b64 (FP.Core.roundRatio FP.Core.b64 s a b e) % 2 ^ 63 ≤ 9218868437227405312 := by
  have em : FP.Core.Fmt.qmin FP.Core.b64 = -1074 := by decide
  have et : FP.Core.Fmt.tails FP.Core.b64 = 4503599627370496 := by decide
  have ep : FP.Core.b64.p = 53 := rfl
  have ee : FP.Core.Fmt.exps FP.Core.b64 = 2048 := by decide
  have hs : s.toNat = 0 ∨ s.toNat = 1 := by cases s <;> decide
  unfold FP.Core.roundRatio
  by_cases z : a = 0
  · rw [if_pos z]
    show (if 0 < FP.Core.Fmt.tails FP.Core.b64 then FP.Core.assemble FP.Core.b64 s 0 0 else FP.Core.assemble FP.Core.b64 s ((FP.Core.Fmt.qmin FP.Core.b64 - FP.Core.Fmt.qmin FP.Core.b64).toNat + 1) (0 - FP.Core.Fmt.tails FP.Core.b64)) % 2 ^ 63 ≤ _
    rw [et, if_pos (by decide)]
    unfold FP.Core.assemble
    rw [et, ee]
    omega
  · rw [if_neg z]
    unfold FP.Core.roundAt FP.Core.settle
    have hq : -1074 ≤ FP.Core.quantum FP.Core.b64 a b e := by
      unfold FP.Core.quantum; rw [em]; exact Int.le_max_left _ _
    rw [ep, et]
    by_cases y : FP.Core.nearest (FP.Core.unitsNum a e (FP.Core.quantum FP.Core.b64 a b e)) (FP.Core.unitsDen b e (FP.Core.quantum FP.Core.b64 a b e)) < 2 ^ 53
    · rw [if_pos y]; exact fl_bound y hq _ rfl
    · rw [if_neg y]; exact fl_bound (by decide) (by omega) _ rfl
theorem fl_u (n : Nat) : (UInt64.ofNat n).toNat % 2 ^ 63 = n % 2 ^ 63 := by
  rw [UInt64.toNat_ofNat']
  omega
theorem fl_n64 {r : UInt64} (h : r.toNat % 2 ^ 63 ≤ 9218868437227405312) : vf_n64 r := by
  unfold vf_n64
  rw [UInt64.le_iff_toNat_le, UInt64.toNat_and]
  show r.toNat &&& (2 ^ 63 - 1) ≤ 9218868437227405312
  rw [Nat.and_two_pow_sub_one_eq_mod]
  exact h
/-- bits that are none of a NaN -/
theorem fl_dec {n : Nat} (h : n % 2 ^ 63 ≤ 9218868437227405312) : FP.Core.decode FP.Core.b64 n ≠ .nan := by
  have et : FP.Core.Fmt.tails FP.Core.b64 = 4503599627370496 := by decide
  have ee : FP.Core.Fmt.exps FP.Core.b64 = 2048 := by decide
  unfold FP.Core.decode FP.Core.fieldE FP.Core.fieldT
  rw [et, ee]
  by_cases z : n / 4503599627370496 % 2048 = 2048 - 1
  · rw [if_pos z, if_pos (by omega)]
    intro w; cases w
  · rw [if_neg z]
    split <;> (intro w; cases w)
theorem fl_i2d (x : Int32) : (FP.i2d x).toNat % 2 ^ 63 ≤ 9218868437227405312 := by
  show (UInt64.ofNat (FP.Core.encode FP.Core.b64 (FP.Core.roundRatio FP.Core.b64 (decide (x.toInt < 0)) x.toInt.natAbs 1 0))).toNat % 2 ^ 63 ≤ _
  rw [fl_u]
  exact fl_ratio _ _ _ _
def fl_nz (d : FP.Core.Datum) : Bool := match d with
  | .fin _ c _ => decide (c ≠ 0)
  | _ => false
theorem fl_small : ∀ b : Nat, b < 9 → 1 ≤ b → fl_nz (FP.Core.decode FP.Core.b64 (FP.i2d (ii (b : Int))).toNat) = true := by decide +kernel
theorem fl_div (x : Int32) {b : Nat} (h1 : 1 ≤ b) (h8 : b < 9) : (FP.ddiv (FP.i2d x) (FP.i2d (ii (b : Int)))).toNat % 2 ^ 63 ≤ 9218868437227405312 := by
  have hb := fl_small b h8 h1
  have hx := fl_dec (fl_i2d x)
  show (UInt64.ofNat (FP.Core.encode FP.Core.b64 (FP.Core.quotient FP.Core.b64 (FP.Core.decode FP.Core.b64 (FP.i2d x).toNat) (FP.Core.decode FP.Core.b64 (FP.i2d (ii (b : Int))).toNat)))).toNat % 2 ^ 63 ≤ _
  rw [fl_u]
  have ee : FP.Core.Fmt.exps FP.Core.b64 = 2048 := by decide
  have et : FP.Core.Fmt.tails FP.Core.b64 = 4503599627370496 := by decide
  cases hd : FP.Core.decode FP.Core.b64 (FP.i2d (ii (b : Int))).toNat with
  | nan => rw [hd] at hb; cases hb
  | inf s => rw [hd] at hb; cases hb
  | fin t d r =>
    rw [hd] at hb
    have hb : d ≠ 0 := of_decide_eq_true hb
    cases he : FP.Core.decode FP.Core.b64 (FP.i2d x).toNat with
    | nan => exact absurd he hx
    | inf s =>
      show FP.Core.assemble FP.Core.b64 (s != t) (FP.Core.Fmt.exps FP.Core.b64 - 1) 0 % 2 ^ 63 ≤ _
      unfold FP.Core.assemble
      rw [et, ee]
      have hs : (s != t).toNat = 0 ∨ (s != t).toNat = 1 := by cases (s != t) <;> decide
      omega
    | fin s c q =>
      show FP.Core.encode FP.Core.b64 (if d = 0 then _ else FP.Core.roundRatio FP.Core.b64 (s != t) c d (q - r)) % 2 ^ 63 ≤ _
      rw [if_neg hb]
      exact fl_ratio _ _ _ _
theorem fl_cmp {r : UInt64} (h : r.toNat % 2 ^ 63 ≤ 9218868437227405312) : Op.cmpValue (FP.dcmp r r) CmpOp.l = 0 := by
  have hd := fl_dec h
  have e : FP.dcmp r r = some .eq := by
    show FP.Core.order (FP.Core.decode FP.Core.b64 r.toNat) (FP.Core.decode FP.Core.b64 r.toNat) = some .eq
    cases he : FP.Core.decode FP.Core.b64 r.toNat with
    | nan => exact absurd he hd
    | inf s => cases s <;> rfl
    | fin s c q =>
      show some (compare (FP.Core.signed s (FP.Core.inUnits c q (min q q))) (FP.Core.signed s (FP.Core.inUnits c q (min q q)))) = some .eq
      simp [compare, compareOfLessAndEq]
  rw [e]; rfl
theorem fl_share : ∀ a : Nat, a < 9 → ∀ b : Nat, b < 9 → 1 ≤ b → ((FP.fdiv (FP.i2f (ii (a : Int))) (FP.i2f (ii (b : Int))) &&& 0x7fffffff ≤ 0x7f800000) ∧ (FP.f2d (FP.fdiv (FP.i2f (ii (a : Int))) (FP.i2f (ii (b : Int))))).toNat % 2 ^ 63 ≤ 9218868437227405312) := by decide +kernel
end FL
section CMS
variable {G : Gx} {A : Nat → Nat} {B : Nat → Nat → Nat} {S : Nat → Nat → Int} {h : hw}
/-- who is on -/
def onf (S : Nat → Nat → Int) (j : Nat) : Bool := decide (S 32 j ≠ -1)
theorem Pic.onesCnt (P : Pic G A B S h) (hc : chs (S 32)) {K : Int32 → Prop} (q : K (ii (cnt (onf S) 8))) : rdR h (A 0) 11 1 (fun v4 => (isO h v4 6 ∧ wp_X6_onesOn G v4 h (fun r5 => wp_J6_bitCount_0f7a4 G r5 h K))) := by
  refine P.rR (k := 0) rfl rfl ⟨P.o (k := 3) rfl, P.onesOn hc (fun x hx => bitc (fun i hi => ?_) ?_)⟩
  · rw [hx i, decide_eq_false (by omega)]; rfl
  · rw [cnt_of (g := onf S) (fun j hj => by rw [hx j, decide_eq_true hj]; rfl)]
    exact q
theorem Pic.c_onShare (P : Pic G A B S h) (hK : KI S) (hc : chs (S 32)) {post : UInt32 → Prop} {xp : String → Prop} (q1 : S 51 2 ≠ 0 → post (FP.fdiv (FP.i2f (ii (cnt (onf S) 8))) (FP.i2f (ii (S 51 2))))) (q0 : S 51 2 = 0 → xp "java/lang/ArithmeticException") : wp_X11_onShare G (A 0) h post xp := by
  obtain ⟨h8, hn⟩ := nt8 hK
  refine P.rR (k := 0) rfl rfl (P.nT ?_)
  rw [il_0, ii_eq ⟨by omega, by omega⟩ ⟨by decide, by decide⟩]
  refine ⟨fun z => P.onesCnt hc ⟨?_, q1 z⟩, fun z => q0 z⟩
  have c := cnt_in (onf S) 8
  have := (fl_share (cnt (onf S) 8).toNat (by omega) (nt (EC S)) (by omega) (by omega)).1
  rw [show (((cnt (onf S) 8).toNat : Nat) : Int) = cnt (onf S) 8 by omega, ← hn] at this
  exact this
/-- the levels of those that are on, together -/
def lvs (E : Nat → Nat → Int) (now : Nat → Int) : Nat → Int
  | 0 => 0
  | n + 1 => lvs E now n + (if now n = -1 then 0 else lvE E n)
theorem Pic.c_isSound (P : Pic G A B S h) (hK : KI S) {n : Nat} (hn5 : n ≤ 511) (R : RI S n) (hB : BD S) (hFB : FB S) (hFA : FA S) (h42 : ∀ j, j < 8 → -1 ≤ S 42 j ∧ S 42 j ≤ 9999) (h81 : S 8 1 = 0 ∨ S 8 1 = 1) (hal : S 8 1 = 0 → alk (EC S) (S 32)) {post : Int32 → Prop} (q : post 1) : wp_X11_isSound G (A 0) h post := by
  refine P.rR (k := 0) rfl rfl (P.rI (k := 8) rfl rfl ?_)
  intro J32 hJ32 J27 hJ27
  have fin : J27 := by
    apply hJ27; apply hJ32
    intro J71 hJ71
    refine ⟨fun z => absurd z (by decide), fun _ => ?_⟩
    refine P.rR (k := 0) rfl rfl ⟨P.o (k := 3) rfl, P.holdsToday hn5 R ⟨fun z => absurd z (by decide), fun _ => ?_⟩⟩
    refine P.rR (k := 0) rfl rfl ⟨P.o (k := 7) rfl, P.buyFair hB hFB ⟨fun z => absurd z (by decide), fun _ => ?_⟩⟩
    refine P.rR (k := 0) rfl rfl ⟨P.o (k := 6) rfl, P.selFair hFA (fun j hj => by have := h42 j hj; exact ⟨by omega, by omega⟩) (fun j hj => by have := (hFA j hj).1; exact ⟨by omega, by omega⟩) ⟨fun z => absurd z (by decide), fun _ => q⟩⟩
  rw [il_0, ii_eq ⟨by omega, by omega⟩ ⟨by decide, by decide⟩]
  refine ⟨fun _ => fin, fun z => ?_⟩
  refine P.rR (k := 0) rfl rfl (P.rR (k := 0) rfl rfl (P.rR (k := 3) rfl rfl ⟨P.o (k := 1) rfl, P.allKeep hK (r := 12) (Or.inl rfl) R.2.2.2.1 (fun _ => ⟨fun w => absurd w (by decide), fun _ => fin⟩) (fun w => absurd (hal z) w)⟩))
/-- who is to move -/
def mvf (S : Nat → Nat → Int) (j : Nat) : Bool := bt (ii (S 6 3)) j && decide (S 32 j ≠ -1)
noncomputable def mres (E : Nat → Nat → Int) (mv : Nat → Bool) (p now : Nat → Int) (cr : Int) : (Nat → Int) × (Nat → Int) × Int × Int := mrun E p cr (nt E) 16 (fun j => mv j && !(decide (now j = p j))) now (fun j => if (mv j && decide (now j = p j)) = true then 0 else -1) 0 0
theorem Pic.c_move (P : Pic G A B S h) (hK : KI S) (h39 : chs (S 39)) {n : Nat} (hn5 : n ≤ 511) (R : RI S n) (h61 : S 6 1 = 0 ∨ S 6 1 = 1) (h62 : 0 ≤ S 6 2 ∧ S 6 2 ≤ 8) (h63 : ∀ j, bt (ii (S 6 3)) j = true → j < nt (EC S) ∧ EC S 7 j = 1) {cr : Int} (hcr : rg cr) {post : Int32 → hw → Prop} {xp : String → hw → Prop} (q1 : (1 ≤ cr ∧ cr ≤ 4) → S 6 1 = 1 → ∀ p, chs p → fst (EC S) (mvf S) (S 6 2) 0 (fun _ => -1) p → ∀ Z, Z = mres (EC S) (mvf S) p (S 32) cr → ∀ S' h', Pic G A B S' h' → RC S S' n → (∀ k, ¬ kr k → ¬ kp5 k → k ≠ 8 → k ≠ 48 → S' k = S k) → chs (S' 39) → S' 8 1 = 1 → S' 32 = Z.1 → (∀ j, j < 8 → S' 48 j = Z.2.1 j) → S' 8 2 = Z.2.2.1 → (0 ≤ Z.2.2.2 ∧ Z.2.2.2 ≤ 16) → post (ii Z.2.2.2) h') (q0 : ¬ (1 ≤ cr ∧ cr ≤ 4) → xp "java/lang/IllegalArgumentException" h) (q2 : (1 ≤ cr ∧ cr ≤ 4) → ¬ (S 6 1 = 1 ∧ okp (EC S) (mvf S) (S 6 2) 0 (fun _ => -1)) → ∀ S' h', Pic G A B S' h' → (∀ k, ¬ kp5 k → S' k = S k) → chs (S' 39) → xp "java/lang/UnsupportedOperationException" h') : wp_X11_move G (A 0) (ii cr) h post xp := by
  obtain ⟨h8, hn⟩ := nt8 hK
  refine ⟨P.o (k := 0) rfl, needR hcr (a := 1) (b := 4) ⟨by omega, by omega⟩ ⟨by omega, by omega⟩ rfl il_1 il_4 (fun a0 a1 => ?_) q0⟩
  have q1 := q1 ⟨a0, a1⟩
  have q2 := q2 ⟨a0, a1⟩
  refine P.rR (k := 0) rfl rfl (P.rI (k := 6) rfl rfl ?_)
  rw [show (ii (S 6 1) = 0) = (ii (S 6 1) = ii 0) from rfl, ii_eq ⟨by omega, by omega⟩ ⟨by decide, by decide⟩]
  refine ⟨fun w => ?_, fun w => q2 (fun z => by omega) S h P (fun _ _ => rfl) h39⟩
  have w1 : S 6 1 = 1 := by omega
  refine P.rR (k := 0) rfl rfl (P.rI (k := 6) rfl rfl (P.rR (k := 0) rfl rfl ⟨P.o (k := 3) rfl, P.onesOn R.2.2.2.1 (fun x hx => ?_)⟩))
  have mvb : ∀ j, bt (ii (S 6 3) &&& x) j = mvf S j := fun j => by
    rw [b_and, hx j]
    unfold mvf
    by_cases y : j < 8
    · rw [decide_eq_true y, Bool.true_and]
    · have : bt (ii (S 6 3)) j = false := Bool.eq_false_iff.mpr (fun z => by have := (h63 j z).1; omega)
      rw [this, Bool.false_and, Bool.false_and]
  have mvn : ∀ j, mvf S j = true → j < nt (EC S) ∧ EC S 7 j = 1 := fun j hj => by
    unfold mvf at hj; rw [Bool.and_eq_true] at hj; exact h63 j hj.1
  refine P.rR (k := 0) rfl rfl (P.rR (k := 0) rfl rfl (P.rR (k := 0) rfl rfl (P.rI (k := 6) rfl rfl ⟨P.o (k := 5) rfl, P.prep hK h39 (C := S 6 2) h62 rfl (fun S1 h1 P1 f1 hK1 eE hR => ?_)⟩)))
  refine P1.rR (k := 0) rfl rfl ⟨P1.o (k := 5) rfl, P1.findFirst hR (fun i hi => by rw [mvb i] at hi; exact (mvn i hi).1) (fun S2 h2 P2 k1 k2 k3 => ?_) (fun S2 h2 P2 k1 k2 k3 => ?_)⟩
  · refine ⟨fun _ => ?_, fun z => absurd z (by decide)⟩
    have f2 : ∀ k, ¬ kp5 k → S2 k = S k := fun k hk => by rw [k1 k (fun z => hk (Or.inl z)) (fun z => hk (Or.inr (Or.inl z))), f1 k hk]
    obtain ⟨hK2, eE2, e512, e72⟩ := kp5_K f2 hK
    have c39 : chs (S2 39) := k2.2.2.2.2.2
    have e32 : S2 32 = S 32 := f2 32 (fun z => by unfold kp5 at z; omega)
    have fp : fst (EC S) (mvf S) (S 6 2) 0 (fun _ => -1) (S2 39) := fst_m (fun i _ => mvb i) k3
    have q1 := q1 w1 (S2 39) c39 fp _ rfl
    refine P2.rR (k := 0) rfl rfl (P2.rR (k := 0) rfl rfl (P2.rR (k := 0) rfl rfl ⟨P2.o (k := 8) rfl, P2.moveBegin (by rw [e32]; exact R.2.2.2.1) c39 (fun S3 h3 P3 g1 g2 g3 g4 g5 => ?_)⟩))
    have f3 : ∀ k, ¬ kp5 k → k ≠ 8 → k ≠ 48 → S3 k = S k := fun k a b c => by rw [g1 k b c, f2 k a]
    have hK3 : KI S3 ∧ EC S3 = EC S := by
      have e2 : ∀ k, kl k → S3 k = S k := fun k hk => f3 k (fun z => by unfold kp5 at z; unfold kl at hk; omega) (fun z => by unfold kl at hk; omega) (fun z => by unfold kl at hk; omega)
      exact ⟨hK.of e2 (f3 31 (fun z => by unfold kp5 at z; omega) (by decide) (by decide)), EC_of e2⟩
    obtain ⟨hK3, eE3⟩ := hK3
    have e39 : S3 39 = S2 39 := g1 39 (by decide) (by decide)
    have e332 : S3 32 = S 32 := by rw [g1 32 (by decide) (by decide), e32]
    rw [e32] at g4 g5
    refine P3.rR (k := 0) rfl rfl (P3.rR (k := 0) rfl rfl (P3.rR (k := 0) rfl rfl (P3.rR (k := 0) rfl rfl ⟨P3.o (k := 8) rfl, ?_⟩)))
    have R3 : RI S3 n := R.of (fun k hk => f3 k (fun z => by unfold kp5 at z; unfold kg at hk; omega) (fun z => by unfold kg at hk; omega) (fun z => by unfold kg at hk; omega))
    refine P3.moveRun hn5 R3 hK3 (by rw [eE3, g1 40 (by decide) (by decide)]; exact k2.2.1) (by rw [e39]; exact c39) ⟨a0, a1⟩ (wt := fun j => mvf S j && !(decide (S 32 j = S2 39 j))) (ph := fun j => if (mvf S j && decide (S 32 j = S2 39 j)) = true then 0 else -1) (fun j => ?_) (fun j hj => ?_) (fun j hj => ?_) (fun Z hZ S4 h4 P4 n1 n2 n3 n4 n5 n6 n7 => ?_)
    · rw [g4 j, mvb j]
      by_cases y : j < 8 ∧ S 32 j = S2 39 j
      · rw [if_pos y, decide_eq_true y.2]; simp
      · rw [if_neg y]
        by_cases y2 : j < 8
        · rw [decide_eq_false (fun z => y ⟨y2, z⟩)]; simp
        · have : mvf S j = false := Bool.eq_false_iff.mpr (fun z => by have := (mvn j z).1; omega)
          rw [this]; rfl
    · rw [g5 j hj, mvb j]
      refine ite_iff ?_
      rw [Bool.and_eq_true, decide_eq_true_eq]
    · have hj : (mvf S j && !(decide (S 32 j = S2 39 j))) = true := hj
      rw [Bool.and_eq_true] at hj
      obtain ⟨m1, m2⟩ := mvn j hj.1
      rw [eE3, e39]
      exact ⟨m1, m2, ((fp.2 j (Nat.zero_le _) (by omega) hj.1).1).1⟩
    · rw [eE3, e39, e332, g3] at hZ
      have hZ' : Z = mres (EC S) (mvf S) (S2 39) (S 32) cr := hZ
      rw [← hZ'] at q1
      refine q1 S4 h4 P4 ?_ (fun k a b c d => by rw [n2 k (fun z => z.elim a (fun z => z.elim c d)), f3 k b c d]) (by rw [n2 39 (fun z => by unfold km kr at z; omega), e39]; exact c39) (by rw [n3, g2]) n4 n5 n6 n7
      exact (RC.of (S1 := S) (fun k hk => f3 k (fun z => by unfold kp5 at z; unfold kg at hk; omega) (fun z => by unfold kg at hk; omega) (fun z => by unfold kg at hk; omega)) (RC.rf R)).tr n1
  · refine ⟨fun z => absurd rfl z, fun _ => ?_⟩
    refine q2 (fun z => k3 (okp_m (fun i _ => (mvb i).symm) z.2)) S2 h2 P2 (fun k hk => by rw [k1 k (fun z => hk (Or.inl z)) (fun z => hk (Or.inr (Or.inl z))), f1 k hk]) k2.2.2.2.2.2
end CMS
