/-! numbers: an int by the whole number that it is -/
def ii (z : Int) : Int32 := Int32.ofInt z
def rg (z : Int) : Prop := -2147483648 ≤ z ∧ z ≤ 2147483647
theorem ii_add (a b : Int) : ii a + ii b = ii (a + b) := (Int32.ofInt_add a b).symm
theorem ii_sub (a b : Int) : ii a - ii b = ii (a - b) := (Int32.ofInt_sub a b).symm
theorem ii_mul (a b : Int) : ii a * ii b = ii (a * b) := (Int32.ofInt_mul a b).symm
theorem ii_neg (a : Int) : -ii a = ii (-a) := (Int32.ofInt_neg a).symm
theorem ii_toInt {a : Int} (h : rg a) : (ii a).toInt = a := Int32.toInt_ofInt_of_le (by have := h.1; omega) (by have := h.2; omega)
theorem ii_of (x : Int32) : ii x.toInt = x := Int32.ofInt_toInt x
theorem ii_rg (x : Int32) : rg x.toInt := ⟨by have := Int32.le_toInt x; omega, by have := Int32.toInt_lt x; omega⟩
theorem ii_ex (x : Int32) : ∃ z : Int, x = ii z ∧ rg z := ⟨x.toInt, (ii_of x).symm, ii_rg x⟩
theorem ii_le {a b : Int} (h1 : rg a) (h2 : rg b) : ii a ≤ ii b ↔ a ≤ b := by rw [Int32.le_iff_toInt_le, ii_toInt h1, ii_toInt h2]
theorem ii_lt {a b : Int} (h1 : rg a) (h2 : rg b) : ii a < ii b ↔ a < b := by rw [Int32.lt_iff_toInt_lt, ii_toInt h1, ii_toInt h2]
theorem ii_eq {a b : Int} (h1 : rg a) (h2 : rg b) : ii a = ii b ↔ a = b := by
  constructor
  · intro h
    have := congrArg Int32.toInt h
    rwa [ii_toInt h1, ii_toInt h2] at this
  · intro h; rw [h]
theorem ii_nat {a : Int} (h0 : 0 ≤ a) (h1 : a ≤ 2147483647) : (ii a).toNatClampNeg = a.toNat := Int32.toNatClampNeg_ofInt_of_le (by omega) (by omega)
theorem ii_natN {n : Nat} (h1 : n < 2147483648) : (ii (n : Int)).toNatClampNeg = n := by rw [ii_nat (by omega) (by omega)]; rfl
theorem ii_ofNat (n : Nat) : Int32.ofNat n = ii (n : Int) := Int32.ofInt_eq_ofNat.symm
theorem il_0 : (0 : Int32) = ii 0 := by decide
theorem il_1 : (1 : Int32) = ii 1 := by decide
theorem il_2 : (2 : Int32) = ii 2 := by decide
theorem il_3 : (3 : Int32) = ii 3 := by decide
theorem il_4 : (4 : Int32) = ii 4 := by decide
theorem il_5 : (5 : Int32) = ii 5 := by decide
theorem il_7 : (7 : Int32) = ii 7 := by decide
theorem il_8 : (8 : Int32) = ii 8 := by decide
theorem il_10 : (10 : Int32) = ii 10 := by decide
theorem il_12 : (12 : Int32) = ii 12 := by decide
theorem il_15 : (15 : Int32) = ii 15 := by decide
theorem il_16 : (16 : Int32) = ii 16 := by decide
theorem il_19 : (19 : Int32) = ii 19 := by decide
theorem il_20 : (20 : Int32) = ii 20 := by decide
theorem il_30 : (30 : Int32) = ii 30 := by decide
theorem il_60 : (60 : Int32) = ii 60 := by decide
theorem il_63 : (63 : Int32) = ii 63 := by decide
theorem il_64 : (64 : Int32) = ii 64 := by decide
theorem il_99 : (99 : Int32) = ii 99 := by decide
theorem il_100 : (100 : Int32) = ii 100 := by decide
theorem il_200 : (200 : Int32) = ii 200 := by decide
theorem il_256 : (256 : Int32) = ii 256 := by decide
theorem il_300 : (300 : Int32) = ii 300 := by decide
theorem il_400 : (400 : Int32) = ii 400 := by decide
theorem il_500 : (500 : Int32) = ii 500 := by decide
theorem il_999 : (999 : Int32) = ii 999 := by decide
theorem il_9999 : (9999 : Int32) = ii 9999 := by decide
theorem il_m1 : (-1 : Int32) = ii (-1) := by decide
theorem il_m6 : (-1000000 : Int32) = ii (-1000000) := by decide
theorem vp_ii {a : Int} {n : Nat} (h0 : 0 ≤ a) (h1 : a < n) (h2 : a ≤ 2147483647) : vp_in (ii a) n := by
  unfold vp_in
  rw [ii_nat h0 h2, il_0, ii_lt ⟨by omega, h2⟩ ⟨by omega, by omega⟩]
  omega
theorem ii_jabs {a : Int} (h : -2147483648 < a ∧ a ≤ 2147483647) : jabs (ii a) = ii (if 0 ≤ a then a else -a) := by
  unfold jabs
  rw [il_0, ii_sub]
  by_cases q : 0 ≤ a
  · rw [if_pos q, if_pos ((ii_le ⟨by omega, by omega⟩ ⟨by omega, by omega⟩).mpr q)]
  · rw [if_neg q, if_neg (fun z => q ((ii_le ⟨by omega, by omega⟩ ⟨by omega, by omega⟩).mp z))]
    exact congrArg ii (by omega)
theorem ii_jmax {a b : Int} (h1 : rg a) (h2 : rg b) : jmax (ii a) (ii b) = ii (if a < b then b else a) := by
  unfold jmax
  by_cases q : a < b
  · rw [if_pos q, if_pos ((ii_lt h1 h2).mpr q)]
  · rw [if_neg q, if_neg (fun z => q ((ii_lt h1 h2).mp z))]
theorem ii_jmin {a b : Int} (h1 : rg a) (h2 : rg b) : jmin (ii a) (ii b) = ii (if b < a then b else a) := by
  unfold jmin
  by_cases q : b < a
  · rw [if_pos q, if_pos ((ii_lt h2 h1).mpr q)]
  · rw [if_neg q, if_neg (fun z => q ((ii_lt h2 h1).mp z))]
theorem ii_div {a b : Int} (h1 : rg a) (h2 : rg b) (h3 : 0 < b) : ii a / ii b = ii (a.tdiv b) := by
  have h4 : ii b ≠ -1 := by rw [il_m1]; intro q; rw [ii_eq h2 ⟨by decide, by decide⟩] at q; omega
  have h5 := Int32.toInt_div_of_ne_right (ii a) (ii b) h4
  rw [ii_toInt h1, ii_toInt h2] at h5
  rw [← ii_of (ii a / ii b), h5]
/-! bits -/
def bt (x : Int32) (i : Nat) : Bool := x.toBitVec.getLsbD i
theorem b_ext {x y : Int32} (h : ∀ i, i < 32 → bt x i = bt y i) : x = y := Int32.toBitVec_inj.mp (BitVec.eq_of_getLsbD_eq (fun i hi => h i hi))
theorem b_or (x y : Int32) (i : Nat) : bt (x ||| y) i = (bt x i || bt y i) := by unfold bt; rw [Int32.toBitVec_or, BitVec.getLsbD_or]
theorem b_and (x y : Int32) (i : Nat) : bt (x &&& y) i = (bt x i && bt y i) := by unfold bt; rw [Int32.toBitVec_and, BitVec.getLsbD_and]
theorem b_xor (x y : Int32) (i : Nat) : bt (x ^^^ y) i = (bt x i ^^ bt y i) := by unfold bt; rw [Int32.toBitVec_xor, BitVec.getLsbD_xor]
theorem b_big {x : Int32} {i : Nat} (h : 32 ≤ i) : bt x i = false := BitVec.getLsbD_of_ge _ _ h
theorem b_m1 : ∀ i, i < 32 → bt (-1) i = true := by decide +kernel
theorem b_0 (i : Nat) : bt 0 i = false := BitVec.getLsbD_zero
theorem b_one : ∀ n : Nat, n < 32 → ∀ i : Nat, i < 32 → bt ((1 : Int32) <<< (ii (n : Int) &&& 31)) i = decide (n = i) := by decide +kernel
theorem b_bit {n : Nat} (hn : n < 32) (i : Nat) : bt ((1 : Int32) <<< (ii (n : Int) &&& 31)) i = decide (n = i) := by
  rcases Nat.lt_or_ge i 32 with h | h
  · exact b_one n hn i h
  · rw [b_big h, decide_eq_false (by omega)]
theorem s_l : ∀ n : Nat, n < 32 → ((ii (n : Int) &&& 31).toBitVec.smod 32).toNat = n := by decide +kernel
theorem b_sshr (n : Nat) (hn : n < 32) (x : Int32) {i : Nat} (hi : i < 32) : bt (x >>> (ii (n : Int) &&& 31)) i = if n + i < 32 then bt x (n + i) else bt x 31 := by
  unfold bt
  rw [Int32.toBitVec_shiftRight]
  show (x.toBitVec.sshiftRight ((ii (n : Int) &&& 31).toBitVec.smod 32).toNat).getLsbD i = _
  rw [s_l n hn, BitVec.getLsbD_sshiftRight, BitVec.msb_eq_getLsbD_last]
  simp [hi]
theorem b_1 : ∀ i, i < 32 → bt 1 i = decide (i = 0) := by decide +kernel
/-- the bit by shift and mask, as the class asks for it -/
theorem b_is {n : Nat} (hn : n < 32) (x : Int32) : ((x >>> (ii (n : Int) &&& 31)) &&& 1) = 1 ↔ bt x n = true := by
  constructor
  · intro h
    have := congrArg (fun z => bt z 0) h
    simp only [b_and, b_sshr n hn x (i := 0) (by omega), b_1 0 (by omega)] at this
    simpa [hn] using this
  · intro h
    apply b_ext
    intro i hi
    rw [b_and, b_sshr n hn x hi, b_1 i hi]
    by_cases h0 : i = 0
    · subst h0
      simp [hn, h]
    · simp [h0]
theorem b_ne0 {x : Int32} : x ≠ 0 ↔ ∃ i, i < 32 ∧ bt x i = true := by
  constructor
  · intro h
    apply Classical.byContradiction
    intro hn
    apply h
    apply b_ext
    intro i hi
    rw [b_0]
    cases hb : bt x i with
    | false => rfl
    | true => exact absurd ⟨i, hi, hb⟩ hn
  · rintro ⟨i, hi, hb⟩ rfl
    rw [b_0] at hb
    cases hb
/-- the set of the first eight -/
theorem b_lt256 {x : Int32} (h : ∀ i, 8 ≤ i → bt x i = false) : x = ii (x.toBitVec.toNat : Int) ∧ x.toBitVec.toNat < 256 := by
  have h1 : x.toBitVec.toNat < 2 ^ 8 := by
    apply Nat.lt_pow_two_of_testBit
    intro i hi
    exact h i hi
  refine ⟨?_, h1⟩
  apply b_ext
  intro i hi
  show x.toBitVec.getLsbD i = (BitVec.ofInt 32 (x.toBitVec.toNat : Int)).getLsbD i
  rw [BitVec.ofInt_natCast, BitVec.ofNat_toNat, BitVec.setWidth_eq]
/-! loops -/
theorem lp_up {J : Nat → Prop} {n : Nat} (last : J n) (step : ∀ i, i < n → J (i + 1) → J i) {i : Nat} (h : i ≤ n) : J i := by
  obtain ⟨d, rfl⟩ : ∃ d, n = i + d := ⟨n - i, by omega⟩
  clear h
  induction d generalizing i with
  | zero => exact last
  | succ d ih =>
    refine step i (by omega) ?_
    refine ih (i := i + 1) (by rw [show i + 1 + d = i + (d + 1) by omega]; exact last) (fun j hj => step j (by omega))
theorem lp_dn {J : Nat → Prop} (last : J 0) (step : ∀ i, J i → J (i + 1)) (i : Nat) : J i := by
  induction i with
  | zero => exact last
  | succ i ih => exact step i ih
theorem ii_inc (n : Nat) : ii (n : Int) + ii 1 = ii ((n + 1 : Nat) : Int) := by rw [ii_add]; rfl
theorem ii_inc' (n : Nat) : ii (n : Int) + 1 = ii ((n + 1 : Nat) : Int) := ii_inc n
/-- the two ways of a branch -/
theorem br {c : Prop} {X Y : Prop} (h1 : c → X) (h2 : ¬ c → Y) : (c → X) ∧ (¬ c → Y) := ⟨h1, h2⟩
theorem br' {c : Prop} {X Y : Prop} (h1 : c → X) (h2 : ¬ c → Y) : (¬ c → Y) ∧ (c → X) := ⟨h2, h1⟩
