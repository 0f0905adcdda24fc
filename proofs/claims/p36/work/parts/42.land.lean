/-! the land, by its numbers: 0 columns, 1 rows, 2 heights, 3 grounds (20 * row + column), 4 who sends, 5 who receives, 6 power, 7 protected; 8: ratio, stations, sites -/
def ab (x : Int) : Int := if 0 ≤ x then x else -x
def mx (a b : Int) : Int := if a < b then b else a
def mn (a b : Int) : Int := if b < a then b else a
theorem ii_ab {a : Int} (h : -2147483648 < a ∧ a ≤ 2147483647) : jabs (ii a) = ii (ab a) := ii_jabs h
theorem ii_mx {a b : Int} (h1 : rg a) (h2 : rg b) : jmax (ii a) (ii b) = ii (mx a b) := ii_jmax h1 h2
theorem ii_mn {a b : Int} (h1 : rg a) (h2 : rg b) : jmin (ii a) (ii b) = ii (mn a b) := ii_jmin h1 h2
def rt : Nat → Nat
  | 0 => 0
  | n + 1 => if (rt n + 1) * (rt n + 1) ≤ n + 1 then rt n + 1 else rt n
theorem rt_is (n : Nat) : rt n * rt n ≤ n ∧ n < (rt n + 1) * (rt n + 1) := by
  induction n with
  | zero => exact ⟨Nat.le_refl _, by decide⟩
  | succ n ih =>
    obtain ⟨h1, h2⟩ := ih
    unfold rt
    by_cases q : (rt n + 1) * (rt n + 1) ≤ n + 1
    · rw [if_pos q]
      refine ⟨q, ?_⟩
      have e : (rt n + 1 + 1) * (rt n + 1 + 1) = (rt n + 1) * (rt n + 1) + 2 * (rt n + 1) + 1 := by rw [Nat.add_mul, Nat.mul_add]; omega
      omega
    · rw [if_neg q]; exact ⟨by omega, by omega⟩
theorem rt_un {n r : Nat} (h1 : r * r ≤ n) (h2 : n < (r + 1) * (r + 1)) : r = rt n := by
  obtain ⟨g1, g2⟩ := rt_is n
  have f : ∀ a b : Nat, a * a ≤ n → n < (b + 1) * (b + 1) → a ≤ b := by
    intro a b ha hb
    apply Nat.le_of_not_lt
    intro hab
    have := Nat.mul_le_mul (show b + 1 ≤ a from hab) (show b + 1 ≤ a from hab)
    omega
  exact Nat.le_antisymm (f _ _ h1 g2) (f _ _ g1 h2)
theorem rt_le {n m : Nat} (h : n < (m + 1) * (m + 1)) : rt n ≤ m := by
  apply Nat.le_of_not_lt
  intro hab
  have := Nat.mul_le_mul (show m + 1 ≤ rt n from hab) (show m + 1 ≤ rt n from hab)
  have := (rt_is n).1
  omega
def gix (E : Nat → Nat → Int) (c r : Int) : Int := E 3 (20 * r + c).toNat
def topE (E : Nat → Nat → Int) (a : Nat) : Int := E 2 a + gix E (E 0 a) (E 1 a)
def stp (E : Nat → Nat → Int) (a b : Nat) : Int := mx (ab (E 0 b - E 0 a)) (ab (E 1 b - E 1 a))
/-- whether the k-th point between is in the way -/
def inw (E : Nat → Nat → Int) (a b : Nat) (k : Int) : Bool := decide ((topE E a * (stp E a b - k) + topE E b * k) / stp E a b < gix E (E 0 a + k * (E 0 b - E 0 a) / stp E a b) (E 1 a + k * (E 1 b - E 1 a) / stp E a b))
def blk (E : Nat → Nat → Int) (a b : Nat) : Nat → Int
  | 0 => 0
  | k + 1 => blk E a b k + (if inw E a b ((k : Int) + 1) = true then 1 else 0)
def sqE (E : Nat → Nat → Int) (a b : Nat) : Int := 100 * ((E 0 b - E 0 a) * (E 0 b - E 0 a) + (E 1 b - E 1 a) * (E 1 b - E 1 a))
def lossO (E : Nat → Nat → Int) (a b : Nat) : Int := 200 + 8 * (rt (sqE E a b).toNat : Nat) + 60 * blk E a b ((stp E a b).toNat - 1)
def lossE (E : Nat → Nat → Int) (a b : Nat) : Int := if a = b then 0 else if a < b then lossO E a b else lossO E b a
/-- the numbers are those of a land -/
def EOK (E : Nat → Nat → Int) : Prop := (∀ i, 0 ≤ E 0 i ∧ E 0 i ≤ 19) ∧ (∀ i, 0 ≤ E 1 i ∧ E 1 i ≤ 19) ∧ (∀ i, 0 ≤ E 2 i ∧ E 2 i ≤ 99) ∧ (∀ i, 0 ≤ E 3 i ∧ E 3 i ≤ 99) ∧ (∀ i, 0 ≤ E 4 i ∧ E 4 i < 10 ∧ ((i : Int) < E 8 1 → E 4 i < E 8 2)) ∧ (∀ i, 0 ≤ E 5 i ∧ E 5 i < 10 ∧ ((i : Int) < E 8 1 → E 5 i < E 8 2)) ∧ (∀ i, 0 ≤ E 6 i ∧ E 6 i ≤ 500) ∧ (∀ i, E 7 i = 0 ∨ E 7 i = 1) ∧ (0 ≤ E 8 0 ∧ E 8 0 ≤ 500) ∧ (0 ≤ E 8 1 ∧ E 8 1 ≤ 8) ∧ (0 ≤ E 8 2 ∧ E 8 2 ≤ 10)
theorem mul_le19 {a : Int} (h1 : -19 ≤ a) (h2 : a ≤ 19) : 0 ≤ a * a ∧ a * a ≤ 361 := by
  have e : a = -19 ∨ a = -18 ∨ a = -17 ∨ a = -16 ∨ a = -15 ∨ a = -14 ∨ a = -13 ∨ a = -12 ∨ a = -11 ∨ a = -10 ∨ a = -9 ∨ a = -8 ∨ a = -7 ∨ a = -6 ∨ a = -5 ∨ a = -4 ∨ a = -3 ∨ a = -2 ∨ a = -1 ∨ a = 0 ∨ a = 1 ∨ a = 2 ∨ a = 3 ∨ a = 4 ∨ a = 5 ∨ a = 6 ∨ a = 7 ∨ a = 8 ∨ a = 9 ∨ a = 10 ∨ a = 11 ∨ a = 12 ∨ a = 13 ∨ a = 14 ∨ a = 15 ∨ a = 16 ∨ a = 17 ∨ a = 18 ∨ a = 19 := by omega
  rcases e with rfl | rfl | rfl | rfl | rfl | rfl | rfl | rfl | rfl | rfl | rfl | rfl | rfl | rfl | rfl | rfl | rfl | rfl | rfl | rfl | rfl | rfl | rfl | rfl | rfl | rfl | rfl | rfl | rfl | rfl | rfl | rfl | rfl | rfl | rfl | rfl | rfl | rfl | rfl <;> decide
section LD
variable {E : Nat → Nat → Int}
theorem sq_le (hE : EOK E) (a b : Nat) : 0 ≤ sqE E a b ∧ sqE E a b ≤ 72200 := by
  unfold sqE
  have h1 := mul_le19 (a := E 0 b - E 0 a) (by have := hE.1 a; have := hE.1 b; omega) (by have := hE.1 a; have := hE.1 b; omega)
  have h2 := mul_le19 (a := E 1 b - E 1 a) (by have := hE.2.1 a; have := hE.2.1 b; omega) (by have := hE.2.1 a; have := hE.2.1 b; omega)
  omega
theorem stp_le (hE : EOK E) (a b : Nat) : 0 ≤ stp E a b ∧ stp E a b ≤ 19 ∧ ab (E 0 b - E 0 a) ≤ stp E a b ∧ ab (E 1 b - E 1 a) ≤ stp E a b := by
  have h1 := hE.1 a; have h2 := hE.1 b; have h3 := hE.2.1 a; have h4 := hE.2.1 b
  unfold stp mx ab
  omega
theorem blk_le (a b n : Nat) : 0 ≤ blk E a b n ∧ blk E a b n ≤ n := by
  induction n with
  | zero => exact ⟨Int.le_refl 0, Int.le_refl 0⟩
  | succ n ih =>
    unfold blk
    split <;> omega
theorem lossO_le (hE : EOK E) (a b : Nat) : 200 ≤ lossO E a b ∧ lossO E a b ≤ 3500 := by
  unfold lossO
  have h1 := sq_le hE a b
  have h2 := rt_le (n := (sqE E a b).toNat) (m := 268) (by omega)
  have h3 := blk_le (E := E) a b ((stp E a b).toNat - 1)
  have h4 := stp_le hE a b
  omega
theorem lossE_le (hE : EOK E) (a b : Nat) : 0 ≤ lossE E a b ∧ lossE E a b ≤ 3500 := by
  unfold lossE
  have h1 := lossO_le hE a b
  have h2 := lossO_le hE b a
  split
  · omega
  · split <;> omega
theorem lossE_sym (a b : Nat) : lossE E a b = lossE E b a := by
  unfold lossE
  by_cases q : a = b
  · subst q; rfl
  · rw [if_neg q, if_neg (Ne.symm q)]
    by_cases q2 : a < b
    · rw [if_pos q2, if_neg (by omega)]
    · rw [if_neg q2, if_pos (by omega)]
/-- a point between lies on the land -/
theorem mid_le {d n k : Int} (hn : 0 < n) (hk0 : 0 ≤ k) (hk : k ≤ n) (hd : ab d ≤ n) : (0 ≤ d → 0 ≤ k * d / n ∧ k * d / n ≤ d) ∧ (d < 0 → d ≤ k * d / n ∧ k * d / n ≤ 0) := by
  refine ⟨fun h => ⟨?_, ?_⟩, fun h => ⟨?_, ?_⟩⟩
  · exact Int.ediv_nonneg (Int.mul_nonneg hk0 h) (by omega)
  · apply Int.ediv_le_of_le_mul hn
    rw [Int.mul_comm d n]
    exact Int.mul_le_mul_of_nonneg_right hk h
  · apply Int.le_ediv_of_mul_le hn
    rw [Int.mul_comm d n]
    exact Int.mul_le_mul_of_nonpos_right hk (by omega)
  · apply Int.ediv_le_of_le_mul hn
    rw [Int.zero_mul]
    exact Int.mul_nonpos_of_nonneg_of_nonpos hk0 (by omega)
end LD
theorem x_sgn {x : Int32} : 0 ≤ x ↔ bt x 31 = false := by
  rw [Int32.le_iff_toInt_le]
  show (0 : Int32).toInt ≤ x.toBitVec.toInt ↔ x.toBitVec.getLsbD 31 = false
  rw [show (0 : Int32).toInt = 0 from rfl]
  have h := BitVec.msb_eq_toInt (x := x.toBitVec)
  have h2 := BitVec.msb_eq_getLsbD_last x.toBitVec
  rw [show (32 - 1 : Nat) = 31 from rfl] at h2
  rw [← h2, h]
  simp
theorem fd_of {G : Gx} {h : hw} {a b : Int} {post : Int32 → Prop} (ha : rg a) (hb : rg b) (hb0 : 0 < b) (ha1 : -1000000 ≤ a ∧ a ≤ 1000000) (q : post (ii (a / b))) : wp_J9_floorDiv_7cf53 G (ii a) (ii b) h post := by
  have hx : 0 ≤ (ii a ^^^ ii b) ↔ 0 ≤ a := by
    rw [x_sgn, b_xor]
    have h1 : bt (ii b) 31 = false := x_sgn.mp (by rw [il_0, ii_le ⟨by decide, by decide⟩ hb]; omega)
    rw [h1, Bool.xor_false, ← x_sgn, il_0, ii_le ⟨by decide, by decide⟩ ha]
  refine ⟨?_, ?_⟩
  · rw [il_0, ii_eq hb ⟨by decide, by decide⟩]; omega
  · rw [hx, ii_div ha hb hb0]
    have e := Int.tdiv_eq_ediv (a := a) (b := b)
    rw [Int.sign_eq_one_of_pos hb0] at e
    have hm := Int.mul_ediv_self_le (x := a) (k := b) (by omega)
    refine ⟨fun c => ?_, fun c => ?_⟩
    · rw [if_pos (Or.inl c)] at e
      rw [e, Int.add_zero]; exact q
    · have hr1 : a / b ≤ 0 := Int.ediv_le_of_le_mul hb0 (by omega)
      have hr2 : a ≤ a / b := by
        apply Int.le_ediv_of_mul_le hb0
        have := Int.mul_le_mul_of_nonpos_left (a := a) (b := b) (c := 1) (by omega) (by omega)
        omega
      rw [ii_mul]
      by_cases d : b ∣ a
      · rw [if_pos (Or.inr d)] at e
        have e2 : a.tdiv b * b = a := by rw [e, Int.add_zero]; exact Int.ediv_mul_cancel d
        rw [e2]
        refine ⟨fun _ => ?_, fun c2 => absurd rfl c2⟩
        rw [e, Int.add_zero]; exact q
      · rw [if_neg (fun z => z.elim c d)] at e
        have hlt : b * (a / b) < a := by
          rcases Int.lt_or_eq_of_le hm with z | z
          · exact z
          · exact absurd ⟨a / b, z.symm⟩ d
        have hup : a < b * (a / b) + b := by have := Int.lt_mul_ediv_self_add (x := a) (k := b) hb0; omega
        have e2 : a.tdiv b * b = b * (a / b) + b := by rw [e, Int.add_mul, Int.mul_comm (a / b) b]; omega
        rw [e2]
        refine ⟨fun c2 => ?_, fun _ => ?_⟩
        · exfalso
          have hrg : rg (b * (a / b) + b) := ⟨by have := hb.2; omega, by have := hb.2; omega⟩
          rw [ii_eq hrg ha] at c2
          omega
        · rw [il_1, ii_sub, e]
          rw [show a / b + 1 - 1 = a / b by omega]
          exact q
