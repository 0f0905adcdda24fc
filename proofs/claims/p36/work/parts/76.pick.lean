/-! the script's picks: what the law draws out of it -/
def celv (t3 p1 : Int32) : Int32 := (((((69069 * (t3 + (1009 * p1))) + 12345) ^^^ ((((69069 * (t3 + (1009 * p1))) + 12345)).toUInt32 >>> ((13 : Int32).toUInt32 &&& Int32.toUInt32 31)).toInt32) * 1103515245) ^^^ ((((((69069 * (t3 + (1009 * p1))) + 12345) ^^^ ((((69069 * (t3 + (1009 * p1))) + 12345)).toUInt32 >>> ((13 : Int32).toUInt32 &&& Int32.toUInt32 31)).toInt32) * 1103515245)).toUInt32 >>> ((16 : Int32).toUInt32 &&& Int32.toUInt32 31)).toInt32)
def cel (G : Gx) (i : Nat) : Int32 := celv (if i < GsL G then Gsx G i else 0) (ii (i : Int))
def sh8 (r : Int32) : Int32 := ((r).toUInt32 >>> ((8 : Int32).toUInt32 &&& Int32.toUInt32 31)).toInt32
/-- a pick below m out of cell i -/
noncomputable def pk (G : Gx) (i m : Nat) : Int := Classical.epsilon (fun z : Int => z = (sh8 (cel G i)).toInt % (m : Int))
theorem pkk_eq (G : Gx) (i m : Nat) : pk G i m = (sh8 (cel G i)).toInt % (m : Int) := Classical.epsilon_spec (p := fun z : Int => z = (sh8 (cel G i)).toInt % (m : Int)) ⟨_, rfl⟩
theorem sh8_in (r : Int32) : 0 ≤ (sh8 r).toInt := by
  have e : (sh8 r).toBitVec = r.toBitVec >>> 8 := rfl
  have h2 : (sh8 r).toInt = ((sh8 r).toBitVec).toInt := rfl
  rw [h2, e, BitVec.toInt_eq_toNat_of_lt]
  · exact Int.natCast_nonneg _
  · rw [BitVec.toNat_ushiftRight, Nat.shiftRight_eq_div_pow]
    have := r.toBitVec.isLt
    omega
theorem pkk_in (G : Gx) (i : Nat) {m : Nat} (hm : 0 < m) : 0 ≤ pk G i m ∧ pk G i m < m := by
  rw [pkk_eq]
  exact ⟨Int.emod_nonneg _ (by omega), Int.emod_lt_of_pos _ (by omega)⟩
/-- what is left over -/
theorem mod_of {a : Int} {m : Nat} (h0 : 0 ≤ a) (hr : rg a) (hm : 0 < m ∧ m ≤ 100000) {y : Int32} (hy : y = ii (m : Int)) : ii a - ii a / y * y = ii (a % (m : Int)) := by
  subst hy
  rw [ii_div hr ⟨by omega, by omega⟩ (by omega), ii_mul, ii_sub]
  refine congrArg ii ?_
  rw [Int.tdiv_eq_ediv_of_nonneg h0]
  have := Int.emod_add_mul_ediv a (m : Int)
  rw [Int.mul_comm]
  omega
section PKS
variable {G : Gx} {h : hw}
theorem cell_of (hL : GsL G ≤ 260) {i : Nat} (hi : i ≤ 100000) {x : Int32} (hx : x = ii (i : Int)) {post : Int32 → Prop} (q : post (cel G i)) : wp_L_cell G (Gsb G) x h post := by
  subst hx
  refine ⟨rfl, ?_⟩
  intro J hJ
  rw [ii_ofNat, ii_le ⟨by omega, by omega⟩ ⟨by omega, by omega⟩]
  refine ⟨fun z => hJ _ _ ?_, fun z => ⟨rfl, vp_ii (by omega) (by omega) (by omega), hJ _ _ ?_⟩⟩
  · unfold cel at q
    rw [if_neg (by omega)] at q
    exact q
  · unfold cel at q
    rw [if_pos (by omega)] at q
    rw [ii_natN (by omega)]
    exact q
theorem pick_of (hL : GsL G ≤ 260) {i m : Nat} (hi : i ≤ 100000) (hm : 0 < m ∧ m ≤ 100000) {x y : Int32} (hx : x = ii (i : Int)) (hy : y = ii (m : Int)) {post : Int32 → Prop} (q : 0 ≤ pk G i m → pk G i m < m → post (ii (pk G i m))) : wp_L_pick G (Gsb G) x y h post := by
  refine cell_of hL hi hx ?_
  subst hy
  refine ⟨fun z => ?_, ?_⟩
  · rw [il_0, ii_eq ⟨by omega, by omega⟩ ⟨by omega, by omega⟩] at z
    omega
  · have h0 := sh8_in (cel G i)
    have hr := ii_rg (sh8 (cel G i))
    have hp := pkk_in G i hm.1
    show post (sh8 (cel G i) - sh8 (cel G i) / ii (m : Int) * ii (m : Int))
    have e : sh8 (cel G i) - sh8 (cel G i) / ii (m : Int) * ii (m : Int) = ii (pk G i m) := by
      rw [← ii_of (sh8 (cel G i)), ii_div hr ⟨by omega, by omega⟩ (by omega), ii_mul, ii_sub]
      refine congrArg ii ?_
      rw [pkk_eq]
      rw [Int.tdiv_eq_ediv_of_nonneg h0]
      have := Int.emod_add_mul_ediv (sh8 (cel G i)).toInt (m : Int)
      rw [Int.mul_comm]
      omega
    rw [e]
    exact q hp.1 hp.2
theorem told_of {b : Bool} {x : Int32} (hx : x = ii (bI b)) {post : Int32 → Prop} (q : post (ii (bI b))) : wp_L_told G x h post := by
  subst hx
  cases b with
  | true => exact ⟨fun z => absurd z (by decide), fun _ => q⟩
  | false => exact ⟨fun _ => q, fun z => absurd rfl z⟩
/-- which stations the law makes protected -/
noncomputable def prt (G : Gx) (j : Nat) : Bool := decide (0 < pk G (160 + j) 4)
theorem isProt_of (hL : GsL G ≤ 260) {j : Nat} (hj : j ≤ 1000) {x : Int32} (hx : x = ii (j : Int)) {post : Int32 → Prop} (q : post (ii (bI (prt G j)))) : wp_L_isProtected G (Gsb G) x h post := by
  subst hx
  refine pick_of (i := 160 + j) (m := 4) hL (by omega) ⟨by decide, by decide⟩ (by rw [show (160 : Int32) = ii 160 by decide, ii_add]; exact congrArg ii (by omega)) il_4 (fun p0 p1 => ?_)
  rw [il_0, ii_le ⟨by omega, by omega⟩ ⟨by omega, by omega⟩]
  unfold prt at q
  refine ⟨fun z => ?_, fun z => ?_⟩
  · rw [decide_eq_false (by omega)] at q; exact q
  · rw [decide_eq_true (by omega)] at q; exact q
end PKS
