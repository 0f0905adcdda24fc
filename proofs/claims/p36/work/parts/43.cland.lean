/-! the class's land: the land out of its cells, and its losses kept ready -/
def EC (S : Nat → Nat → Int) (k i : Nat) : Int :=
  if k = 0 then (if i < 10 then S (60 + i) 0 else 0)
  else if k = 1 then (if i < 10 then S (60 + i) 1 else 0)
  else if k = 2 then (if i < 10 then S (60 + i) 2 else 0)
  else if k = 3 then (if i < 400 then S 30 (20 * (i % 20) + i / 20) else 0)
  else if k = 4 then (if i < 8 then S (70 + i) 1 else 0)
  else if k = 5 then (if i < 8 then S (70 + i) 2 else 0)
  else if k = 6 then (if i < 8 then S (70 + i) 3 else 0)
  else if k = 7 then (if i < 8 then S (70 + i) 4 else 0)
  else if i = 0 then S 1 2 else if i = 1 then S 51 2 else if i = 2 then S 50 2 else 0
/-- the keys of the land -/
def kl (k : Nat) : Prop := k = 1 ∨ k = 30 ∨ (50 ≤ k ∧ k < 80)
theorem EC_of {S S' : Nat → Nat → Int} (h : ∀ k, kl k → S' k = S k) : EC S' = EC S := by
  funext k i
  unfold EC
  rw [h 1 (Or.inl rfl), h 30 (Or.inr (Or.inl rfl)), h 50 (Or.inr (Or.inr ⟨by omega, by omega⟩)), h 51 (Or.inr (Or.inr ⟨by omega, by omega⟩))]
  by_cases q : i < 10
  · rw [h (60 + i) (Or.inr (Or.inr ⟨by omega, by omega⟩)), h (70 + i) (Or.inr (Or.inr ⟨by omega, by omega⟩))]
  · simp only [q, if_false, show ¬ i < 8 by omega]
theorem kl_su {S : Nat → Nat → Int} {k i : Nat} {v : Int} (h : ¬ kl k) : ∀ j, kl j → su S k i v j = S j := fun _ hj => su_row i v (fun z => h (z ▸ hj))
theorem kl_sf {S : Nat → Nat → Int} {k n : Nat} {f : Nat → Int} (h : ¬ kl k) : ∀ j, kl j → sf S k n f j = S j := fun _ hj => sf_ne (fun z => h (z ▸ hj))
theorem nkl {k : Nat} (h : k ≠ 1 ∧ k ≠ 30 ∧ ¬ (50 ≤ k ∧ k < 80)) : ¬ kl k := fun z => z.elim h.1 (fun z => z.elim h.2.1 h.2.2)
/-- what the class's land keeps: but for the losses -/
def KL (S : Nat → Nat → Int) : Prop := LOK S ∧ EOK (EC S) ∧ ∀ j : Nat, (j : Int) < S 51 2 → S (70 + j) 0 = j
def KI (S : Nat → Nat → Int) : Prop := KL S ∧ ∀ a b : Nat, (a : Int) < S 50 2 → (b : Int) < S 50 2 → S 31 (a * 10 + b) = lossE (EC S) a b
theorem KL.of {S S' : Nat → Nat → Int} (h : ∀ k, kl k → S' k = S k) (q : KL S) : KL S' := by
  obtain ⟨h1, h2, h3⟩ := q
  have e50 := h 50 (Or.inr (Or.inr ⟨by omega, by omega⟩))
  have e51 := h 51 (Or.inr (Or.inr ⟨by omega, by omega⟩))
  refine ⟨?_, by rw [EC_of h]; exact h2, fun j hj => ?_⟩
  · unfold LOK; rw [e50, e51]; exact h1
  · rw [e51] at hj
    have := h1.2.2.1
    rw [h (70 + j) (Or.inr (Or.inr ⟨by omega, by omega⟩))]
    exact h3 j hj
theorem KI.of {S S' : Nat → Nat → Int} (h : ∀ k, kl k → S' k = S k) (h31 : S' 31 = S 31) (q : KI S) : KI S' := by
  refine ⟨q.1.of h, fun a b ha hb => ?_⟩
  rw [h 50 (Or.inr (Or.inr ⟨by omega, by omega⟩))] at ha hb
  rw [h31, EC_of h]
  exact q.2 a b ha hb
section CL
variable {G : Gx} {A : Nat → Nat} {B : Nat → Nat → Nat} {S : Nat → Nat → Int} {h : hw}
theorem EC_n : EC S 8 1 = S 51 2 := rfl
theorem EC_s : EC S 8 2 = S 50 2 := rfl
theorem EC_0 {i : Nat} (q : i < 10) : EC S 0 i = S (60 + i) 0 := if_pos q
theorem EC_1 {i : Nat} (q : i < 10) : EC S 1 i = S (60 + i) 1 := if_pos q
theorem EC_2 {i : Nat} (q : i < 10) : EC S 2 i = S (60 + i) 2 := if_pos q
theorem EC_4 {i : Nat} (q : i < 8) : EC S 4 i = S (70 + i) 1 := if_pos q
theorem EC_5 {i : Nat} (q : i < 8) : EC S 5 i = S (70 + i) 2 := if_pos q
theorem EC_6 {i : Nat} (q : i < 8) : EC S 6 i = S (70 + i) 3 := if_pos q
theorem EC_7 {i : Nat} (q : i < 8) : EC S 7 i = S (70 + i) 4 := if_pos q
theorem EC_g {c r : Int} (hc : 0 ≤ c ∧ c ≤ 19) (hr : 0 ≤ r ∧ r ≤ 19) : gix (EC S) c r = S 30 (c * 20 + r).toNat := by
  show (if (20 * r + c).toNat < 400 then S 30 (20 * ((20 * r + c).toNat % 20) + (20 * r + c).toNat / 20) else 0) = _
  rw [if_pos (by omega)]
  exact congrArg (S 30) (by omega)
theorem Pic.ground (P : Pic G A B S h) {c r : Int} (hc : 0 ≤ c ∧ c ≤ 19) (hr : 0 ≤ r ∧ r ≤ 19) {post : Int32 → Prop} (q : post (ii (gix (EC S) c r))) : wp_X3_groundAt G (A 2) (ii c) (ii r) h post := by
  rw [EC_g hc hr] at q
  refine P.oat (i := (c * 20 + r).toNat) (k := 2) (r := 10) (rk := 30) rfl rfl ⟨by omega, by omega⟩ ?_ (show _ < 400 by omega) q
  rw [il_20, ii_mul, ii_add]
  exact congrArg ii (by omega)
theorem b_half : ∀ n : Nat, n < 9 → (ii ((2 ^ n : Nat) : Int) >>> ((1 : Int32) &&& 31)) = ii ((2 ^ n / 2 : Nat) : Int) := by decide +kernel
theorem root_of {n : Nat} (hn : n < 262144) {post : Int32 → Prop} (q : post (ii (rt n : Nat))) : wp_X3_rootOf G (ii (n : Int)) h post := by
  intro J hJ
  have fin : ∀ r : Nat, r * r ≤ n → n < (r + 1) * (r + 1) → J (ii (r : Int)) (ii 0) := by
    intro r h1 h2
    apply hJ
    rw [il_0, ii_le ⟨by decide, by decide⟩ ⟨by decide, by decide⟩]
    refine ⟨fun _ => ?_, fun c => absurd (Int.le_refl _) c⟩
    rw [rt_un h1 h2]; exact q
  have main : ∀ k : Nat, k < 9 → ∀ r : Nat, r < 512 → r * r ≤ n → n < (r + 2 ^ (k + 1)) * (r + 2 ^ (k + 1)) → r + 2 ^ (k + 1) ≤ 512 → J (ii (r : Int)) (ii ((2 ^ k : Nat) : Int)) := by
    intro k
    induction k with
    | zero =>
      intro _ r hr h1 h2 h3
      apply hJ
      have hsq : (r + 1) * (r + 1) ≤ 512 * 512 := Nat.mul_le_mul (by omega) (by omega)
      rw [il_0, ii_le ⟨by decide, by decide⟩ ⟨by decide, by decide⟩]
      refine ⟨fun c => absurd c (by decide), fun _ => ?_⟩
      intro J2 hJ2
      rw [show ii ((2 ^ 0 : Nat) : Int) = ii ((1 : Nat) : Int) from rfl, ii_add, ii_mul]
      have e : ((r : Int) + ((1 : Nat) : Int)) * ((r : Int) + ((1 : Nat) : Int)) = (((r + 1) * (r + 1) : Nat) : Int) := by rw [Int.natCast_mul, Int.natCast_add]
      rw [e, ii_lt ⟨by omega, by omega⟩ ⟨by omega, by omega⟩]
      have e1 : (ii ((1 : Nat) : Int) >>> ((1 : Int32) &&& 31)) = ii 0 := b_half 0 (by omega)
      refine ⟨fun c => ?_, fun c => ?_⟩
      · apply hJ2
        rw [e1]
        exact fin r h1 (by omega)
      · apply hJ2
        rw [e1]
        exact fin (r + 1) (by omega) h2
    | succ k ih =>
      intro hk r hr h1 h2 h3
      apply hJ
      have hp : 2 ^ (k + 1) ≤ 256 := Nat.pow_le_pow_right (n := 2) (by omega) (show k + 1 ≤ 8 by omega)
      have hp0 : 0 < 2 ^ (k + 1) := Nat.pow_pos (by omega)
      have hp2 : 2 ^ (k + 1 + 1) = 2 * 2 ^ (k + 1) := by rw [Nat.pow_succ, Nat.mul_comm]
      have hp3 : 2 ^ (k + 1) = 2 * 2 ^ k := by rw [Nat.pow_succ, Nat.mul_comm]
      rw [hp2] at h2 h3
      have hsq : (r + 2 ^ (k + 1)) * (r + 2 ^ (k + 1)) ≤ 512 * 512 := Nat.mul_le_mul (by omega) (by omega)
      rw [il_0, ii_le ⟨by omega, by omega⟩ ⟨by decide, by decide⟩]
      refine ⟨fun c => absurd c (by omega), fun _ => ?_⟩
      intro J2 hJ2
      rw [ii_add, ii_mul]
      have e : ((r : Int) + ((2 ^ (k + 1) : Nat) : Int)) * ((r : Int) + ((2 ^ (k + 1) : Nat) : Int)) = (((r + 2 ^ (k + 1)) * (r + 2 ^ (k + 1)) : Nat) : Int) := by rw [Int.natCast_mul, Int.natCast_add]
      rw [e, ii_lt ⟨by omega, by omega⟩ ⟨by omega, by omega⟩]
      have e1 : (ii ((2 ^ (k + 1) : Nat) : Int) >>> ((1 : Int32) &&& 31)) = ii ((2 ^ k : Nat) : Int) := by
        rw [b_half (k + 1) hk]
        exact congrArg (fun z : Nat => ii (z : Int)) (by omega)
      refine ⟨fun c => ?_, fun c => ?_⟩
      · apply hJ2
        rw [e1]
        exact ih (by omega) r hr h1 (by omega) (by omega)
      · apply hJ2
        rw [e1]
        refine ih (by omega) (r + 2 ^ (k + 1)) (by omega) (by omega) ?_ (by omega)
        rw [show r + 2 ^ (k + 1) + 2 ^ (k + 1) = r + 2 * 2 ^ (k + 1) by omega]
        exact h2
  exact main 8 (by omega) 0 (by omega) (by omega) (by simpa using hn) (by decide)
theorem tdv {a b : Int} (h : 0 ≤ a) : a.tdiv b = a / b := Int.tdiv_eq_ediv_of_nonneg h
theorem mul_in {a b : Int} {m n : Int} (h1 : 0 ≤ a ∧ a ≤ m) (h2 : 0 ≤ b ∧ b ≤ n) : 0 ≤ a * b ∧ a * b ≤ m * n := ⟨Int.mul_nonneg h1.1 h2.1, Int.mul_le_mul h1.2 h2.2 h2.1 (by omega)⟩
theorem mul_ab {k d : Int} (h1 : 0 ≤ k ∧ k ≤ 19) (h2 : -19 ≤ d ∧ d ≤ 19) : -361 ≤ k * d ∧ k * d ≤ 361 := by
  rcases Int.le_total 0 d with q | q
  · have := mul_in (m := 19) (n := 19) h1 ⟨q, h2.2⟩; omega
  · have := mul_in (m := 19) (n := 19) h1 (b := -d) ⟨by omega, by omega⟩
    rw [Int.mul_neg] at this
    omega
/-- the line of sight and the point, of the k-th step -/
theorem inw_ok {E : Nat → Nat → Int} (hE : EOK E) {a b : Nat} {k : Int} (h0 : 0 < k) (hk : k < stp E a b) : (0 ≤ E 0 a + k * (E 0 b - E 0 a) / stp E a b ∧ E 0 a + k * (E 0 b - E 0 a) / stp E a b ≤ 19) ∧ (0 ≤ E 1 a + k * (E 1 b - E 1 a) / stp E a b ∧ E 1 a + k * (E 1 b - E 1 a) / stp E a b ≤ 19) ∧ (0 ≤ topE E a * (stp E a b - k) + topE E b * k ∧ topE E a * (stp E a b - k) + topE E b * k ≤ 10000) ∧ (-361 ≤ k * (E 0 b - E 0 a) ∧ k * (E 0 b - E 0 a) ≤ 361) ∧ (-361 ≤ k * (E 1 b - E 1 a) ∧ k * (E 1 b - E 1 a) ≤ 361) := by
  have hs := stp_le hE a b
  have h1 := hE.1 a; have h2 := hE.1 b; have h3 := hE.2.1 a; have h4 := hE.2.1 b
  have m1 := mid_le (d := E 0 b - E 0 a) (n := stp E a b) (k := k) (by omega) (by omega) (by omega) hs.2.2.1
  have m2 := mid_le (d := E 1 b - E 1 a) (n := stp E a b) (k := k) (by omega) (by omega) (by omega) hs.2.2.2
  have ta : 0 ≤ topE E a ∧ topE E a ≤ 198 := by have := hE.2.2.1 a; have := hE.2.2.2.1 (20 * (E 1 a) + E 0 a).toNat; unfold topE gix; omega
  have tb : 0 ≤ topE E b ∧ topE E b ≤ 198 := by have := hE.2.2.1 b; have := hE.2.2.2.1 (20 * (E 1 b) + E 0 b).toNat; unfold topE gix; omega
  have p1 := mul_in (m := 198) (n := 19) ta (b := stp E a b - k) ⟨by omega, by omega⟩
  have p2 := mul_in (m := 198) (n := 19) tb (b := k) ⟨by omega, by omega⟩
  have p3 := mul_ab (k := k) (d := E 0 b - E 0 a) ⟨by omega, by omega⟩ ⟨by omega, by omega⟩
  have p4 := mul_ab (k := k) (d := E 1 b - E 1 a) ⟨by omega, by omega⟩ ⟨by omega, by omega⟩
  refine ⟨?_, ?_, ?_, p3, p4⟩
  · rcases Int.lt_or_le (E 0 b - E 0 a) 0 with q | q
    · have := m1.2 q; omega
    · have := m1.1 q; omega
  · rcases Int.lt_or_le (E 1 b - E 1 a) 0 with q | q
    · have := m2.2 q; omega
    · have := m2.1 q; omega
  · omega
theorem Pic.blocks (P : Pic G A B S h) (hK : KL S) {a b : Nat} (ha : (a : Int) < S 50 2) (hb : (b : Int) < S 50 2) {post : Int32 → Prop} (q : post (ii (blk (EC S) a b ((stp (EC S) a b).toNat - 1)))) : wp_X3_blocksBetween G (A 2) (A (60 + a)) (A (60 + b)) h post := by
  obtain ⟨hL, hE, -⟩ := hK
  have h10 := hL.1.2.1
  have e1 := EC_0 (S := S) (i := a) (by omega); have e2 := EC_0 (S := S) (i := b) (by omega)
  have e3 := EC_1 (S := S) (i := a) (by omega); have e4 := EC_1 (S := S) (i := b) (by omega)
  have e5 := EC_2 (S := S) (i := a) (by omega); have e6 := EC_2 (S := S) (i := b) (by omega)
  have r1 := hE.1 a; have r2 := hE.1 b; have r3 := hE.2.1 a; have r4 := hE.2.1 b
  have hs := stp_le hE a b
  have ka := ctn_si (G := G) (A := A) (B := B) ha h10
  have kb := ctn_si (G := G) (A := A) (B := B) hb h10
  have es : jmax (jabs (ii (S (60 + b) 0) - ii (S (60 + a) 0))) (jabs (ii (S (60 + b) 1) - ii (S (60 + a) 1))) = ii (stp (EC S) a b) := by
    rw [← e1, ← e2, ← e3, ← e4, ii_sub, ii_sub, ii_ab ⟨by omega, by omega⟩, ii_ab ⟨by omega, by omega⟩, ii_mx]
    · rfl
    · unfold ab rg; omega
    · unfold ab rg; omega
  refine P.rI kb rfl ?_
  refine P.rI ka rfl ?_
  refine P.rI kb rfl ?_
  refine P.rI ka rfl ?_
  rw [es]
  rw [il_2, ii_le ⟨by decide, by decide⟩ ⟨by omega, by omega⟩]
  refine ⟨fun c => ?_, fun c => ?_⟩
  · refine P.rI ka rfl ?_
    refine P.rI ka rfl ?_
    refine P.rI ka rfl ?_
    refine ⟨P.o (k := 2) rfl, ?_⟩
    rw [← e1, ← e3, ← e5]
    refine P.ground r1 r3 ?_
    refine P.rI kb rfl ?_
    refine P.rI kb rfl ?_
    refine P.rI kb rfl ?_
    refine ⟨P.o (k := 2) rfl, ?_⟩
    rw [← e2, ← e4, ← e6]
    refine P.ground r2 r4 ?_
    intro J hJ
    have main : ∀ k : Nat, k ≤ (stp (EC S) a b).toNat - 1 → J (ii (blk (EC S) a b k)) (ii ((k + 1 : Nat) : Int)) := by
      intro k hk
      refine lp_up (J := fun k => J (ii (blk (EC S) a b k)) (ii ((k + 1 : Nat) : Int))) (n := (stp (EC S) a b).toNat - 1) ?_ ?_ hk
      · apply hJ
        rw [ii_le ⟨by omega, by omega⟩ ⟨by omega, by omega⟩]
        exact ⟨fun _ => q, fun c2 => absurd (show stp (EC S) a b ≤ ((((stp (EC S) a b).toNat - 1 + 1 : Nat)) : Int) by omega) c2⟩
      · intro k hk ih
        apply hJ
        rw [ii_le ⟨by omega, by omega⟩ ⟨by omega, by omega⟩]
        refine ⟨fun c2 => absurd c2 (by omega), fun _ => ?_⟩
        have ok := inw_ok hE (a := a) (b := b) (k := ((k + 1 : Nat) : Int)) (by omega) (by omega)
        obtain ⟨o1, o2, o3, o4, o5⟩ := ok
        refine P.rI ka rfl ?_
        rw [ii_sub, ii_mul]
        refine fd_of ⟨by omega, by omega⟩ ⟨by omega, by omega⟩ (by omega) ⟨by omega, by omega⟩ ?_
        refine P.rI ka rfl ?_
        rw [ii_sub, ii_mul]
        refine fd_of ⟨by omega, by omega⟩ ⟨by omega, by omega⟩ (by omega) ⟨by omega, by omega⟩ ?_
        refine ⟨by rw [il_0, ii_eq ⟨by omega, by omega⟩ ⟨by decide, by decide⟩]; omega, P.o (k := 2) rfl, ?_⟩
        rw [← e1, ← e3, ii_add, ii_add]
        refine P.ground o1 o2 ?_
        intro J2 hJ2
        rw [ii_add, ii_add, ii_sub, ii_mul, ii_mul, ii_add]
        have et : ∀ z w : Nat, EC S 2 z + gix (EC S) (EC S 0 z) (EC S 1 z) = topE (EC S) z := fun z w => rfl
        rw [et a 0, et b 0, ii_div ⟨by omega, by omega⟩ ⟨by omega, by omega⟩ (by omega), tdv o3.1]
        have l1 : 0 ≤ (topE (EC S) a * (stp (EC S) a b - ((k + 1 : Nat) : Int)) + topE (EC S) b * ((k + 1 : Nat) : Int)) / stp (EC S) a b := Int.ediv_nonneg o3.1 (by omega)
        have l2 : (topE (EC S) a * (stp (EC S) a b - ((k + 1 : Nat) : Int)) + topE (EC S) b * ((k + 1 : Nat) : Int)) / stp (EC S) a b ≤ topE (EC S) a * (stp (EC S) a b - ((k + 1 : Nat) : Int)) + topE (EC S) b * ((k + 1 : Nat) : Int) := Int.ediv_le_self _ o3.1
        have l3 := hE.2.2.2.1 (20 * (EC S 1 a + ((k + 1 : Nat) : Int) * (EC S 1 b - EC S 1 a) / stp (EC S) a b) + (EC S 0 a + ((k + 1 : Nat) : Int) * (EC S 0 b - EC S 0 a) / stp (EC S) a b)).toNat
        rw [ii_le ⟨by unfold gix; omega, by unfold gix; omega⟩ ⟨by omega, by omega⟩]
        have eb : blk (EC S) a b (k + 1) = blk (EC S) a b k + (if inw (EC S) a b ((k + 1 : Nat) : Int) = true then 1 else 0) := rfl
        refine ⟨fun c2 => ?_, fun c2 => ?_⟩
        · apply hJ2
          have e9 : inw (EC S) a b ((k + 1 : Nat) : Int) = false := decide_eq_false (Int.not_lt.mpr c2)
          rw [e9] at eb
          rw [ii_inc', show blk (EC S) a b k = blk (EC S) a b (k + 1) by rw [eb]; simp]
          exact ih
        · apply hJ2
          have e9 : inw (EC S) a b ((k + 1 : Nat) : Int) = true := decide_eq_true (Int.not_le.mp c2)
          rw [e9] at eb
          rw [ii_inc', il_1, ii_add, show blk (EC S) a b k + 1 = blk (EC S) a b (k + 1) by rw [eb]; simp]
          exact ih
    exact main 0 (by omega)
  · rw [show (stp (EC S) a b).toNat - 1 = 0 by omega] at q
    exact q
theorem Pic.measure (P : Pic G A B S h) (hK : KL S) {a b : Nat} (ha : (a : Int) < S 50 2) (hb : (b : Int) < S 50 2) {post : Int32 → Prop} (q : post (ii (lossO (EC S) a b))) : wp_X3_measure G (A 2) (A (60 + a)) (A (60 + b)) h post := by
  have hK' := hK
  obtain ⟨hL, hE, -⟩ := hK
  have h10 := hL.1.2.1
  have e1 := EC_0 (S := S) (i := a) (by omega); have e2 := EC_0 (S := S) (i := b) (by omega)
  have e3 := EC_1 (S := S) (i := a) (by omega); have e4 := EC_1 (S := S) (i := b) (by omega)
  have ka := ctn_si (G := G) (A := A) (B := B) ha h10
  have kb := ctn_si (G := G) (A := A) (B := B) hb h10
  have hq := sq_le hE a b
  refine P.rI kb rfl ?_
  refine P.rI ka rfl ?_
  refine P.rI kb rfl ?_
  refine P.rI ka rfl ?_
  rw [← e1, ← e2, ← e3, ← e4, ii_sub, ii_sub, ii_mul, ii_mul, ii_add, il_100, ii_mul]
  rw [show 100 * ((EC S 0 b - EC S 0 a) * (EC S 0 b - EC S 0 a) + (EC S 1 b - EC S 1 a) * (EC S 1 b - EC S 1 a)) = (((sqE (EC S) a b).toNat : Nat) : Int) by rw [Int.toNat_of_nonneg hq.1]; rfl]
  refine root_of (by omega) ?_
  refine ⟨P.o (k := 2) rfl, ?_⟩
  refine P.blocks hK' ha hb ?_
  rw [il_8, il_60, il_200, ii_mul, ii_mul, ii_add, ii_add]
  exact q
end CL
