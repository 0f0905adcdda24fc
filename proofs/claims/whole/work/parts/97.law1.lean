/-! the law: the start's numbers; how a call ends -/
theorem S0_z {k : Nat} (h1 : ¬ (30 ≤ k ∧ k < 50)) (h2 : k ≠ 113 ∧ k ≠ 122 ∧ k ≠ 129 ∧ k ≠ 117 ∧ k ≠ 1 ∧ k ≠ 80) (i : Nat) : S0i k i = 0 := by
  unfold S0i
  have a : (Nat.ble 30 k && Nat.blt k 50) = false := by
    cases e : (Nat.ble 30 k && Nat.blt k 50) with
    | false => rfl
    | true =>
      rw [Bool.and_eq_true] at e
      exact absurd ⟨Nat.le_of_ble_eq_true e.1, Nat.le_of_ble_eq_true e.2⟩ h1
  have b : ∀ m, k ≠ m → Nat.beq k m = false := fun m hm => by
    cases e : Nat.beq k m with
    | false => rfl
    | true => exact absurd (Nat.eq_of_beq_eq_true e) hm
  rw [a, b 113 h2.1, b 122 h2.2.1, b 129 h2.2.2.1, b 117 h2.2.2.2.1, b 1 h2.2.2.2.2.1, b 80 h2.2.2.2.2.2]
  rfl
theorem S0_30 {k : Nat} (h1 : 30 ≤ k ∧ k < 50) (i : Nat) : S0i k i = if i < rl (k - 20) then iniv k else 0 := by
  unfold S0i
  have a : (Nat.ble 30 k && Nat.blt k 50) = true := by rw [Bool.and_eq_true]; exact ⟨Nat.ble_eq_true_of_le h1.1, Nat.ble_eq_true_of_le h1.2⟩
  rw [a]; rfl
theorem iniv_in (k : Nat) : iniv k = -1 ∨ iniv k = 0 := by
  unfold iniv
  cases (Nat.beq k 32 || Nat.beq k 35 || Nat.beq k 37 || Nat.beq k 39 || Nat.beq k 42 || Nat.beq k 48 || Nat.beq k 49) with
  | false => exact Or.inr rfl
  | true => exact Or.inl rfl
theorem S0_in {k : Nat} (h1 : 30 ≤ k ∧ k < 50) (i : Nat) : S0i k i = -1 ∨ S0i k i = 0 := by
  rw [S0_30 h1]; split
  · exact iniv_in k
  · exact Or.inr rfl
theorem S0_nz {k : Nat} (h1 : 30 ≤ k ∧ k < 50) (h2 : iniv k = 0) (i : Nat) : S0i k i = 0 := by rw [S0_30 h1, h2]; split <;> rfl
theorem EC0_0 (i : Nat) : EC S0i 0 i = 0 := by
  show (if i < 10 then S0i (60 + i) 0 else 0) = 0
  split
  · exact S0_z (k := 60 + i) (by omega) (by omega) _
  · rfl
theorem EC0_1 (i : Nat) : EC S0i 1 i = 0 := by
  show (if i < 10 then S0i (60 + i) 1 else 0) = 0
  split
  · exact S0_z (k := 60 + i) (by omega) (by omega) _
  · rfl
theorem EC0_2 (i : Nat) : EC S0i 2 i = 0 := by
  show (if i < 10 then S0i (60 + i) 2 else 0) = 0
  split
  · exact S0_z (k := 60 + i) (by omega) (by omega) _
  · rfl
theorem EC0_3 (i : Nat) : EC S0i 3 i = 0 := by
  show (if i < 400 then S0i 30 (20 * (i % 20) + i / 20) else 0) = 0
  split
  · exact S0_nz ⟨by decide, by decide⟩ rfl _
  · rfl
theorem EC0_4 (i : Nat) : EC S0i 4 i = 0 := by
  show (if i < 8 then S0i (70 + i) 1 else 0) = 0
  split
  · exact S0_z (k := 70 + i) (by omega) (by omega) _
  · rfl
theorem EC0_5 (i : Nat) : EC S0i 5 i = 0 := by
  show (if i < 8 then S0i (70 + i) 2 else 0) = 0
  split
  · exact S0_z (k := 70 + i) (by omega) (by omega) _
  · rfl
theorem EC0_6 (i : Nat) : EC S0i 6 i = 0 := by
  show (if i < 8 then S0i (70 + i) 3 else 0) = 0
  split
  · exact S0_z (k := 70 + i) (by omega) (by omega) _
  · rfl
theorem EC0_7 (i : Nat) : EC S0i 7 i = 0 := by
  show (if i < 8 then S0i (70 + i) 4 else 0) = 0
  split
  · exact S0_z (k := 70 + i) (by omega) (by omega) _
  · rfl
theorem EM0_0 (i : Nat) : EM S0i 0 i = 0 := by
  show (if i < 10 then S0i 106 i else 0) = 0
  split
  · exact S0_z (k := 106) (by decide) (by decide) _
  · rfl
theorem EM0_1 (i : Nat) : EM S0i 1 i = 0 := by
  show (if i < 10 then S0i 107 i else 0) = 0
  split
  · exact S0_z (k := 107) (by decide) (by decide) _
  · rfl
theorem EM0_2 (i : Nat) : EM S0i 2 i = 0 := by
  show (if i < 10 then S0i 108 i else 0) = 0
  split
  · exact S0_z (k := 108) (by decide) (by decide) _
  · rfl
theorem EM0_3 (i : Nat) : EM S0i 3 i = 0 := by
  show (if i < 400 then S0i 105 i else 0) = 0
  split
  · exact S0_z (k := 105) (by decide) (by decide) _
  · rfl
theorem EM0_4 (i : Nat) : EM S0i 4 i = 0 := by
  show (if i < 8 then S0i 109 i else 0) = 0
  split
  · exact S0_z (k := 109) (by decide) (by decide) _
  · rfl
theorem EM0_5 (i : Nat) : EM S0i 5 i = 0 := by
  show (if i < 8 then S0i 110 i else 0) = 0
  split
  · exact S0_z (k := 110) (by decide) (by decide) _
  · rfl
theorem EM0_6 (i : Nat) : EM S0i 6 i = 0 := by
  show (if i < 8 then S0i 111 i else 0) = 0
  split
  · exact S0_z (k := 111) (by decide) (by decide) _
  · rfl
theorem EM0_7 (i : Nat) : EM S0i 7 i = 0 := by
  show (if i < 8 then S0i 112 i else 0) = 0
  split
  · exact S0_z (k := 112) (by decide) (by decide) _
  · rfl
theorem EM_00 : EM S0i = EC S0i := by
  funext k i
  by_cases c0 : k = 0
  · rw [c0, EM0_0, EC0_0]
  by_cases c1 : k = 1
  · rw [c1, EM0_1, EC0_1]
  by_cases c2 : k = 2
  · rw [c2, EM0_2, EC0_2]
  by_cases c3 : k = 3
  · rw [c3, EM0_3, EC0_3]
  by_cases c4 : k = 4
  · rw [c4, EM0_4, EC0_4]
  by_cases c5 : k = 5
  · rw [c5, EM0_5, EC0_5]
  by_cases c6 : k = 6
  · rw [c6, EM0_6, EC0_6]
  by_cases c7 : k = 7
  · rw [c7, EM0_7, EC0_7]
  unfold EM EC
  rw [if_neg c0, if_neg c1, if_neg c2, if_neg c3, if_neg c4, if_neg c5, if_neg c6, if_neg c7, if_neg c0, if_neg c1, if_neg c2, if_neg c3, if_neg c4, if_neg c5, if_neg c6, if_neg c7]
  by_cases i0 : i = 0
  · rw [if_pos i0, if_pos i0]; rfl
  · rw [if_neg i0, if_neg i0]
    by_cases i1 : i = 1
    · rw [if_pos i1, if_pos i1]; rfl
    · rw [if_neg i1, if_neg i1]
      by_cases i2 : i = 2
      · rw [if_pos i2, if_pos i2]; rfl
      · rw [if_neg i2, if_neg i2]
theorem EOK_0 : EOK (EC S0i) := by
  have e0 : EC S0i 8 0 = 170 := rfl
  have e1 : EC S0i 8 1 = 0 := rfl
  have e2 : EC S0i 8 2 = 0 := rfl
  refine ⟨fun i => ?_, fun i => ?_, fun i => ?_, fun i => ?_, fun i => ?_, fun i => ?_, fun i => ?_, fun i => Or.inl (EC0_7 i), ?_, ?_, ?_⟩
  · rw [EC0_0]; decide
  · rw [EC0_1]; decide
  · rw [EC0_2]; decide
  · rw [EC0_3]; decide
  · rw [EC0_4, e1]; exact ⟨by decide, by decide, fun z => by omega⟩
  · rw [EC0_5, e1]; exact ⟨by decide, by decide, fun z => by omega⟩
  · rw [EC0_6]; decide
  · rw [e0]; decide
  · rw [e1]; decide
  · rw [e2]; decide
theorem IV_0 : IV S0i 0 := by
  have o : ∀ k, 50 ≤ k → k ≠ 113 ∧ k ≠ 122 ∧ k ≠ 129 ∧ k ≠ 117 ∧ k ≠ 1 ∧ k ≠ 80 → ∀ i, S0i k i = 0 := fun k hk h2 => S0_z (by omega) h2
  have u : ∀ k, 1 < k → k < 30 → ∀ i, S0i k i = 0 := fun k h1 h2 => S0_z (by omega) (by omega)
  have cm : ∀ k, 30 ≤ k ∧ k < 50 → chs (S0i k) := fun k hk i => by rcases S0_in hk i with z | z <;> rw [z] <;> decide
  have e33 : ∀ i, S0i 33 i = 0 := S0_nz ⟨by decide, by decide⟩ rfl
  have e34 : ∀ i, S0i 34 i = 0 := S0_nz ⟨by decide, by decide⟩ rfl
  have e36 : ∀ i, S0i 36 i = 0 := S0_nz ⟨by decide, by decide⟩ rfl
  have e38 : ∀ i, S0i 38 i = 0 := S0_nz ⟨by decide, by decide⟩ rfl
  have e32 : ∀ j, j < 8 → S0i 32 j = -1 := fun j hj => by rw [S0_30 ⟨by decide, by decide⟩]; exact if_pos hj
  have e42 : ∀ j, j < 8 → S0i 42 j = -1 := fun j hj => by rw [S0_30 ⟨by decide, by decide⟩]; exact if_pos hj
  have e48 : ∀ j, j < 8 → S0i 48 j = -1 := fun j hj => by rw [S0_30 ⟨by decide, by decide⟩]; exact if_pos hj
  have e37 : ∀ j, j < 64 → S0i 37 j = -1 := fun j hj => by rw [S0_30 ⟨by decide, by decide⟩]; exact if_pos hj
  have e117 : ∀ j, j < 64 → S0i 117 j = -1 := fun j hj => if_pos hj
  have e113 : ∀ j, j < 8 → S0i 113 j = -1 := fun j hj => if_pos hj
  have e122 : ∀ j, j < 8 → S0i 122 j = -1 := fun j hj => if_pos hj
  have e129 : ∀ j, j < 8 → S0i 129 j = -1 := fun j hj => if_pos hj
  have e43 : ∀ i, S0i 43 i = 0 := S0_nz ⟨by decide, by decide⟩ rfl
  have e44 : ∀ i, S0i 44 i = 0 := S0_nz ⟨by decide, by decide⟩ rfl
  have e45 : ∀ i, S0i 45 i = 0 := S0_nz ⟨by decide, by decide⟩ rfl
  have e46 : ∀ i, S0i 46 i = 0 := S0_nz ⟨by decide, by decide⟩ rfl
  have e31 : ∀ i, S0i 31 i = 0 := S0_nz ⟨by decide, by decide⟩ rfl
  have e502 : S0i 50 2 = 0 := rfl
  have e512 : S0i 51 2 = 0 := rfl
  have e503 : S0i 50 3 = 0 := rfl
  have e513 : S0i 51 3 = 0 := rfl
  have e812 : S0i 81 2 = 0 := rfl
  have e813 : S0i 81 3 = 0 := rfl
  have e804 : S0i 80 4 = 0 := rfl
  have e31_ : S0i 3 1 = 0 := rfl
  have e801 : S0i 80 1 = 0 := rfl
  have e63 : S0i 6 3 = 0 := rfl
  have b0 : ∀ j, bt (ii (S0i 6 3)) j = false := fun j => by rw [e63, ← il_0]; exact b_0 j
  have n0 : ntM S0i = 0 := rfl
  have nC : nt (EC S0i) = 0 := rfl
  exact mkIV
    (xki := ⟨⟨⟨⟨by rw [e502]; decide, by rw [e502]; decide, fun z => by rw [e502] at z; omega⟩, by rw [e512]; decide, by rw [e512]; decide, fun z => by rw [e512] at z; omega⟩, EOK_0, fun j hj => by rw [e512] at hj; omega⟩, fun a b ha _ => by rw [e502] at ha; omega⟩)
    (xdg := fun a _ => e31 _)
    (xl3 := ⟨rfl, rfl, by rw [e812]; decide⟩)
    (xri := ⟨fun s _ => ⟨by rw [e33]; decide, by rw [e33]; decide, fun z => by rw [e33] at z; omega⟩, fun i => by rw [e34, e31_]; decide, cm 35 ⟨by decide, by decide⟩, cm 32 ⟨by decide, by decide⟩, fun s hs d _ => by
      rw [e32 s hs]; unfold LC; rw [e33]; rfl, by rw [e31_]; decide, fun i hi => by rw [S0_30 ⟨by decide, by decide⟩]; exact if_neg (show ¬ i < 8 by omega)⟩)
    (xrsz := fun s _ => by rw [e33]; decide)
    (xeE := EM_00)
    (xday := rfl)
    (xnow := fun j hj => by rw [e113 j hj, e32 j hj])
    (xreg := fun j hj => by rw [n0] at hj; omega)
    (xrgm := ⟨rfl, rfl, ⟨by rw [e502]; decide, by rw [e512]; decide⟩, fun s hs => by rw [e812] at hs; omega⟩)
    (xsz := fun s hs => by rw [o (170 + s) (by omega) (by omega), o (170 + s) (by omega) (by omega)]; decide)
    (xask := fun j hj => by rw [o 114 (by decide) (by decide), o (70 + j) (by omega) (by omega)]; decide)
    (xbr := ⟨fun i _ => Or.inl (e36 i), fun i hi => by rw [e37 i hi, e31_]; decide, fun i _ => Or.inl (e38 i), by rw [e31_]; decide⟩)
    (xbm := ⟨fun i _ => Or.inl (o 116 (by decide) (by decide) i), fun i hi => by rw [e117 i hi, e801]; decide, fun i _ => Or.inl (o 118 (by decide) (by decide) i), by rw [e801]; decide⟩)
    (xb36 := fun i _ => by rw [e36, o 116 (by decide) (by decide)])
    (xb37 := fun i hi => by rw [e37 i hi, e117 i hi])
    (xb38 := fun i _ => by rw [e38, o 118 (by decide) (by decide)])
    (xfa := fun j hj => ⟨by rw [e43]; decide, fun z => absurd (e42 j hj) z⟩)
    (xpr := fun j hj => by rw [e122 j hj, e42 j hj]; decide)
    (xs61 := Or.inl rfl)
    (xs62 := by rw [u 6 (by decide) (by decide)]; decide)
    (xs63 := fun j hj => by rw [b0 j] at hj; cases hj)
    (xst := fun j _ => by rw [b0 j, o 123 (by decide) (by decide)]; rfl)
    (xs19 := rfl) (xs20 := rfl) (xs21 := rfl)
    (xbd := ⟨by rw [u 7 (by decide) (by decide)]; decide, fun i _ => by rw [e46, e46, e46]; decide⟩)
    (xfb := ⟨fun i _ => by
      rw [e44, e45]; exact ⟨by decide, by decide, by decide, Int.le_refl _⟩, fun i _ _ => ⟨e44 i, e45 i⟩⟩)
    (xwr := by funext i; rw [e46, o 125 (by decide) (by decide)])
    (xgot := fun i _ => by rw [e44, o 126 (by decide) (by decide)])
    (xpay := fun i _ => by rw [e45, o 127 (by decide) (by decide)])
    (xnb := rfl)
    (xm1 := Or.inl rfl)
    (xph := fun j hj => by rw [e129 j hj, e48 j hj]; decide)
    (xdk := rfl)
    (xal := fun _ i hi => by rw [nC] at hi; omega)
    (xoff := fun j _ hj => ⟨e32 j hj, by rw [o 114 (by decide) (by decide)], fun d => by unfold LC; rw [e33]; rfl⟩)
    (xpl := ⟨fun i _ => by rw [o 131 (by decide) (by decide)]; decide, fun i _ => Or.inl (o 130 (by decide) (by decide) i)⟩)
    (xc39 := cm 39 ⟨by decide, by decide⟩)
    (xc49 := cm 49 ⟨by decide, by decide⟩)
section TLS
variable {G : Gx} {A : Nat → Nat} {B : Nat → Nat → Nat} {S : Nat → Nat → Int} {h : hw}
theorem lgc (x : Int64) : lg_cmp x x = 0 := by
  unfold lg_cmp
  simp
/-- what the class answered is put down -/
theorem Pic.out (P : Pic G A B S h) {v : Int} (hv : rg v) {K : hw → Prop} (q : ∀ h', Pic G A B (su S 90 0 v) h' → K h') : stJ G h (A 90) 0 (Int32.toInt64 (ii v)) K := P.jst (k := 90) (i := 0) (n := 1) (z := v) ⟨by decide, by decide, by decide, by decide⟩ (fun S => rfl) il_0 (jj_ii hv) (by decide) (by decide) q
/-- both came to an answer -/
theorem Pic.tlJ (P : Pic G A B S h) (h0 : S 80 0 = 0) {v : Int} (hv : rg v) (h9 : S 90 0 = v) {J : Prop} (q : J) : (isO h (A 80) 12 ∧ wp_X12_thrown G (A 80) h (fun r5 => ((r5 = 0 → ∀ J269 : Prop, (J → J269) → ((¬ (0 : Int32) = 0 → J269) ∧ ((0 : Int32) = 0 → ldJ G h (A 90) 0 (fun v6 => (((lg_cmp v6 (Int32.toInt64 (ii v))) = 0 → J269) ∧ (¬ (lg_cmp v6 (Int32.toInt64 (ii v))) = 0 → False)))))) ∧ (¬ r5 = 0 → False)))) := by
  refine ⟨P.o (k := 80) rfl, P.rI (k := 80) rfl rfl ?_⟩
  rw [h0, ← il_0]
  refine ⟨fun _ J269 hJ => ⟨fun z => absurd rfl z, fun _ => ?_⟩, fun z => absurd rfl z⟩
  refine P.jld (k := 90) (i := 0) (n := 1) rfl il_0 (by decide) (by decide) ?_
  rw [h9, jj_ii hv, lgc]
  exact ⟨fun _ => hJ q, fun z => absurd rfl z⟩
/-- both threw -/
theorem Pic.tlE (P : Pic G A B S h) {e : Int} (he : e = 1 ∨ e = 2 ∨ e = 3 ∨ e = 4) (h0 : S 80 0 = e) {x y : Int32} (hx : x = ii e) {J : Prop} (q : J) : (isO h (A 80) 12 ∧ wp_X12_thrown G (A 80) h (fun r5 => ((r5 = x → ∀ J269 : Prop, (J → J269) → ((¬ x = 0 → J269) ∧ (x = 0 → ldJ G h (A 90) 0 (fun v6 => (((lg_cmp v6 (Int32.toInt64 y)) = 0 → J269) ∧ (¬ (lg_cmp v6 (Int32.toInt64 y)) = 0 → False)))))) ∧ (¬ r5 = x → False)))) := by
  refine ⟨P.o (k := 80) rfl, P.rI (k := 80) rfl rfl ?_⟩
  have nz : x ≠ 0 := fun z => by
    rw [hx, il_0, ii_eq ⟨by omega, by omega⟩ ⟨by decide, by decide⟩] at z; omega
  rw [h0, ← hx]
  exact ⟨fun _ J269 hJ => ⟨fun _ => hJ q, fun z => absurd z nz⟩, fun z => absurd rfl z⟩
end TLS
