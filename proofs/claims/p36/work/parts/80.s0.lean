/-! the start's numbers -/
theorem S0_z {k : Nat} (h1 : ¬ (30 ≤ k ∧ k < 50)) (h2 : k ≠ 1) (i : Nat) : S0i k i = 0 := by
  unfold S0i
  have a : (Nat.ble 30 k && Nat.blt k 50) = false := by
    cases e : (Nat.ble 30 k && Nat.blt k 50) with
    | false => rfl
    | true =>
      rw [Bool.and_eq_true] at e
      exact absurd ⟨Nat.le_of_ble_eq_true e.1, Nat.le_of_ble_eq_true e.2⟩ h1
  have b : Nat.beq k 1 = false := by
    cases e : Nat.beq k 1 with
    | false => rfl
    | true => exact absurd (Nat.eq_of_beq_eq_true e) h2
  rw [a, b]
  rfl
theorem S0_30 {k : Nat} (h1 : 30 ≤ k ∧ k < 50) (i : Nat) : S0i k i = if i < rl (k - 20) then iniv k else 0 := by
  unfold S0i
  have a : (Nat.ble 30 k && Nat.blt k 50) = true := by rw [Bool.and_eq_true]; exact ⟨Nat.ble_eq_true_of_le h1.1, Nat.ble_eq_true_of_le h1.2⟩
  rw [a]; rfl
theorem iniv_in (k : Nat) : iniv k = -1 ∨ iniv k = 0 := by
  unfold iniv
  cases (Nat.beq k 32 || Nat.beq k 35 || Nat.beq k 37 || Nat.beq k 39 || Nat.beq k 42 || Nat.beq k 48 || Nat.beq k 49) with
  | false => exact Or.inr rfl
  | true => exact Or.inl rfl
theorem S0_in {k : Nat} (h1 : 30 ≤ k ∧ k < 50) (i : Nat) : S0i k i = -1 ∨ S0i k i = 0 := by
  rw [S0_30 h1]; split
  · exact iniv_in k
  · exact Or.inr rfl
theorem S0_nz {k : Nat} (h1 : 30 ≤ k ∧ k < 50) (h2 : iniv k = 0) (i : Nat) : S0i k i = 0 := by rw [S0_30 h1, h2]; split <;> rfl
theorem EC0_0 (i : Nat) : EC S0i 0 i = 0 := by
  show (if i < 10 then S0i (60 + i) 0 else 0) = 0
  split
  · exact S0_z (k := 60 + i) (by omega) (by omega) _
  · rfl
theorem EC0_1 (i : Nat) : EC S0i 1 i = 0 := by
  show (if i < 10 then S0i (60 + i) 1 else 0) = 0
  split
  · exact S0_z (k := 60 + i) (by omega) (by omega) _
  · rfl
theorem EC0_2 (i : Nat) : EC S0i 2 i = 0 := by
  show (if i < 10 then S0i (60 + i) 2 else 0) = 0
  split
  · exact S0_z (k := 60 + i) (by omega) (by omega) _
  · rfl
theorem EC0_4 (i : Nat) : EC S0i 4 i = 0 := by
  show (if i < 8 then S0i (70 + i) 1 else 0) = 0
  split
  · exact S0_z (k := 70 + i) (by omega) (by omega) _
  · rfl
theorem EC0_5 (i : Nat) : EC S0i 5 i = 0 := by
  show (if i < 8 then S0i (70 + i) 2 else 0) = 0
  split
  · exact S0_z (k := 70 + i) (by omega) (by omega) _
  · rfl
theorem EC0_6 (i : Nat) : EC S0i 6 i = 0 := by
  show (if i < 8 then S0i (70 + i) 3 else 0) = 0
  split
  · exact S0_z (k := 70 + i) (by omega) (by omega) _
  · rfl
theorem EC0_7 (i : Nat) : EC S0i 7 i = 0 := by
  show (if i < 8 then S0i (70 + i) 4 else 0) = 0
  split
  · exact S0_z (k := 70 + i) (by omega) (by omega) _
  · rfl
theorem EC0_3 (i : Nat) : EC S0i 3 i = 0 := by
  show (if i < 400 then S0i 30 (20 * (i % 20) + i / 20) else 0) = 0
  split
  · exact S0_nz ⟨by decide, by decide⟩ rfl _
  · rfl
theorem EOK_0 : EOK (EC S0i) := by
  have e0 : EC S0i 8 0 = 170 := rfl
  have e1 : EC S0i 8 1 = 0 := rfl
  have e2 : EC S0i 8 2 = 0 := rfl
  refine ⟨fun i => ?_, fun i => ?_, fun i => ?_, fun i => ?_, fun i => ?_, fun i => ?_, fun i => ?_, fun i => Or.inl (EC0_7 i), ?_, ?_, ?_⟩
  · rw [EC0_0]; decide
  · rw [EC0_1]; decide
  · rw [EC0_2]; decide
  · rw [EC0_3]; decide
  · rw [EC0_4, e1]; exact ⟨by decide, by decide, fun z => by omega⟩
  · rw [EC0_5, e1]; exact ⟨by decide, by decide, fun z => by omega⟩
  · rw [EC0_6]; decide
  · rw [e0]; decide
  · rw [e1]; decide
  · rw [e2]; decide
/-- the keys that the building of the land may write -/
def lkb (k : Nat) : Prop := k = 1 ∨ k = 30 ∨ k = 31 ∨ (50 ≤ k ∧ k < 80)
/-- n sites stand, and m stations -/
def LB (G : Gx) (S : Nat → Nat → Int) (n m : Nat) : Prop := KI S ∧ dg S ∧ L3 S ∧ (∀ k, ¬ lkb k → S k = S0i k) ∧ S 50 2 = n ∧ S 51 2 = m ∧ (∀ j : Nat, j < m → EC S 7 j = bI (prt G j) ∧ S (70 + j) 5 = pk G (170 + j) 60) ∧ ∀ j : Nat, m ≤ j → j < 10 → S (70 + j) = S0i (70 + j)
theorem LB_0 {G : Gx} : LB G S0i 0 0 := by
  have e502 : S0i 50 2 = 0 := rfl
  have e512 : S0i 51 2 = 0 := rfl
  have e812 : S0i 81 2 = 0 := rfl
  have e31 : ∀ i, S0i 31 i = 0 := S0_nz ⟨by decide, by decide⟩ rfl
  refine ⟨⟨⟨⟨⟨by rw [e502]; decide, by rw [e502]; decide, fun z => by rw [e502] at z; omega⟩, by rw [e512]; decide, by rw [e512]; decide, fun z => by rw [e512] at z; omega⟩, EOK_0, fun j hj => by rw [e512] at hj; omega⟩, fun a b ha _ => by rw [e502] at ha; omega⟩, fun a _ => e31 _, ⟨rfl, rfl, by rw [e812]; decide⟩, fun k _ => rfl, rfl, rfl, fun j hj => by omega, fun j _ _ => rfl⟩
section LBS
variable {G : Gx} {S S' : Nat → Nat → Int} {n m : Nat}
theorem LB.off (L : LB G S n m) : ∀ j, j < 8 → S 32 j = -1 := fun j hj => by
  rw [L.2.2.2.1 32 (fun z => by unfold lkb at z; omega), S0_30 ⟨by decide, by decide⟩]
  exact if_pos hj
theorem LB.c32 (L : LB G S n m) : chs (S 32) := fun i => by
  rw [L.2.2.2.1 32 (fun z => by unfold lkb at z; omega)]
  rcases S0_in (k := 32) ⟨by decide, by decide⟩ i with z | z <;> rw [z] <;> decide
theorem EC_h7 (h0 : ∀ k, k = 1 ∨ k = 30 ∨ (50 ≤ k ∧ k < 70) → S' k = S k) (h7 : ∀ j, j < 10 → ∀ i, i ≠ 5 → S' (70 + j) i = S (70 + j) i) : EC S' = EC S := by
  funext k i
  have e6 : ∀ j, j < 10 → S' (60 + j) = S (60 + j) := fun j hj => h0 _ (by omega)
  unfold EC
  by_cases q : i < 8
  · rw [h7 i (by omega) 1 (by decide), h7 i (by omega) 2 (by decide), h7 i (by omega) 3 (by decide), h7 i (by omega) 4 (by decide), h0 30 (by omega), h0 1 (by omega), h0 51 (by omega), h0 50 (by omega), e6 i (by omega)]
  · by_cases q2 : i < 10
    · simp only [q, if_false]
      rw [h0 30 (by omega), h0 1 (by omega), h0 51 (by omega), h0 50 (by omega), e6 i q2]
    · simp only [q, q2, if_false]
      rw [h0 30 (by omega), h0 1 (by omega), h0 51 (by omega), h0 50 (by omega)]
/-- an asked price in place of another -/
theorem KI_su5 (K : KI S) {j : Nat} (hj : j < 8) {p : Int} : KI (su S (70 + j) 5 p) ∧ EC (su S (70 + j) 5 p) = EC S := by
  have h0 : ∀ k, k ≠ 70 + j → su S (70 + j) 5 p k = S k := fun k hk => su_row _ _ hk
  have h7 : ∀ i, i ≠ 5 → ∀ k, su S (70 + j) 5 p k i = S k i := fun i hi k => su_nei _ _ _ hi
  have eC : EC (su S (70 + j) 5 p) = EC S := EC_h7 (fun k hk => h0 k (by omega)) (fun t _ i hi => h7 i hi _)
  refine ⟨⟨⟨?_, by rw [eC]; exact K.1.2.1, fun t ht => ?_⟩, fun a b ha hb => ?_⟩, eC⟩
  · have := K.1.1
    unfold LOK at this ⊢
    rw [h0 50 (by omega), h0 51 (by omega)]; exact this
  · rw [h7 2 (by decide)] at ht
    rw [h7 0 (by decide)]; exact K.1.2.2 t ht
  · rw [h7 2 (by decide)] at ha hb
    rw [h0 31 (by omega), eC]; exact K.2 a b ha hb
theorem KI_su1 (K : KI S) {r : Int} (hr : 0 ≤ r ∧ r ≤ 500) : KI (su S 1 2 r) ∧ ∀ k i, k < 8 → EC (su S 1 2 r) k i = EC S k i := by
  have e : ∀ k, k ≠ 1 → su S 1 2 r k = S k := fun k hk => su_row _ _ hk
  have eK : ∀ k i, k < 8 → EC (su S 1 2 r) k i = EC S k i := fun k i hk => by
    unfold EC
    have k8 : k = 0 ∨ k = 1 ∨ k = 2 ∨ k = 3 ∨ k = 4 ∨ k = 5 ∨ k = 6 ∨ k = 7 := by omega
    rw [e 30 (by decide), e (60 + i) (by omega), e (70 + i) (by omega)]
    rcases k8 with z | z | z | z | z | z | z | z <;> subst z <;> rfl
  have e81' : EC (su S 1 2 r) 8 1 = EC S 8 1 := by show su S 1 2 r 51 2 = S 51 2; rw [e 51 (by decide)]
  have e82' : EC (su S 1 2 r) 8 2 = EC S 8 2 := by show su S 1 2 r 50 2 = S 50 2; rw [e 50 (by decide)]
  have e80' : EC (su S 1 2 r) 8 0 = r := by show su S 1 2 r 1 2 = r; rw [su_at]
  have eOK : EOK (EC (su S 1 2 r)) := by
    obtain ⟨o0, o1, o2, o3, o4, o5, o6, o7, o8, o9, o10⟩ := K.1.2.1
    refine ⟨fun i => by rw [eK 0 i (by decide)]; exact o0 i, fun i => by rw [eK 1 i (by decide)]; exact o1 i, fun i => by rw [eK 2 i (by decide)]; exact o2 i, fun i => by rw [eK 3 i (by decide)]; exact o3 i, fun i => by rw [eK 4 i (by decide), e81', e82']; exact o4 i, fun i => by rw [eK 5 i (by decide), e81', e82']; exact o5 i, fun i => by rw [eK 6 i (by decide)]; exact o6 i, fun i => by rw [eK 7 i (by decide)]; exact o7 i, by rw [e80']; exact hr, by rw [e81']; exact o9, by rw [e82']; exact o10⟩
  refine ⟨⟨⟨?_, eOK, fun j hj => ?_⟩, fun a b ha hb => ?_⟩, eK⟩
  · have := K.1.1
    unfold LOK at this ⊢
    rw [e 50 (by decide), e 51 (by decide)]; exact this
  · rw [e 51 (by decide)] at hj
    rw [e (70 + j) (by omega)]; exact K.1.2.2 j hj
  · rw [e 50 (by decide)] at ha hb
    rw [e 31 (by decide), lossE_cg (fun k hk => ⟨eK k a (by omega), eK k b (by omega)⟩) (funext fun i => eK 3 i (by decide))]; exact K.2 a b ha hb
/-- a ground more: nothing that is said changes -/
theorem LB.gr (L : LB G S n m) (k1 : KI S') (d1 : dg S') (f : ∀ k, k ≠ 30 → k ≠ 31 → S' k = S k) (hm : m = 0) : LB G S' n m := by
  obtain ⟨-, -, l3, l4, l5, l6, l7, l8⟩ := L
  refine ⟨k1, d1, ?_, fun k hk => ?_, ?_, ?_, fun j hj => by omega, fun j h1 h2 => ?_⟩
  · unfold L3; rw [f 50 (by decide) (by decide), f 51 (by decide) (by decide), f 81 (by decide) (by decide)]; exact l3
  · rw [f k (fun z => hk (by unfold lkb; omega)) (fun z => hk (by unfold lkb; omega))]; exact l4 k hk
  · rw [f 50 (by decide) (by decide)]; exact l5
  · rw [f 51 (by decide) (by decide)]; exact l6
  · rw [f _ (by omega) (by omega)]; exact l8 j h1 h2
/-- a site more -/
theorem LB.si (L : LB G S n 0) (hn : n < 10) {r : Nat → Int} (k1 : KI S') (d1 : dg S') (f : ∀ k, k ≠ 31 → S' k = lsu S 50 60 r k) : LB G S' (n + 1) 0 := by
  obtain ⟨-, -, l3, l4, l5, l6, l7, l8⟩ := L
  have g : ∀ k, k ≠ 31 → k ≠ 50 → k ≠ 60 + n → S' k = S k := fun k a b d => by rw [f k a, lsu_k b (by omega)]
  have s2 : S' 50 2 = S 50 2 + 1 := by rw [f 50 (by decide), lsu_2]
  have s3 : S' 50 3 = 10 := by rw [f 50 (by decide), lsu_3]
  refine ⟨k1, d1, ?_, fun k hk => ?_, by omega, ?_, fun j hj => by omega, fun j h1 h2 => ?_⟩
  · unfold L3 at l3 ⊢
    rw [s3, s2, g 51 (by decide) (by decide) (by omega), g 81 (by decide) (by decide) (by omega)]
    exact ⟨by rw [if_neg (by omega)], l3.2⟩
  · rw [g k (fun z => hk (by unfold lkb; omega)) (fun z => hk (by unfold lkb; omega)) (fun z => hk (by unfold lkb; omega))]; exact l4 k hk
  · rw [g 51 (by decide) (by decide) (by omega)]; exact l6
  · rw [g _ (by omega) (by omega) (by omega)]; exact l8 j h1 h2
theorem statR_4 {n a b p q : Int} : statR n a b p q 4 = q := rfl
/-- a station more, with its asked price -/
theorem LB.st (L : LB G S n m) (hm : m < 6) {a b p : Int} (hE : KI (lsu S 51 70 (statR (S 51 2) a b p (bI (prt G m))))) : LB G (su (lsu S 51 70 (statR (S 51 2) a b p (bI (prt G m)))) (70 + m) 5 (pk G (170 + m) 60)) n (m + 1) := by
  obtain ⟨-, d0, l3, l4, l5, l6, l7, l8⟩ := L
  obtain ⟨S1, hS1⟩ : ∃ S1, S1 = lsu S 51 70 (statR (S 51 2) a b p (bI (prt G m))) := ⟨_, rfl⟩
  have es := EC_stat (S := S) (n := m) l6 (by omega) (r := statR (S 51 2) a b p (bI (prt G m)))
  rw [← hS1] at hE es ⊢
  obtain ⟨k1, eC⟩ := KI_su5 hE (j := m) (by omega) (p := pk G (170 + m) 60)
  have g1 : ∀ k, k ≠ 51 → k ≠ 70 + m → S1 k = S k := fun k x y => by rw [hS1, lsu_k x (by omega)]
  have g : ∀ k, k ≠ 51 → k ≠ 70 + m → su S1 (70 + m) 5 (pk G (170 + m) 60) k = S k := fun k x y => by rw [su_row _ _ y, g1 k x y]
  have g5 : su S1 (70 + m) 5 (pk G (170 + m) 60) 51 = S1 51 := su_row _ _ (by omega)
  have s2 : S1 51 2 = S 51 2 + 1 := by rw [hS1, lsu_2]
  have s3 : S1 51 3 = 10 := by rw [hS1, lsu_3]
  refine ⟨k1, fun x hx => ?_, ?_, fun k hk => ?_, ?_, by rw [g5]; omega, fun j hj => ?_, fun j h1 h2 => ?_⟩
  · rw [g 31 (by decide) (by omega)]; exact d0 x hx
  · unfold L3 at l3 ⊢
    rw [g5, s3, s2, g 50 (by decide) (by omega), g 81 (by decide) (by omega)]
    exact ⟨l3.1, by rw [if_neg (by omega)], l3.2.2⟩
  · rw [g k (fun z => hk (by unfold lkb; omega)) (fun z => hk (by unfold lkb; omega))]; exact l4 k hk
  · rw [g 50 (by decide) (by omega)]; exact l5
  · rw [eC, es.2.2.2.2.1 j]
    by_cases w : j = m
    · subst w
      rw [if_pos rfl, su_at, statR_4]
      exact ⟨rfl, rfl⟩
    · rw [if_neg w, g _ (by omega) (by omega)]
      exact l7 j (by omega)
  · rw [g _ (by omega) (by omega)]; exact l8 j (by omega) h2
end LBS
