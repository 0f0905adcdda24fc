/-! four bidders; then all stands -/
section BID
variable {G : Gx} {S S' : Nat → Nat → Int}
theorem up3_ne {f : Nat → Int} {a b c i : Nat} {x y z : Int} (h1 : i ≠ a) (h2 : i ≠ b) (h3 : i ≠ c) : up (up (up f a x) b y) c z i = f i := by rw [up_ne h3, up_ne h2, up_ne h1]
theorem LF.ad {i : Nat} (L : LF G S i) (hi : i < 4) (f : ∀ k, k ≠ 7 → k ≠ 46 → S' k = S k) (e46 : S' 46 = up (up (up (S 46) (nB S * 3) (pk G (190 + 3 * i) 90)) (nB S * 3 + 1) (pk G (190 + 3 * i) 90 / 2)) (nB S * 3 + 2) (pk G (190 + 3 * i) 90 / 3)) (e7 : S' 7 2 = S 7 2 + 1) : LF G S' (i + 1) := by
  obtain ⟨l1, l2, l3, l4, l5, l6, l7, ⟨l8, l9⟩, l10, l11⟩ := L
  have en : nB S = i := by show (S 7 2).toNat = i; rw [l10]; rfl
  rw [en] at e46
  have w := pkk_in G (190 + 3 * i) (m := 90) (by decide)
  have ek : ∀ k, kl k → S' k = S k := fun k hk => f k (by unfold kl at hk; omega) (by unfold kl at hk; omega)
  have eC : EC S' = EC S := EC_of ek
  have a0 : S' 46 (i * 3) = pk G (190 + 3 * i) 90 := by rw [e46, up_ne (by omega), up_ne (by omega), up_at]
  have a1 : S' 46 (i * 3 + 1) = pk G (190 + 3 * i) 90 / 2 := by rw [e46, up_ne (by omega), up_at]
  have a2 : S' 46 (i * 3 + 2) = pk G (190 + 3 * i) 90 / 3 := by rw [e46, up_at]
  have ot : ∀ t u, t ≠ i → u < 3 → S' 46 (t * 3 + u) = S 46 (t * 3 + u) := fun t u ht hu => by rw [e46, up3_ne (by omega) (by omega) (by omega)]
  have o0 : ∀ t, t ≠ i → S' 46 (t * 3) = S 46 (t * 3) := fun t ht => ot t 0 ht (by decide)
  refine ⟨l1.of ek (f 31 (by decide) (by decide)), fun k hk => ?_, ?_, ?_, fun j hj => ?_, fun j h1 h2 => ?_, fun j hj => ?_, ⟨?_, fun t ht => ?_⟩, ?_, fun t ht => ?_⟩
  · rw [f k (fun z => hk (by unfold lkx; omega)) (fun z => hk (by unfold lkx; omega))]; exact l2 k hk
  · rw [f 50 (by decide) (by decide)]; exact l3
  · rw [f 51 (by decide) (by decide)]; exact l4
  · rw [eC, f _ (by omega) (by omega)]; exact l5 j hj
  · rw [f _ (by omega) (by omega)]; exact l6 j h1 h2
  · rw [f 36 (by decide) (by decide)]; exact l7 j hj
  · omega
  · by_cases y : t = i
    · rw [y, a0, a1, a2]; omega
    · rw [o0 t y, ot t 1 y (by decide), ot t 2 y (by decide)]; exact l9 t ht
  · omega
  · by_cases y : t = i
    · rw [y]; exact ⟨a0, a1, a2⟩
    · rw [o0 t y, ot t 1 y (by decide), ot t 2 y (by decide)]; exact l11 t (by omega)
theorem vi_0 (L : LF G S 4) : VI G S 0 := by
  obtain ⟨l1, l2, l3, l4, l5, l6, l7, l8, l10, l11⟩ := L
  have o : ∀ k, (k < 50 ∧ k ≠ 1 ∧ k ≠ 30 ∧ k ≠ 31 ∧ k ≠ 36 ∧ k ≠ 7 ∧ k ≠ 46) → S k = S0i k := fun k hk => l2 k (fun z => by unfold lkx lkb at z; omega)
  have cm : ∀ k, 30 ≤ k ∧ k < 50 → chs (S0i k) := fun k hk i => by rcases S0_in hk i with z | z <;> rw [z] <;> decide
  have e32 : ∀ j, j < 8 → S0i 32 j = -1 := fun j hj => by rw [S0_30 ⟨by decide, by decide⟩]; exact if_pos hj
  have e33 : ∀ i, S0i 33 i = 0 := S0_nz ⟨by decide, by decide⟩ rfl
  have e34 : ∀ i, S0i 34 i = 0 := S0_nz ⟨by decide, by decide⟩ rfl
  have e42 : ∀ j, j < 8 → S0i 42 j = -1 := fun j hj => by rw [S0_30 ⟨by decide, by decide⟩]; exact if_pos hj
  have e43 : ∀ i, S0i 43 i = 0 := S0_nz ⟨by decide, by decide⟩ rfl
  have e44 : ∀ i, S0i 44 i = 0 := S0_nz ⟨by decide, by decide⟩ rfl
  have e45 : ∀ i, S0i 45 i = 0 := S0_nz ⟨by decide, by decide⟩ rfl
  have e48 : ∀ j, j < 8 → S0i 48 j = -1 := fun j hj => by rw [S0_30 ⟨by decide, by decide⟩]; exact if_pos hj
  have e31 : S0i 3 1 = 0 := rfl
  have e63 : S0i 6 3 = 0 := rfl
  have r0 : RI S0i 0 := ⟨fun s _ => ⟨by rw [e33]; decide, by rw [e33]; decide, fun z => by rw [e33] at z; omega⟩, fun i => by rw [e34, e31]; decide, cm 35 ⟨by decide, by decide⟩, cm 32 ⟨by decide, by decide⟩, fun s hs d _ => by
      rw [e32 s hs]; unfold LC; rw [e33]; rfl, by rw [e31]; decide, fun i hi => by rw [S0_30 ⟨by decide, by decide⟩]; exact if_neg (show ¬ i < 8 by omega)⟩
  have n6 : nt (EC S) = 6 := by show (S 51 2).toNat = 6; rw [l4]; rfl
  have off : ∀ j, j < 8 → S 32 j = -1 := fun j hj => by rw [o 32 (by decide)]; exact e32 j hj
  refine ⟨⟨l1, fun j hj => ?_, l8, l3, l4, fun j hj => (l5 j hj).1, fun j hj => (l5 j hj).2, l10, l11⟩, ⟨r0.of (fun k hk => o k (by unfold kg at hk; omega)), fun _ i hi _ hc => absurd (off i (by omega)) hc, fun j _ hj => off j hj⟩, ⟨l7, ?_, ?_, ?_⟩, ⟨fun j hj => ?_, fun j hj => ?_, ?_, ?_, fun j hj => ?_⟩, ⟨fun i hi => ?_, fun i _ hi => ?_⟩, ⟨?_, fun j hj => ?_⟩, ?_, ?_⟩
  · by_cases y : j < 6
    · have w := pkk_in G (170 + j) (m := 60) (by decide)
      rw [(l5 j y).2]; omega
    · rw [l6 j (by omega) hj]; decide
  · rw [o 37 (by decide), o 3 (by decide)]; exact BR_0.2.1
  · rw [o 38 (by decide)]; exact BR_0.2.2.1
  · rw [o 3 (by decide)]; exact BR_0.2.2.2
  · rw [o 42 (by decide), o 43 (by decide)]
    exact ⟨by rw [e43]; decide, fun z => absurd (e42 j hj) z⟩
  · rw [o 42 (by decide), e42 j hj]; decide
  · rw [o 6 (by decide)]; exact Or.inl rfl
  · rw [o 6 (by decide)]; decide
  · rw [o 6 (by decide), e63, ← il_0, b_0] at hj; cases hj
  · rw [o 44 (by decide), o 45 (by decide), e44, e45]
    exact ⟨by decide, by decide, by decide, Int.le_refl _⟩
  · rw [o 44 (by decide), o 45 (by decide)]; exact ⟨e44 i, e45 i⟩
  · rw [o 8 (by decide)]; exact Or.inl rfl
  · rw [o 48 (by decide), e48 j hj]; decide
  · rw [o 39 (by decide)]; exact cm 39 ⟨by decide, by decide⟩
  · rw [o 49 (by decide)]; exact cm 49 ⟨by decide, by decide⟩
end BID
