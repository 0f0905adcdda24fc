/-! a buying: nobody pays less than nothing, nor more than it is worth -/
theorem sm_mono {f g : Nat → Int} {n : Nat} (h : ∀ i, i < n → f i ≤ g i) : sm f n ≤ sm g n := by
  induction n with
  | zero => exact Int.le_refl _
  | succ n ih =>
    have a := ih (fun i hi => h i (by omega))
    have b := h n (by omega)
    show sm f n + f n ≤ sm g n + g n
    omega
theorem sm_pos {f : Nat → Int} {n : Nat} (h : ∀ i, i < n → 0 ≤ f i) : 0 ≤ sm f n := by
  induction n with
  | zero => exact Int.le_refl _
  | succ n ih =>
    have a := ih (fun i hi => h i (by omega))
    have b := h n (by omega)
    show 0 ≤ sm f n + f n
    omega
theorem wof_mono {w : Nat → Int} (hW : WK w) {b : Nat} (hb : b < 4) {t u : Nat} (h : t ≤ u) (hu : u ≤ 3) : wof w b t ≤ wof w b u := by
  induction u with
  | zero => rw [show t = 0 by omega]; exact Int.le_refl _
  | succ u ih =>
    by_cases y : t = u + 1
    · rw [y]; exact Int.le_refl _
    · have a := ih (by omega) (by omega)
      have k := (wk_at hW hb (k := u) (by omega)).1
      show wof w b t ≤ wof w b u + w (b * 3 + u)
      omega
theorem due_pos {w : Nat → Int} (hW : WK w) {n x : Nat} (hn : n ≤ 4) (C : Nat) : 0 ≤ woo w (dl w x n C) x n - woo w (dl w (-1) n C) x n := by
  have m := (gs_mono hW x hn C).1
  have k : woo w (dl w (-1) n C) x n ≤ woo w (dl w x n C) x n := by
    unfold woo
    refine sm_mono (fun i hi => ?_)
    by_cases y : i = x
    · show (if i = x then (0 : Int) else _) ≤ (if i = x then (0 : Int) else _)
      rw [if_pos y, if_pos y]; exact Int.le_refl _
    · show (if i = x then (0 : Int) else _) ≤ (if i = x then (0 : Int) else _)
      rw [if_neg y, if_neg y]
      have a := m i hi y
      have d1 := dl_in hW (-1) hn C i
      have d2 := dl_in hW x hn C i
      exact wof_mono hW (by omega) (by omega) (by omega)
  omega
section BOU
variable {G : Gx} {A : Nat → Nat} {B : Nat → Nat → Nat} {S : Nat → Nat → Int} {h : hw} {c : Nat} {post : Int32 → hw → Prop}
theorem wo_at (I : VI G S c) {i j : Nat} (hi : i < 4) (hj : j < 3) : S 46 (i * 3 + j) = pk G (190 + 3 * i) 90 / ((j + 1 : Nat) : Int) := by
  have w := vi_wo I i hi
  have j3 : j = 0 ∨ j = 1 ∨ j = 2 := by omega
  rcases j3 with z | z | z <;> subst z
  · rw [Nat.add_zero, w.1]
    exact (Int.ediv_one _).symm
  · exact w.2.1
  · exact w.2.2
theorem Pic.d13 (P : Pic G A B S h) (I : VI G S c) {C : Nat} (hC : C ≤ 8) {x y : Int32} (hx : x = ii (C : Int)) (q : ∀ S' h', Pic G A B S' h' → VI G S' c → S' 3 1 = S 3 1 → S' 8 = S 8 → (∀ i, i < 4 → 0 ≤ S' 44 i ∧ S' 44 i ≤ 3 ∧ 0 ≤ S' 45 i ∧ S' 45 i ≤ wof (S' 46) i (S' 44 i).toNat) → (0 ≤ sm (S' 44) 4 ∧ sm (S' 44) 4 ≤ C) → post (ii (sm (S' 44) 4)) h') : wp_L_ask G (A 0) 13 x y h post := by
  subst hx
  have hW := (vi_bd I).2
  have n4 : nB S = 4 := by show (S 7 2).toNat = 4; rw [vi_72 I]; rfl
  refine deed_13 (P.o (k := 0) rfl) ?_
  refine P.c_buy (vi_bd I) (rg_n (by omega)) (fun _ S' h' P' k e44 e45 _ => ?_) (fun z => absurd ⟨by omega, by omega⟩ z)
  have e44 : ∀ i, i < 4 → S' 44 i = dl (S 46) (-1) (nB S) C i := e44
  have e45 : ∀ i, i < nB S → S' 45 i = woo (S 46) (dl (S 46) i (nB S) C) i (nB S) - woo (S 46) (dl (S 46) (-1) (nB S) C) i (nB S) := e45
  have el : ∀ i, (i < 44 ∨ i = 46 ∨ 47 < i) → S' i = S i := fun i hi => k i (fun z => by unfold kb at z; omega)
  have hf : ∀ i, fxk i → S' i = S i := fun i hi => el i (by unfold fxk at hi; omega)
  have e46 : S' 46 = S 46 := el 46 (by decide)
  have f4 : ∀ i, i < 4 → 0 ≤ S' 44 i ∧ S' 44 i ≤ 3 ∧ 0 ≤ S' 45 i ∧ S' 45 i ≤ wof (S' 46) i (S' 44 i).toNat := fun i hi => by
    have d := dl_in hW (-1) (n := nB S) (by omega) C i
    have p := due_pos hW (n := nB S) (x := i) (by omega) C
    have l := (due_le hW (n := nB S) (x := i) (by omega) (by omega) C).1
    rw [e46, e44 i hi, e45 i (by omega)]
    exact ⟨d.1, d.2.1, p, l⟩
  have es : sm (dl (S 46) (-1) (nB S) C) (nB S) = sm (S' 44) 4 := by
    rw [n4]
    refine sm_of (fun i hi => ?_)
    rw [e44 i hi, n4]
  have I' : VI G S' c := by
    obtain ⟨i1, i2, i3, i4, i5, i6, i7, i8⟩ := I
    refine ⟨fx_of hf i1, rx_of hf (fun i hi => el i (by unfold kg at hi; omega)) (el 8 (by decide)) i2, br_of (el 3 (by decide)) (el 36 (by decide)) (el 37 (by decide)) (el 38 (by decide)) i3, se_of hf (el 6 (by decide)) (el 42 (by decide)) (el 43 (by decide)) i4, ⟨fun i hi => ?_, fun i h1 h2 => ?_⟩, mv_of (el 8 (by decide)) (el 48 (by decide)) i6, by rw [el 39 (by decide)]; exact i7, by rw [el 49 (by decide)]; exact i8⟩
    · have f := f4 i hi
      exact ⟨f.1, f.2.1, by omega, f.2.2.2⟩
    · have n4' : nB S' = 4 := by rw [← n4]; unfold nB; rw [el 7 (by decide)]
      omega
  have s1 : sm (S' 44) 4 ≤ C := by rw [← es]; exact (dl_sum hW (-1) (n := nB S) (by omega) C).1
  have s0 : 0 ≤ sm (S' 44) 4 := sm_pos (fun i hi => (f4 i hi).1)
  show post (ii (sm (dl (S 46) (-1) (nB S) C) (nB S))) h'
  rw [es]
  exact q S' h' P' I' (by rw [el 3 (by decide)]) (el 8 (by decide)) f4 ⟨s0, s1⟩
theorem Pic.bougt (P : Pic G A B S h) (I : VI G S c) (hL : GsL G ≤ 260) {i : Nat} (hi : i ≤ 1000) {x : Int32} (hx : x = ii (i : Int)) {bc bs : Nat} (hbc : 100 ≤ bc) (hbs : 700 ≤ bs) (q : ∀ S' h', Pic G A B S' h' → VI G S' c → S' 3 1 = S 3 1 → S' 8 = S 8 → post 1 h') : wp_L_isBought G (A 0) (Gsb G) x h bc bs post := by
  subst hx
  refine pick_of (i := i) (m := 9) hL (by omega) ⟨by decide, by decide⟩ rfl (by decide) (fun a0 a1 => ?_)
  refine ⟨by omega, by omega, ?_⟩
  obtain ⟨C, hC⟩ : ∃ C : Nat, pk G i 9 = C := ⟨(pk G i 9).toNat, by omega⟩
  rw [hC]
  refine P.d13 I (C := C) (by omega) rfl (fun S1 h1 P1 I1 g3 g8 f4 sc => ?_)
  intro J32 h32
  have g : J32 1 := by
    refine h32 1 ?_
    intro J37 h37
    have hW := (vi_bd I1).2
    have m1 : ∀ k : Nat, k ≤ 4 → ∀ uc us : Nat, uc ≤ 5 + 20 * k → us ≤ 34 + 136 * k → J37 (ii (sm (S1 44) k)) 1 (ii (k : Int)) h1 uc us := by
      intro k hk
      refine lp_up (J := fun k : Nat => ∀ uc us : Nat, uc ≤ 5 + 20 * k → us ≤ 34 + 136 * k → J37 (ii (sm (S1 44) k)) 1 (ii (k : Int)) h1 uc us) (n := 4) ?_ ?_ hk
      · intro uc us hu hs
        refine h37 _ _ _ _ _ _ ⟨by omega, by omega, ?_⟩
        refine P1.k30 I1 (i := 4) (by decide) rfl (fun z => absurd z (by decide)) (fun _ => ?_)
        intro J168 h168
        have g : J168 := by
          refine h168 ?_
          intro J184 _
          exact ⟨fun z => absurd z (by decide), fun _ => ⟨fun z => absurd rfl z, fun _ => ⟨by omega, by omega, q S1 h1 P1 I1 g3 g8⟩⟩⟩
        exact ⟨fun _ => g, fun z => absurd rfl z⟩
      · intro k hk ih uc us hu hs
        obtain ⟨f1, f2, f3, f5⟩ := f4 k hk
        have wb := wof_in hW hk (t := (S1 44 k).toNat) (by omega)
        refine h37 _ _ _ _ _ _ ⟨by omega, by omega, ?_⟩
        refine P1.k30 I1 (i := k) (by omega) rfl (fun _ => ?_) (fun z => absurd z (by omega))
        intro J168 _
        rw [iieq (a := S1 44 k) im1 ⟨by omega, by omega⟩ ⟨by decide, by decide⟩]
        refine ⟨fun z => absurd z (by omega), fun _ => ⟨fun z => absurd z (by decide), fun _ => ⟨by omega, by omega, ?_⟩⟩⟩
        refine P1.k30 I1 (i := k) (by omega) rfl (fun _ => ?_) (fun z => absurd z (by omega))
        have e5 : ii (sm (S1 44) k) + ii (S1 44 k) = ii (sm (S1 44) (k + 1)) := by rw [ii_add]; rfl
        rw [e5, ii_inc' k]
        intro J74 h74
        obtain ⟨t, ht⟩ : ∃ t : Nat, S1 44 k = t := ⟨(S1 44 k).toNat, by omega⟩
        have ht' : (S1 44 k).toNat = t := by rw [ht]; rfl
        rw [ht'] at f5 wb
        rw [ht] at f1 f2 h74
        have m2 : ∀ j : Nat, j ≤ t → J74 (ii (wof (S1 46) k j)) (ii (j : Int)) := by
          intro j hj
          refine lp_up (J := fun j : Nat => J74 (ii (wof (S1 46) k j)) (ii (j : Int))) (n := t) ?_ ?_ hj
          · refine h74 _ _ ⟨fun _ => ?_, fun z => absurd (Int32.le_refl _) z⟩
            intro J160 h160 J159 _
            rw [iilt (a := (t : Int)) (b := 0) rfl il_0 ⟨by omega, by omega⟩ ⟨by omega, by omega⟩, iilt (a := 3) (b := (t : Int)) il_3 rfl ⟨by omega, by omega⟩ ⟨by omega, by omega⟩]
            refine ⟨fun z => absurd z (by omega), fun _ => ⟨fun z => absurd z (by omega), fun _ => ⟨by omega, by omega, ?_⟩⟩⟩
            refine P1.k31 I1 hk rfl ?_
            rw [iilt (a := S1 45 k) (b := 0) rfl il_0 ⟨by omega, by omega⟩ ⟨by omega, by omega⟩]
            refine ⟨fun z => absurd z (by omega), fun _ => ⟨by omega, by omega, ?_⟩⟩
            refine P1.k31 I1 hk rfl ?_
            rw [iilt (a := wof (S1 46) k t) (b := S1 45 k) rfl rfl ⟨by omega, by omega⟩ ⟨by omega, by omega⟩]
            exact ⟨fun z => absurd z (by omega), fun _ => h160 _ _ _ _ (ih _ _ (by omega) (by omega))⟩
          · intro j hj ih2
            refine h74 _ _ ?_
            rw [iile (a := (t : Int)) (b := (j : Int)) rfl rfl ⟨by omega, by omega⟩ ⟨by omega, by omega⟩, ii_inc' j]
            refine ⟨fun z => absurd z (by omega), fun _ => ?_⟩
            refine pick_of (i := 190 + 3 * k) (m := 90) hL (by omega) ⟨by decide, by decide⟩ (by rw [show (190 : Int32) = ii 190 by decide, il_3, ii_mul, ii_add]; exact congrArg ii (by omega)) (by decide) (fun b0 b1 => ?_)
            refine ⟨fun z => ?_, ?_⟩
            · rw [il_0, ii_eq ⟨by omega, by omega⟩ ⟨by omega, by omega⟩] at z; omega
            · rw [ii_div ⟨by omega, by omega⟩ ⟨by omega, by omega⟩ (by omega), Int.tdiv_eq_ediv_of_nonneg b0, ← wo_at I1 hk (j := j) (by omega), ii_add]
              exact ih2
        exact m2 0 (by omega)
    exact m1 0 (by decide) _ _ (by omega) (by omega)
  rw [iilt (a := (C : Int)) (b := sm (S1 44) 4) rfl rfl ⟨by omega, by omega⟩ ⟨by omega, by omega⟩]
  exact ⟨fun z => absurd z (by omega), fun _ => g⟩
end BOU
