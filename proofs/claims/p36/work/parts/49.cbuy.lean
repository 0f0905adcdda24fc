/-! buying: the highest next worth gets a channel, one behind the other -/
def nxw (w t : Nat → Int) (i : Nat) : Int := if t i < 3 then w (i * 3 + (t i).toNat) else 0
def hbst (w : Nat → Int) (wo : Int) (t : Nat → Int) : Nat → Int × Int
  | 0 => (-1, 0)
  | i + 1 => if (i : Int) ≠ wo ∧ (hbst w wo t i).2 < nxw w t i then ((i : Int), nxw w t i) else hbst w wo t i
def dl (w : Nat → Int) (wo : Int) (n : Nat) : Nat → Nat → Int
  | 0 => fun _ => 0
  | c + 1 => if (hbst w wo (dl w wo n c) n).1 = -1 then dl w wo n c else up (dl w wo n c) (hbst w wo (dl w wo n c) n).1.toNat (dl w wo n c (hbst w wo (dl w wo n c) n).1.toNat + 1)
/-- what the first t are worth -/
def wof (w : Nat → Int) (b : Nat) : Nat → Int
  | 0 => 0
  | t + 1 => wof w b t + w (b * 3 + t)
def sm (f : Nat → Int) : Nat → Int
  | 0 => 0
  | n + 1 => sm f n + f n
/-- all that was handed out, by what it was worth -/
def gs (w : Nat → Int) (wo : Int) (n : Nat) : Nat → Int
  | 0 => 0
  | c + 1 => gs w wo n c + (hbst w wo (dl w wo n c) n).2
/-- worths don't rise -/
def WK (w : Nat → Int) : Prop := ∀ i, i < 4 → 0 ≤ w (i * 3 + 2) ∧ w (i * 3 + 2) ≤ w (i * 3 + 1) ∧ w (i * 3 + 1) ≤ w (i * 3) ∧ w (i * 3) ≤ 9999
theorem dl_s {w : Nat → Int} {wo : Int} {n c : Nat} : dl w wo n (c + 1) = if (hbst w wo (dl w wo n c) n).1 = -1 then dl w wo n c else up (dl w wo n c) (hbst w wo (dl w wo n c) n).1.toNat (dl w wo n c (hbst w wo (dl w wo n c) n).1.toNat + 1) := rfl
theorem gs_s {w : Nat → Int} {wo : Int} {n c : Nat} : gs w wo n (c + 1) = gs w wo n c + (hbst w wo (dl w wo n c) n).2 := rfl
section BM
variable {w : Nat → Int}
theorem sm_of {f g : Nat → Int} {n : Nat} (h : ∀ i, i < n → f i = g i) : sm f n = sm g n := by
  induction n with
  | zero => rfl
  | succ n ih => unfold sm; rw [ih (fun i hi => h i (by omega)), h n (by omega)]
theorem sm_up {f : Nat → Int} {n i : Nat} {v : Int} (hi : i < n) : sm (up f i v) n = sm f n + (v - f i) := by
  induction n with
  | zero => omega
  | succ n ih =>
    unfold sm
    by_cases c : i = n
    · subst c
      rw [up_at, sm_of (g := f) (fun j hj => up_ne (by omega))]; omega
    · rw [ih (by omega), up_ne (by omega)]; omega
theorem hbst_in (wo : Int) (t : Nat → Int) (n : Nat) : ((hbst w wo t n).1 = -1 ∧ (hbst w wo t n).2 = 0 ∧ ∀ i : Nat, i < n → (i : Int) ≠ wo → nxw w t i ≤ 0) ∨ (∃ b : Nat, b < n ∧ (hbst w wo t n).1 = b ∧ (b : Int) ≠ wo ∧ (hbst w wo t n).2 = nxw w t b ∧ 0 < nxw w t b ∧ (∀ i : Nat, i < n → (i : Int) ≠ wo → nxw w t i ≤ nxw w t b) ∧ ∀ i : Nat, i < b → (i : Int) ≠ wo → nxw w t i < nxw w t b) := by
  induction n with
  | zero => exact Or.inl ⟨rfl, rfl, fun i hi => by omega⟩
  | succ n ih =>
    unfold hbst
    by_cases c : (n : Int) ≠ wo ∧ (hbst w wo t n).2 < nxw w t n
    · rw [if_pos c]
      refine Or.inr ⟨n, by omega, rfl, c.1, rfl, ?_, ?_, ?_⟩
      · rcases ih with ⟨-, h2, -⟩ | ⟨b, -, -, -, h2, h3, -⟩ <;> omega
      · intro i hi hW
        by_cases y : i = n
        · rw [y]; omega
        · rcases ih with ⟨-, h2, h3⟩ | ⟨b, -, -, -, h2, h3, h4, -⟩
          · have := h3 i (by omega) hW; omega
          · have := h4 i (by omega) hW; omega
      · intro i hi hW
        rcases ih with ⟨-, h2, h3⟩ | ⟨b, -, -, -, h2, h3, h4, -⟩
        · have := h3 i (by omega) hW; omega
        · have := h4 i (by omega) hW; omega
    · rw [if_neg c]
      rcases ih with ⟨h1, h2, h3⟩ | ⟨b, h0, h1, h2, h3, h4, h5, h6⟩
      · refine Or.inl ⟨h1, h2, fun i hi hW => ?_⟩
        by_cases y : i = n
        · subst y
          apply Int.not_lt.mp
          intro z
          exact c ⟨hW, by omega⟩
        · exact h3 i (by omega) hW
      · refine Or.inr ⟨b, by omega, h1, h2, h3, h4, fun i hi hW => ?_, h6⟩
        by_cases y : i = n
        · subst y
          apply Int.not_lt.mp
          intro z
          exact c ⟨hW, by omega⟩
        · exact h5 i (by omega) hW
theorem dl_in (hW : WK w) (wo : Int) {n : Nat} (hn : n ≤ 4) (c : Nat) : ∀ i, 0 ≤ dl w wo n c i ∧ dl w wo n c i ≤ 3 ∧ (n ≤ i → dl w wo n c i = 0) ∧ ((i : Int) = wo → dl w wo n c i = 0) := by
  induction c with
  | zero => intro i; exact ⟨by show (0 : Int) ≤ 0; omega, by show (0 : Int) ≤ 3; omega, fun _ => rfl, fun _ => rfl⟩
  | succ c ih =>
    intro i
    rw [dl_s]
    rcases hbst_in (w := w) wo (dl w wo n c) n with ⟨h1, -⟩ | ⟨b, h0, h1, h2, h3, h4, -⟩
    · rw [if_pos h1]; exact ih i
    · rw [if_neg (by omega), h1, Int.toNat_natCast]
      have ib := ih b
      have : dl w wo n c b < 3 := by
        unfold nxw at h4
        split at h4
        · assumption
        · omega
      by_cases y : i = b
      · subst y
        rw [up_at]
        exact ⟨by omega, by omega, fun z => by omega, fun z => by omega⟩
      · rw [up_ne y]; exact ih i
theorem gs_eq (hW : WK w) (wo : Int) {n : Nat} (hn : n ≤ 4) (c : Nat) : gs w wo n c = sm (fun i => wof w i (dl w wo n c i).toNat) n := by
  induction c with
  | zero =>
    have : ∀ n, sm (fun i => wof w i (dl w wo n 0 i).toNat) n = 0 := fun n => by
      have g : ∀ m, sm (fun i => wof w i (dl w wo n 0 i).toNat) m = 0 := fun m => by
        induction m with
        | zero => rfl
        | succ m ih => unfold sm; rw [ih]; rfl
      exact g n
    rw [this]; rfl
  | succ c ih =>
    rw [gs_s, ih, dl_s]
    rcases hbst_in (w := w) wo (dl w wo n c) n with ⟨h1, h2, -⟩ | ⟨b, h0, h1, h2, h3, h4, -⟩
    · rw [if_pos h1, h2]; omega
    · rw [if_neg (by omega), h1, h3, Int.toNat_natCast]
      have ib := dl_in hW wo hn c b
      have lt3 : dl w wo n c b < 3 := by
        unfold nxw at h4
        split at h4
        · assumption
        · omega
      have e : sm (fun i => wof w i (up (dl w wo n c) b (dl w wo n c b + 1) i).toNat) n = sm (up (fun i => wof w i (dl w wo n c i).toNat) b (wof w b (dl w wo n c b + 1).toNat)) n := sm_of (fun i hi => by
        by_cases y : i = b
        · subst y; rw [up_at, up_at]
        · rw [up_ne y, up_ne y])
      rw [e, sm_up h0]
      have e2 : (dl w wo n c b + 1).toNat = (dl w wo n c b).toNat + 1 := by omega
      rw [e2]
      show _ = _ + (wof w b (dl w wo n c b).toNat + w (b * 3 + (dl w wo n c b).toNat) - wof w b (dl w wo n c b).toNat)
      unfold nxw
      rw [if_pos lt3]
      omega
theorem nxw_mono (hW : WK w) {t u : Nat → Int} {i : Nat} (hi : i < 4) (h0 : 0 ≤ t i) (h : t i ≤ u i) : nxw w u i ≤ nxw w t i := by
  have g := hW i hi
  unfold nxw
  have e : t i = 0 ∨ t i = 1 ∨ t i = 2 ∨ 3 ≤ t i := by omega
  have e2 : u i = 0 ∨ u i = 1 ∨ u i = 2 ∨ 3 ≤ u i := by omega
  rcases e with e | e | e | e <;> rcases e2 with e2 | e2 | e2 | e2 <;> first | omega | (simp only [e, e2]; first | omega | (simp; omega)) | (rw [if_neg (show ¬ u i < 3 by omega)]; first | (rw [if_neg (show ¬ t i < 3 by omega)]; omega) | (rw [if_pos (show t i < 3 by omega), e]; first | (show 0 ≤ w (i * 3 + 0); omega) | (show 0 ≤ w (i * 3 + 1); omega) | (show 0 ≤ w (i * 3 + 2); omega)))
/-- without one there is no more to hand out -/
theorem gs_mono (hW : WK w) (x : Nat) {n : Nat} (hn : n ≤ 4) (c : Nat) : (∀ j, j < n → j ≠ x → dl w (-1) n c j ≤ dl w x n c j) ∧ gs w x n c ≤ gs w (-1) n c := by
  induction c with
  | zero => exact ⟨fun _ _ _ => Int.le_refl 0, Int.le_refl 0⟩
  | succ c ih =>
    obtain ⟨ih1, ih2⟩ := ih
    have nx : ∀ j, j < n → j ≠ x → nxw w (dl w x n c) j ≤ nxw w (dl w (-1) n c) j := fun j hj hx => nxw_mono hW (by omega) (dl_in hW (-1) hn c j).1 (ih1 j hj hx)
    rw [gs_s, gs_s]
    rcases hbst_in (w := w) (-1) (dl w (-1) n c) n with ⟨h1, h2, h3⟩ | ⟨b, h0, h1, h2, h3, h4, h5, h6⟩
    · rcases hbst_in (w := w) x (dl w x n c) n with ⟨g1, g2, g3⟩ | ⟨a, g0, g1, g2, g3, g4, g5, g6⟩
      · rw [dl_s, dl_s, if_pos h1, if_pos g1, h2, g2]
        exact ⟨ih1, by omega⟩
      · have := nx a g0 (by omega)
        have := h3 a g0 (by omega)
        omega
    · rcases hbst_in (w := w) x (dl w x n c) n with ⟨g1, g2, g3⟩ | ⟨a, g0, g1, g2, g3, g4, g5, g6⟩
      · refine ⟨fun j hj hx => ?_, by omega⟩
        rw [dl_s, dl_s, if_neg (by omega), if_pos g1, h1, Int.toNat_natCast]
        by_cases y : j = b
        · subst y
          rw [up_at]
          have p := g3 j hj (by omega)
          have q := ih1 j hj hx
          apply Int.not_lt.mp
          intro z
          have e : dl w (-1) n c j = dl w x n c j := by omega
          unfold nxw at p h4
          rw [e] at h4
          omega
        · rw [up_ne y]; exact ih1 j hj hx
      · have na := nx a g0 (by omega)
        have hb := h5 a g0 (by omega)
        refine ⟨fun j hj hx => ?_, by omega⟩
        rw [dl_s, dl_s, if_neg (by omega), if_neg (by omega), h1, g1, Int.toNat_natCast, Int.toNat_natCast]
        by_cases y : j = b
        · subst y
          rw [up_at]
          by_cases y2 : j = a
          · subst y2; rw [up_at]; have := ih1 j hj hx; omega
          · rw [up_ne y2]
            have q := ih1 j hj hx
            apply Int.not_lt.mp
            intro z
            have e : dl w (-1) n c j = dl w x n c j := by omega
            have e3 : nxw w (dl w (-1) n c) j = nxw w (dl w x n c) j := by unfold nxw; rw [e]
            have p := g5 j hj (by omega)
            rcases Nat.lt_or_ge a j with l | l
            · have := h6 a l (by omega); omega
            · have := g6 j (by omega) (by omega)
              omega
        · rw [up_ne y]
          have q := ih1 j hj hx
          by_cases y2 : j = a
          · subst y2; rw [up_at]; omega
          · rw [up_ne y2]; exact q
/-- how many were handed out -/
theorem dl_sum (hW : WK w) (wo : Int) {n : Nat} (hn : n ≤ 4) (c : Nat) : sm (dl w wo n c) n ≤ c ∧ ((hbst w wo (dl w wo n c) n).1 ≠ -1 → sm (dl w wo n c) n = c) := by
  induction c with
  | zero =>
    have : sm (dl w wo n 0) n = 0 := by
      have g : ∀ m, sm (dl w wo n 0) m = 0 := fun m => by
        induction m with
        | zero => rfl
        | succ m ih => unfold sm; rw [ih]; rfl
      exact g n
    rw [this]; exact ⟨by omega, fun _ => rfl⟩
  | succ c ih =>
    rw [dl_s]
    rcases hbst_in (w := w) wo (dl w wo n c) n with ⟨h1, h2, h3⟩ | ⟨b, h0, h1, h2, h3, h4, h5, h6⟩
    · rw [if_pos h1]
      exact ⟨by omega, fun z => absurd h1 z⟩
    · rw [if_neg (by omega), h1, Int.toNat_natCast, sm_up h0]
      have := ih.2 (by omega)
      exact ⟨by omega, fun _ => by omega⟩
theorem dl_stop (wo : Int) {n c d : Nat} (h : (hbst w wo (dl w wo n c) n).1 = -1) (hd : c ≤ d) : dl w wo n d = dl w wo n c := by
  obtain ⟨k, rfl⟩ : ∃ k, d = c + k := ⟨d - c, by omega⟩
  clear hd
  induction k with
  | zero => rfl
  | succ k ih =>
    show (if (hbst w wo (dl w wo n (c + k)) n).1 = -1 then dl w wo n (c + k) else _) = _
    rw [ih, if_pos h]
end BM
/-- what others' worths come to -/
def woo (w t : Nat → Int) (x : Nat) : Nat → Int := sm (fun i => if i = x then 0 else wof w i (t i).toNat)
/-- the class's bidders -/
def BD (S : Nat → Nat → Int) : Prop := (0 ≤ S 7 2 ∧ S 7 2 ≤ 4) ∧ WK (S 46)
def nB (S : Nat → Nat → Int) : Nat := (S 7 2).toNat
section CB
variable {G : Gx} {A : Nat → Nat} {B : Nat → Nat → Nat} {S : Nat → Nat → Int} {h : hw}
theorem wk_at {w : Nat → Int} (hW : WK w) {b k : Nat} (hb : b < 4) (hk : k < 3) : 0 ≤ w (b * 3 + k) ∧ w (b * 3 + k) ≤ 9999 := by
  have g := hW b hb
  have e : k = 0 ∨ k = 1 ∨ k = 2 := by omega
  rcases e with rfl | rfl | rfl
  · rw [Nat.add_zero]; omega
  · omega
  · omega
theorem nxw_in {w : Nat → Int} (hW : WK w) {t : Nat → Int} {i : Nat} (hi : i < 4) (ht : 0 ≤ t i) : 0 ≤ nxw w t i ∧ nxw w t i ≤ 9999 := by
  unfold nxw
  split
  · exact wk_at hW hi (by omega)
  · omega
theorem Pic.high (P : Pic G A B S h) (hB : BD S) {r rk : Nat} (hr : (r = 24 ∧ rk = 44) ∨ (r = 27 ∧ rk = 47)) (ht : ∀ i, i < 4 → 0 ≤ S rk i ∧ S rk i ≤ 3) {wo : Int} (hwo : -1 ≤ wo ∧ wo < 4) {x : Int32} (hx : x = ii wo) {post : Int32 → Prop} (q : post (ii (hbst (S 46) wo (S rk) (nB S)).1)) : wp_X2_highestBidder G (A 7) x (A r) h post := by
  obtain ⟨⟨b1, b2⟩, hW⟩ := hB
  have hn : S 7 2 = ((nB S : Nat) : Int) := by show S 7 2 = (((S 7 2).toNat : Nat) : Int); omega
  have hr1 : 10 ≤ r ∧ r < 30 ∧ rk = r + 20 := by omega
  have hrl : rl r = 4 := by rcases hr with ⟨rfl, -⟩ | ⟨rfl, -⟩ <;> rfl
  subst hx
  intro J hJ
  have main : ∀ i : Nat, i ≤ nB S → J (ii (hbst (S 46) wo (S rk) i).1) (ii (hbst (S 46) wo (S rk) i).2) (ii (i : Int)) := by
    intro i hi
    refine lp_up (J := fun i : Nat => J (ii (hbst (S 46) wo (S rk) i).1) (ii (hbst (S 46) wo (S rk) i).2) (ii (i : Int))) (n := nB S) ?_ ?_ hi
    · apply hJ
      refine P.rI (k := 7) rfl rfl ?_
      rw [hn, ii_le ⟨by omega, by omega⟩ ⟨by omega, by omega⟩]
      exact ⟨fun _ => q, fun z => absurd (Int.le_refl _) z⟩
    · intro i hi ih
      apply hJ
      refine P.rI (k := 7) rfl rfl ?_
      rw [hn, ii_le ⟨by omega, by omega⟩ ⟨by omega, by omega⟩]
      refine ⟨fun z => absurd z (by omega), fun _ => ?_⟩
      refine ⟨P.o (ctn_r hr1.1 hr1.2.1), P.at hr1.1 hr1.2 rfl (by omega) ?_⟩
      have hti := ht i (by omega)
      have hnx := nxw_in hW (t := S rk) (i := i) (by omega) hti.1
      intro J49 hJ49
      have step : J49 (ii (nxw (S 46) (S rk) i)) := by
        apply hJ49
        intro J71 hJ71
        have hm : 0 ≤ (hbst (S 46) wo (S rk) i).2 ∧ (hbst (S 46) wo (S rk) i).2 ≤ 9999 := by
          rcases hbst_in (w := S 46) wo (S rk) i with ⟨-, h2, -⟩ | ⟨b, h0, -, -, h2, h3, -⟩
          · omega
          · have := nxw_in hW (t := S rk) (i := b) (by omega) (ht b (by omega)).1
            omega
        have e : hbst (S 46) wo (S rk) (i + 1) = if (i : Int) ≠ wo ∧ (hbst (S 46) wo (S rk) i).2 < nxw (S 46) (S rk) i then ((i : Int), nxw (S 46) (S rk) i) else hbst (S 46) wo (S rk) i := rfl
        rw [e] at ih
        rw [ii_eq ⟨by omega, by omega⟩ ⟨by omega, by omega⟩, ii_le ⟨by omega, by omega⟩ ⟨by omega, by omega⟩]
        refine ⟨fun z => ?_, fun z => ⟨fun z2 => ?_, fun z2 => ?_⟩⟩
        · apply hJ71; rw [ii_inc']
          rw [if_neg (fun y => y.1 z)] at ih; exact ih
        · apply hJ71; rw [ii_inc']
          rw [if_neg (fun y => absurd y.2 (by omega))] at ih; exact ih
        · apply hJ71; rw [ii_inc']
          rw [if_pos ⟨z, by omega⟩] at ih; exact ih
      rw [il_3, ii_le ⟨by omega, by omega⟩ ⟨by omega, by omega⟩]
      refine ⟨fun z => ?_, fun z => ?_⟩
      · rw [il_0]
        unfold nxw at step
        rw [if_neg (by omega)] at step
        exact step
      · refine P.rR (k := 7) rfl rfl ?_
        refine ⟨P.o (ctn_r hr1.1 hr1.2.1), P.at hr1.1 hr1.2 rfl (by omega) ?_⟩
        refine ⟨P.o (k := 26) rfl, P.at (k := 26) (rk := 46) (i := i * 3 + (S rk i).toNat) (by omega) (by omega) ?_ (show _ < 12 by omega) ?_⟩
        · rw [ii_mul, ii_add]; exact congrArg ii (by omega)
        · unfold nxw at step
          rw [if_pos (by omega)] at step
          exact step
  exact main 0 (by omega)
theorem Pic.deal (P : Pic G A B S h) (hB : BD S) {r rk : Nat} (hr : (r = 24 ∧ rk = 44) ∨ (r = 27 ∧ rk = 47)) {wo : Int} (hwo : -1 ≤ wo ∧ wo < 4) {x y : Int32} (hx : x = ii wo) {C : Nat} (hC : C ≤ 8) (hy : y = ii (C : Int)) {post : Int32 → hw → Prop} (q : ∀ S' h', Pic G A B S' h' → (∀ k, k ≠ rk → S' k = S k) → (∀ i, i < 4 → S' rk i = dl (S 46) wo (nB S) C i) → post (ii (sm (dl (S 46) wo (nB S) C) (nB S))) h') : wp_X2_deal G (A 7) y x (A r) h post := by
  have hB0 := hB
  obtain ⟨⟨b1, b2⟩, hW⟩ := hB
  have hn : S 7 2 = ((nB S : Nat) : Int) := by show S 7 2 = (((S 7 2).toNat : Nat) : Int); omega
  have hr1 : 10 ≤ r ∧ r < 30 ∧ rk = r + 20 := by omega
  have hrl : rl r = 4 := by rcases hr with ⟨rfl, -⟩ | ⟨rfl, -⟩ <;> rfl
  subst hx hy
  refine ⟨P.o (ctn_r hr1.1 hr1.2.1), P.fill (rk := rk) (z := 0) hr1.1 hr1.2 il_0 (fun h1 P1 => ?_)⟩
  intro J hJ
  have main : ∀ c : Nat, c ≤ C → ∀ (S' : Nat → Nat → Int) (h' : hw), Pic G A B S' h' → (∀ k, k ≠ rk → S' k = S k) → (∀ i, i < 4 → S' rk i = dl (S 46) wo (nB S) c i) → sm (dl (S 46) wo (nB S) c) (nB S) = c → J (ii (c : Int)) h' := by
    intro c hc
    refine lp_up (J := fun c : Nat => ∀ (S' : Nat → Nat → Int) (h' : hw), Pic G A B S' h' → (∀ k, k ≠ rk → S' k = S k) → (∀ i, i < 4 → S' rk i = dl (S 46) wo (nB S) c i) → sm (dl (S 46) wo (nB S) c) (nB S) = c → J (ii (c : Int)) h') (n := C) ?_ ?_ hc
    · intro S' h' P' e1 e2 e3
      apply hJ
      rw [ii_le ⟨by omega, by omega⟩ ⟨by omega, by omega⟩]
      refine ⟨fun _ => ?_, fun z => absurd (Int.le_refl _) z⟩
      have q := q S' h' P' e1 e2
      rw [e3] at q
      exact q
    · intro c hc ih S' h' P' e1 e2 e3
      have f7 : S' 7 = S 7 := e1 7 (by omega)
      have f46 : S' 46 = S 46 := e1 46 (by omega)
      have enB : nB S' = nB S := by unfold nB; rw [f7]
      have hd := fun i => dl_in hW wo (n := nB S) (by omega) c i
      have hhb : hbst (S 46) wo (S' rk) (nB S) = hbst (S 46) wo (dl (S 46) wo (nB S) c) (nB S) := by
        have g : ∀ m, m ≤ nB S → hbst (S 46) wo (S' rk) m = hbst (S 46) wo (dl (S 46) wo (nB S) c) m := by
          intro m
          induction m with
          | zero => intro _; rfl
          | succ m ih2 =>
            intro hm
            unfold hbst
            rw [ih2 (by omega)]
            have : nxw (S 46) (S' rk) m = nxw (S 46) (dl (S 46) wo (nB S) c) m := by unfold nxw; rw [e2 m (by omega)]
            rw [this]
        exact g _ (Nat.le_refl _)
      apply hJ
      rw [ii_le ⟨by omega, by omega⟩ ⟨by omega, by omega⟩]
      refine ⟨fun z => absurd z (by omega), fun _ => ?_⟩
      refine ⟨P'.o (k := 7) rfl, P'.high (rk := rk) (by unfold BD; rw [f7, f46]; exact hB0) hr (fun i hi => by rw [e2 i hi]; exact ⟨(hd i).1, (hd i).2.1⟩) hwo rfl ?_⟩
      rw [f46, enB, hhb]
      rcases hbst_in (w := S 46) wo (dl (S 46) wo (nB S) c) (nB S) with ⟨g1, -⟩ | ⟨b, g0, g1, g2, g3, g4, -⟩
      · rw [g1]
        refine ⟨fun z => absurd (by decide) z, fun _ => ?_⟩
        have q := q S' h' P' e1 (fun i hi => by rw [e2 i hi, dl_stop wo g1 (show c ≤ C by omega)])
        rw [dl_stop wo g1 (show c ≤ C by omega), e3] at q
        exact q
      · rw [g1]
        have hne : ¬ ii (b : Int) = -1 := by rw [il_m1, ii_eq ⟨by omega, by omega⟩ ⟨by omega, by omega⟩]; omega
        refine ⟨fun _ => ?_, fun z => absurd z hne⟩
        refine ⟨P'.o (ctn_r hr1.1 hr1.2.1), P'.at hr1.1 hr1.2 rfl (by omega) ?_⟩
        refine ⟨P'.o (ctn_r hr1.1 hr1.2.1), P'.put (rk := rk) (i := b) (z := S' rk b + 1) hr1.1 hr1.2 rfl (by rw [il_1, ii_add]) (by omega) (fun h2 P2 => ?_)⟩
        rw [ii_inc']
        have es : dl (S 46) wo (nB S) (c + 1) = up (dl (S 46) wo (nB S) c) b (dl (S 46) wo (nB S) c b + 1) := by
          show (if (hbst (S 46) wo (dl (S 46) wo (nB S) c) (nB S)).1 = -1 then _ else _) = _
          rw [if_neg (by omega), g1, Int.toNat_natCast]
        refine ih _ h2 P2 (fun k hk => by rw [su_row _ _ hk, e1 k hk]) (fun i hi => ?_) ?_
        · rw [su_up, es]
          unfold up
          rw [e2 i hi, e2 b (by omega)]
        · rw [es, sm_up g0, e3]; omega
  refine main 0 (by omega) _ h1 P1 (fun k hk => sf_ne hk) (fun i hi => sf_at (by omega)) ?_
  have g : ∀ m, sm (dl (S 46) wo (nB S) 0) m = 0 := fun m => by
    induction m with
    | zero => rfl
    | succ m ih => unfold sm; rw [ih]; rfl
  exact g _
theorem wof_in {w : Nat → Int} (hW : WK w) {b : Nat} (hb : b < 4) {t : Nat} (ht : t ≤ 3) : 0 ≤ wof w b t ∧ wof w b t ≤ 9999 * t := by
  induction t with
  | zero => exact ⟨Int.le_refl 0, Int.le_refl 0⟩
  | succ t ih =>
    have := ih (by omega)
    have := wk_at hW hb (k := t) (by omega)
    unfold wof
    omega
theorem Pic.worthOf (P : Pic G A B S h) {r rk : Nat} (hr : (r = 24 ∧ rk = 44) ∨ (r = 27 ∧ rk = 47)) {b : Nat} (hb : b < 4) (ht : 0 ≤ S rk b ∧ S rk b ≤ 3) {x : Int32} (hx : x = ii (b : Int)) {post : Int32 → Prop} (q : post (ii (wof (S 46) b (S rk b).toNat))) : wp_X2_worthOf G (A 7) x (A r) h post := by
  have hr1 : 10 ≤ r ∧ r < 30 ∧ rk = r + 20 := by omega
  have hrl : rl r = 4 := by rcases hr with ⟨rfl, -⟩ | ⟨rfl, -⟩ <;> rfl
  subst hx
  intro J hJ
  have main : ∀ i : Nat, i ≤ (S rk b).toNat → J (ii (wof (S 46) b i)) (ii (i : Int)) := by
    intro i hi
    refine lp_up (J := fun i : Nat => J (ii (wof (S 46) b i)) (ii (i : Int))) (n := (S rk b).toNat) ?_ ?_ hi
    · apply hJ
      rw [il_3, ii_le ⟨by omega, by omega⟩ ⟨by omega, by omega⟩]
      refine ⟨fun _ => q, fun z => ?_⟩
      refine ⟨P.o (ctn_r hr1.1 hr1.2.1), P.at hr1.1 hr1.2 rfl (by omega) ?_⟩
      rw [ii_le ⟨by omega, by omega⟩ ⟨by omega, by omega⟩]
      exact ⟨fun _ => q, fun z => absurd (show S rk b ≤ _ by omega) z⟩
    · intro i hi ih
      apply hJ
      rw [il_3, ii_le ⟨by omega, by omega⟩ ⟨by omega, by omega⟩]
      refine ⟨fun z => absurd z (by omega), fun _ => ?_⟩
      refine ⟨P.o (ctn_r hr1.1 hr1.2.1), P.at hr1.1 hr1.2 rfl (by omega) ?_⟩
      rw [ii_le ⟨by omega, by omega⟩ ⟨by omega, by omega⟩]
      refine ⟨fun z => absurd z (by omega), fun _ => ?_⟩
      refine P.oat (k := 7) (r := 26) (rk := 46) (i := b * 3 + i) rfl rfl ⟨by omega, by omega⟩ ?_ (show _ < 12 by omega) ?_
      · rw [ii_mul, ii_add]; exact congrArg ii (by omega)
      · rw [ii_inc', ii_add]; exact ih
  exact main 0 (by omega)
theorem Pic.worthOfOthers (P : Pic G A B S h) (hB : BD S) {r rk : Nat} (hr : (r = 24 ∧ rk = 44) ∨ (r = 27 ∧ rk = 47)) {b : Nat} (hb : b < 4) (ht : ∀ i, i < 4 → 0 ≤ S rk i ∧ S rk i ≤ 3) {x : Int32} (hx : x = ii (b : Int)) {post : Int32 → Prop} (q : post (ii (woo (S 46) (S rk) b (nB S)))) : wp_X2_worthOfOthers G (A 7) x (A r) h post := by
  obtain ⟨⟨b1, b2⟩, hW⟩ := hB
  have hn : S 7 2 = ((nB S : Nat) : Int) := by show S 7 2 = (((S 7 2).toNat : Nat) : Int); omega
  subst hx
  intro J hJ
  have main : ∀ i : Nat, i ≤ nB S → J (ii (woo (S 46) (S rk) b i)) (ii (i : Int)) := by
    intro i hi
    refine lp_up (J := fun i : Nat => J (ii (woo (S 46) (S rk) b i)) (ii (i : Int))) (n := nB S) ?_ ?_ hi
    · apply hJ
      refine P.rI (k := 7) rfl rfl ?_
      rw [hn, ii_le ⟨by omega, by omega⟩ ⟨by omega, by omega⟩]
      exact ⟨fun _ => q, fun z => absurd (Int.le_refl _) z⟩
    · intro i hi ih
      apply hJ
      refine P.rI (k := 7) rfl rfl ?_
      rw [hn, ii_le ⟨by omega, by omega⟩ ⟨by omega, by omega⟩]
      refine ⟨fun z => absurd z (by omega), fun _ => ?_⟩
      intro J30 hJ30
      have e : woo (S 46) (S rk) b (i + 1) = woo (S 46) (S rk) b i + (if i = b then 0 else wof (S 46) i (S rk i).toNat) := rfl
      rw [e] at ih
      rw [ii_eq ⟨by omega, by omega⟩ ⟨by omega, by omega⟩]
      refine ⟨fun z => ?_, fun z => ?_⟩
      · apply hJ30; rw [ii_inc']
        rw [if_pos (by omega), Int.add_zero] at ih; exact ih
      · refine ⟨P.o (k := 7) rfl, P.worthOf hr (by omega) (ht i (by omega)) rfl ?_⟩
        apply hJ30; rw [ii_inc', ii_add]
        rw [if_neg (by omega)] at ih; exact ih
  exact main 0 (by omega)
theorem sm_le {f : Nat → Int} {n : Nat} {m : Int} (h : ∀ i, i < n → 0 ≤ f i ∧ f i ≤ m) : 0 ≤ sm f n ∧ sm f n ≤ m * n := by
  induction n with
  | zero => exact ⟨Int.le_refl 0, by show (0 : Int) ≤ m * 0; omega⟩
  | succ n ih =>
    have a := ih (fun i hi => h i (by omega))
    have b := h n (by omega)
    unfold sm
    have : m * ((n + 1 : Nat) : Int) = m * n + m := by rw [Int.natCast_add, Int.mul_add]; omega
    omega
/-- the keys that a buying writes -/
def kb (k : Nat) : Prop := k = 44 ∨ k = 45 ∨ k = 47
theorem Pic.buyRun (P : Pic G A B S h) (hB : BD S) {C : Nat} (hC : C ≤ 8) {x : Int32} (hx : x = ii (C : Int)) {post : Int32 → hw → Prop} (q : ∀ S' h', Pic G A B S' h' → (∀ k, ¬ kb k → S' k = S k) → (∀ i, i < 4 → S' 44 i = dl (S 46) (-1) (nB S) C i) → (∀ i, i < nB S → S' 45 i = woo (S 46) (dl (S 46) i (nB S) C) i (nB S) - woo (S 46) (dl (S 46) (-1) (nB S) C) i (nB S)) → (∀ i, nB S ≤ i → S' 45 i = S 45 i) → post (ii (sm (dl (S 46) (-1) (nB S) C) (nB S))) h') : wp_X2_run G (A 7) x h post := by
  have hB0 := hB
  obtain ⟨⟨b1, b2⟩, hW⟩ := hB
  have hn : S 7 2 = ((nB S : Nat) : Int) := by show S 7 2 = (((S 7 2).toNat : Nat) : Int); omega
  have hd := fun wo c i => dl_in hW wo (n := nB S) (by omega) c i
  refine P.rR (k := 7) rfl rfl ?_
  refine ⟨P.o (k := 7) rfl, P.deal (rk := 44) hB0 (Or.inl ⟨rfl, rfl⟩) ⟨by omega, by omega⟩ il_m1 hC hx (fun S1 h1 P1 e1 e2 => ?_)⟩
  intro J hJ
  have woo_of : ∀ (t t' : Nat → Int) (x : Nat), (∀ i, i < 4 → t i = t' i) → woo (S 46) t x (nB S) = woo (S 46) t' x (nB S) := fun t t' x h => sm_of (fun i hi => by rw [h i (by omega)])
  have main : ∀ n : Nat, n ≤ nB S → ∀ (S' : Nat → Nat → Int) (h' : hw), Pic G A B S' h' → (∀ k, ¬ kb k → S' k = S k) → (∀ i, i < 4 → S' 44 i = dl (S 46) (-1) (nB S) C i) → (∀ i, i < n → S' 45 i = woo (S 46) (dl (S 46) i (nB S) C) i (nB S) - woo (S 46) (dl (S 46) (-1) (nB S) C) i (nB S)) → (∀ i, nB S ≤ i → S' 45 i = S 45 i) → J (ii (n : Int)) h' := by
    intro n hnn
    refine lp_up (J := fun n : Nat => ∀ (S' : Nat → Nat → Int) (h' : hw), Pic G A B S' h' → (∀ k, ¬ kb k → S' k = S k) → (∀ i, i < 4 → S' 44 i = dl (S 46) (-1) (nB S) C i) → (∀ i, i < n → S' 45 i = woo (S 46) (dl (S 46) i (nB S) C) i (nB S) - woo (S 46) (dl (S 46) (-1) (nB S) C) i (nB S)) → (∀ i, nB S ≤ i → S' 45 i = S 45 i) → J (ii (n : Int)) h') (n := nB S) ?_ ?_ hnn
    · intro S' h' P' k1 k2 k3 k4
      have f7 : S' 7 = S 7 := k1 7 (fun z => by unfold kb at z; omega)
      apply hJ
      refine P'.rI (k := 7) rfl rfl ?_
      rw [f7, hn, ii_le ⟨by omega, by omega⟩ ⟨by omega, by omega⟩]
      exact ⟨fun _ => q S' h' P' k1 k2 k3 k4, fun z => absurd (Int.le_refl _) z⟩
    · intro n hnn ih S' h' P' k1 k2 k3 k4
      have f7 : S' 7 = S 7 := k1 7 (fun z => by unfold kb at z; omega)
      have f46 : S' 46 = S 46 := k1 46 (fun z => by unfold kb at z; omega)
      have enB : nB S' = nB S := by unfold nB; rw [f7]
      have hB' : BD S' := by unfold BD; rw [f7, f46]; exact hB0
      apply hJ
      refine P'.rI (k := 7) rfl rfl ?_
      rw [f7, hn, ii_le ⟨by omega, by omega⟩ ⟨by omega, by omega⟩]
      refine ⟨fun z => absurd z (by omega), fun _ => ?_⟩
      refine P'.rR (k := 7) rfl rfl ?_
      refine ⟨P'.o (k := 7) rfl, P'.deal (rk := 47) hB' (Or.inr ⟨rfl, rfl⟩) (wo := (n : Int)) ⟨by omega, by omega⟩ rfl hC hx (fun S2 h2 P2 g1 g2 => ?_)⟩
      rw [f46, enB] at g2
      have f7b : S2 7 = S 7 := by rw [g1 7 (by omega), f7]
      have f46b : S2 46 = S 46 := by rw [g1 46 (by omega), f46]
      have f44b : S2 44 = S' 44 := g1 44 (by omega)
      have enB2 : nB S2 = nB S := by unfold nB; rw [f7b]
      have hB2 : BD S2 := by unfold BD; rw [f7b, f46b]; exact hB0
      refine P2.rR (k := 7) rfl rfl ?_
      refine P2.rR (k := 7) rfl rfl ?_
      refine ⟨P2.o (k := 7) rfl, P2.worthOfOthers (rk := 47) hB2 (Or.inr ⟨rfl, rfl⟩) (by omega) (fun i hi => by rw [g2 i hi]; exact ⟨(hd _ C i).1, (hd _ C i).2.1⟩) rfl ?_⟩
      refine P2.rR (k := 7) rfl rfl ?_
      refine ⟨P2.o (k := 7) rfl, P2.worthOfOthers (rk := 44) hB2 (Or.inl ⟨rfl, rfl⟩) (by omega) (fun i hi => by rw [f44b, k2 i hi]; exact ⟨(hd _ C i).1, (hd _ C i).2.1⟩) rfl ?_⟩
      rw [f46b, enB2, woo_of _ _ n g2, f44b, woo_of _ _ n k2]
      refine ⟨P2.o (k := 25) rfl, P2.put (k := 25) (rk := 45) (i := n) (z := woo (S 46) (dl (S 46) n (nB S) C) n (nB S) - woo (S 46) (dl (S 46) (-1) (nB S) C) n (nB S)) (by omega) (by omega) rfl (by rw [ii_sub]) (show _ < 4 by omega) (fun h3 P3 => ?_)⟩
      rw [ii_inc']
      refine ih _ h3 P3 (fun k hk => by rw [su_row _ _ (fun z => hk (Or.inr (Or.inl z))), g1 k (fun z => hk (Or.inr (Or.inr z))), k1 k hk]) (fun i hi => by rw [su_ne _ _ _ (by omega), f44b]; exact k2 i hi) (fun i hi => ?_) (fun i hi => by rw [su_nei _ _ _ (by omega), g1 45 (by omega)]; exact k4 i hi)
      by_cases y : i = n
      · subst y; rw [su_at]
      · rw [su_nei _ _ _ y, g1 45 (by omega)]; exact k3 i (by omega)
  exact main 0 (by omega) S1 h1 P1 (fun k hk => e1 k (fun z => hk (Or.inl z))) e2 (fun i hi => by omega) (fun i _ => by rw [e1 45 (by omega)])
/-- no bidder pays more than what he got is worth to him -/
def FB (S : Nat → Nat → Int) : Prop := (∀ i, i < 4 → 0 ≤ S 44 i ∧ S 44 i ≤ 3 ∧ -1000000 ≤ S 45 i ∧ S 45 i ≤ wof (S 46) i (S 44 i).toNat) ∧ ∀ i, nB S ≤ i → i < 4 → S 44 i = 0 ∧ S 45 i = 0
theorem woo_all {w t : Nat → Int} {x n : Nat} (hx : x < n) : woo w t x n = sm (fun i => wof w i (t i).toNat) n - wof w x (t x).toNat := by
  have e : woo w t x n = sm (up (fun i => wof w i (t i).toNat) x 0) n := sm_of (fun i hi => by
    unfold up
    by_cases c : i = x <;> simp [c])
  rw [e, sm_up hx]; omega
/-- the second price is no more than the worth -/
theorem due_le {w : Nat → Int} (hW : WK w) {n x : Nat} (hn : n ≤ 4) (hx : x < n) (C : Nat) : woo w (dl w x n C) x n - woo w (dl w (-1) n C) x n ≤ wof w x (dl w (-1) n C x).toNat ∧ -1000000 ≤ woo w (dl w x n C) x n - woo w (dl w (-1) n C) x n := by
  have hd := fun wo i => dl_in hW wo hn C i
  have m1 := gs_mono hW x hn C
  rw [gs_eq hW _ hn, gs_eq hW _ hn] at m1
  have hwf : ∀ wo i, i < n → 0 ≤ wof w i (dl w wo n C i).toNat ∧ wof w i (dl w wo n C i).toNat ≤ 30000 := fun wo i hi => by
    have := hd wo i
    have := wof_in hW (b := i) (by omega) (t := (dl w wo n C i).toNat) (by omega)
    omega
  have s1 := sm_le (f := fun i => wof w i (dl w (x : Int) n C i).toNat) (n := n) (m := 30000) (fun i hi => hwf _ i hi)
  have s2 := sm_le (f := fun i => wof w i (dl w (-1) n C i).toNat) (n := n) (m := 30000) (fun i hi => hwf _ i hi)
  rw [woo_all hx, woo_all hx]
  have z := hwf (x : Int) x hx
  have z2 := hwf (-1) x hx
  have z3 := (hd (x : Int) x).2.2.2 rfl
  have z4 : wof w x (dl w (x : Int) n C x).toNat = 0 := by rw [z3]; rfl
  have m2 := m1.2
  omega
theorem Pic.buyFair (P : Pic G A B S h) (hB : BD S) (hF : FB S) {post : Int32 → Prop} (q : post 1) : wp_X2_isFair G (A 7) h post := by
  obtain ⟨⟨b1, b2⟩, hW⟩ := hB
  have hn : S 7 2 = ((nB S : Nat) : Int) := by show S 7 2 = (((S 7 2).toNat : Nat) : Int); omega
  intro J hJ
  have main : ∀ i : Nat, i ≤ nB S → J (ii (i : Int)) := by
    intro i hi
    refine lp_up (J := fun i : Nat => J (ii (i : Int))) (n := nB S) ?_ ?_ hi
    · apply hJ
      refine P.rI (k := 7) rfl rfl ?_
      rw [hn, ii_le ⟨by omega, by omega⟩ ⟨by omega, by omega⟩]
      exact ⟨fun _ => q, fun z => absurd (Int.le_refl _) z⟩
    · intro i hi ih
      apply hJ
      refine P.rI (k := 7) rfl rfl ?_
      rw [hn, ii_le ⟨by omega, by omega⟩ ⟨by omega, by omega⟩]
      refine ⟨fun z => absurd z (by omega), fun _ => ?_⟩
      have f := hF.1 i (by omega)
      have g := wof_in hW (b := i) (by omega) (t := (S 44 i).toNat) (by omega)
      refine P.oat (k := 7) (r := 25) (rk := 45) (i := i) rfl rfl ⟨by omega, by omega⟩ rfl (show _ < 4 by omega) ?_
      refine P.rR (k := 7) rfl rfl ?_
      refine ⟨P.o (k := 7) rfl, P.worthOf (rk := 44) (Or.inl ⟨rfl, rfl⟩) (by omega) ⟨f.1, f.2.1⟩ rfl ?_⟩
      rw [ii_le ⟨by omega, by omega⟩ ⟨by omega, by omega⟩]
      refine ⟨fun _ => ?_, fun z => absurd f.2.2.2 z⟩
      rw [ii_inc']; exact ih
  exact main 0 (by omega)
theorem Pic.takeIn (P : Pic G A B S h) (hB : BD S) (hlt : S 7 2 < 4) {a b c : Int} {post : Int32 → hw → Prop} (q : ∀ S' h', Pic G A B S' h' → (∀ k, k ≠ 7 → k ≠ 46 → S' k = S k) → S' 46 = up (up (up (S 46) (nB S * 3) a) (nB S * 3 + 1) b) (nB S * 3 + 2) c → S' 7 2 = S 7 2 + 1 → post (ii (S 7 2)) h') : wp_X2_admit G (A 7) (ii a) (ii b) (ii c) h post := by
  obtain ⟨⟨b1, b2⟩, hW⟩ := hB
  have hn : S 7 2 = ((nB S : Nat) : Int) := by show S 7 2 = (((S 7 2).toNat : Nat) : Int); omega
  refine P.rR (k := 7) rfl rfl ?_
  refine P.rI (k := 7) rfl rfl ?_
  refine ⟨P.o (k := 26) rfl, P.put (k := 26) (rk := 46) (i := nB S * 3) (z := a) (by omega) (by omega) ?_ rfl (show _ < 12 by omega) (fun h1 P1 => ?_)⟩
  · rw [il_3, ii_mul]; exact congrArg ii (by omega)
  refine P1.rR (k := 7) rfl rfl ?_
  refine P1.rI (k := 7) rfl rfl ?_
  rw [su_ne _ _ _ (by omega)]
  refine ⟨P1.o (k := 26) rfl, P1.put (k := 26) (rk := 46) (i := nB S * 3 + 1) (z := b) (by omega) (by omega) ?_ rfl (show _ < 12 by omega) (fun h2 P2 => ?_)⟩
  · rw [il_3, il_1, ii_mul, ii_add]; exact congrArg ii (by omega)
  refine P2.rR (k := 7) rfl rfl ?_
  refine P2.rI (k := 7) rfl rfl ?_
  rw [su_ne _ _ _ (by omega), su_ne _ _ _ (by omega)]
  refine ⟨P2.o (k := 26) rfl, P2.put (k := 26) (rk := 46) (i := nB S * 3 + 2) (z := c) (by omega) (by omega) ?_ rfl (show _ < 12 by omega) (fun h3 P3 => ?_)⟩
  · rw [il_3, il_2, ii_mul, ii_add]; exact congrArg ii (by omega)
  refine P3.rI (k := 7) rfl rfl ?_
  rw [su_ne _ _ _ (by omega), su_ne _ _ _ (by omega), su_ne _ _ _ (by omega)]
  refine P3.wF (k := 7) (z := S 7 2 + 1) ⟨by decide, by decide, by decide, by decide⟩ rfl (show 2 < 5 by decide) (congrArg (fun v => some (Sum.inr (2, [Value.ref (A 24), Value.ref (A 25), Value.int v, Value.ref (A 26), Value.ref (A 27)]))) (by rw [il_1, ii_add]; rfl)) (fun h4 P4 => ?_)
  refine P4.rI (k := 7) rfl rfl ?_
  rw [su_at, il_1, ii_sub, show S 7 2 + 1 - 1 = S 7 2 by omega]
  refine q _ h4 P4 (fun k a1 a2 => by rw [su_row _ _ a1, su_row _ _ a2, su_row _ _ a2, su_row _ _ a2]) ?_ (su_at _ _ _)
  rw [su_row _ _ (by omega), su_up, su_up, su_up]
end CB
