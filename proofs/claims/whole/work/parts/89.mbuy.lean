/-! the reference: buying -/
theorem jj_add (a b : Int) : Int64.ofInt a + Int64.ofInt b = Int64.ofInt (a + b) := (Int64.ofInt_add a b).symm
theorem jj_sub (a b : Int) : Int64.ofInt a - Int64.ofInt b = Int64.ofInt (a - b) := (Int64.ofInt_sub a b).symm
theorem jj_ii {a : Int} (h : rg a) : Int32.toInt64 (ii a) = Int64.ofInt a := by rw [← Int64.ofInt_int32ToInt, ii_toInt h]
theorem jj_0 : (0 : Int64) = Int64.ofInt 0 := by decide
theorem woo_gs {w : Nat → Int} (hW : WK w) {n x c : Nat} (hn : n ≤ 4) (hx : x < n) : gs w x n c - (gs w (-1) n c - wof w x (dl w (-1) n c x).toNat) = woo w (dl w x n c) x n - woo w (dl w (-1) n c) x n := by
  rw [woo_all hx, woo_all hx, gs_eq hW x hn, gs_eq hW (-1) hn, (dl_in hW x hn c x).2.2.2 rfl]
  show _ = _ - wof w x 0 - _
  show _ = _ - (0 : Int) - _
  omega
section MB
variable {G : Gx} {A : Nat → Nat} {B : Nat → Nat → Nat} {S : Nat → Nat → Int} {h : hw}
theorem Pic.mhand (P : Pic G A B S h) {n : Nat} (hn : S 80 24 = n) (hn4 : n ≤ 4) (hW : WK (S 125)) {c : Nat} (hc : c ≤ 8) {x y : Int32} (hx : x = ii (c : Int)) {wo : Int} (hwo : -1 ≤ wo ∧ wo ≤ 4) (hy : y = ii wo) {post : Int64 → hw → Prop} (q : ∀ S' h', Pic G A B S' h' → (∀ k, k ≠ 131 → S' k = S k) → (∀ i, i < n → S' 131 i = dl (S 125) wo n c i) → (∀ i, n ≤ i → S' 131 i = S 131 i) → post (Int64.ofInt (gs (S 125) wo n c)) h') : wp_X12_handOut G (A 80) x y h post := by
  subst hx hy
  obtain ⟨w, ew⟩ : ∃ w, w = S 125 := ⟨_, rfl⟩
  rw [← ew] at q hW
  -- the rounds
  have hand : ∀ (S1 : Nat → Nat → Int) (h1 : hw), Pic G A B S1 h1 → (∀ k, k ≠ 131 → S1 k = S k) → (∀ i, i < n → S1 131 i = 0) → (∀ i, n ≤ i → S1 131 i = S 131 i) → ∀ J28 : Int64 → Int32 → hw → Prop, (∀ (x3_4 : Int64) (x5_5 : Int32) (h6 : hw), (((ii (c : Int) ≤ x5_5 → post x3_4 h6) ∧ (¬ ii (c : Int) ≤ x5_5 → ∀ J43 : Int32 → Int32 → Int32 → Prop, (∀ (x6_7 : Int32) (x7_8 : Int32) (x8_9 : Int32), (rdI h6 (A 80) 12 24 (fun v10 => ((v10 ≤ x8_9 → ∀ J146 : Int64 → hw → Prop, (∀ (x3_11 : Int64) (h12 : hw), (J28 x3_11 (x5_5 + 1) h12) → J146 x3_11 h12) → ((x6_7 = (-1) → J146 x3_4 h6) ∧ (¬ x6_7 = (-1) → rdR h6 (A 80) 12 31 (fun v13 => ldI G h6 v13 x6_7 (fun v14 => stI G h6 v13 x6_7 (v14 + 1) (fun h15 => J146 (x3_4 + (Int32.toInt64 x7_8)) h15)))))) ∧ (¬ v10 ≤ x8_9 → ∀ J90 : Int32 → Prop, (∀ (t16 : Int32), (∀ J106 : Int32 → Prop, (∀ (t17 : Int32), (J43 t17 (jmax x7_8 t16) (x8_9 + 1)) → J106 t17) → ((t16 ≤ x7_8 → J106 x6_7) ∧ (¬ t16 ≤ x7_8 → J106 x8_9))) → J90 t16) → ∀ J69 : Prop, ((J90 0) → J69) → ((x8_9 = ii wo → J69) ∧ (¬ x8_9 = ii wo → rdR h6 (A 80) 12 31 (fun v18 => ldI G h6 v18 x8_9 (fun v19 => ((¬ v19 = 3 → rdR h6 (A 80) 12 25 (fun v20 => rdR h6 (A 80) 12 31 (fun v21 => ldI G h6 v21 x8_9 (fun v22 => ldI G h6 v20 ((3 * x8_9) + v22) (fun v23 => J90 v23))))) ∧ (v19 = 3 → J69)))))))))) → J43 x6_7 x7_8 x8_9) → J43 (-1) 0 0))) → J28 x3_4 x5_5 h6) → J28 0 0 h1 := by
    intro S1 h1 P1 k1 k2 k3 J28 hJ28
    have main : ∀ i : Nat, i ≤ c → ∀ (S' : Nat → Nat → Int) (h' : hw), Pic G A B S' h' → (∀ k, k ≠ 131 → S' k = S k) → (∀ j, j < n → S' 131 j = dl w wo n i j) → (∀ j, n ≤ j → S' 131 j = S 131 j) → J28 (Int64.ofInt (gs w wo n i)) (ii (i : Int)) h' := by
      intro i hi
      refine lp_up (J := fun i : Nat => ∀ (S' : Nat → Nat → Int) (h' : hw), Pic G A B S' h' → (∀ k, k ≠ 131 → S' k = S k) → (∀ j, j < n → S' 131 j = dl w wo n i j) → (∀ j, n ≤ j → S' 131 j = S 131 j) → J28 (Int64.ofInt (gs w wo n i)) (ii (i : Int)) h') (n := c) ?_ ?_ hi
      · intro S' h' P' m1 m2 m3
        apply hJ28
        rw [ii_le ⟨by omega, by omega⟩ ⟨by omega, by omega⟩]
        exact ⟨fun _ => q S' h' P' m1 m2 m3, fun z => absurd (Int.le_refl _) z⟩
      · intro i hi ih S' h' P' m1 m2 m3
        obtain ⟨t, et⟩ : ∃ t, t = dl w wo n i := ⟨_, rfl⟩
        have tin : ∀ j, _ := fun j => dl_in hW wo hn4 i j
        rw [← et] at m2 tin
        have e24 : S' 80 24 = n := by rw [m1 80 (by decide)]; exact hn
        have e125 : S' 125 = w := by rw [m1 125 (by decide)]; exact ew.symm
        apply hJ28
        rw [ii_le ⟨by omega, by omega⟩ ⟨by omega, by omega⟩]
        refine ⟨fun z => absurd z (by omega), fun _ => ?_⟩
        intro J43 hJ43
        have inn : ∀ j : Nat, j ≤ n → J43 (ii (hbst w wo t j).1) (ii (hbst w wo t j).2) (ii (j : Int)) := by
          intro j hj
          refine lp_up (J := fun j : Nat => J43 (ii (hbst w wo t j).1) (ii (hbst w wo t j).2) (ii (j : Int))) (n := n) ?_ ?_ hj
          · apply hJ43
            refine P'.rI (k := 80) rfl rfl ?_
            rw [e24, ii_le ⟨by omega, by omega⟩ ⟨by omega, by omega⟩]
            refine ⟨fun _ => ?_, fun z => absurd (Int.le_refl _) z⟩
            intro J146 hJ146
            have gss : gs w wo n (i + 1) = gs w wo n i + (hbst w wo t n).2 := by rw [et]; exact gs_s
            have dls : dl w wo n (i + 1) = if (hbst w wo t n).1 = -1 then t else up t (hbst w wo t n).1.toNat (t (hbst w wo t n).1.toNat + 1) := by rw [et]; exact dl_s
            rcases hbst_in (w := w) wo t n with ⟨b1, b2, -⟩ | ⟨b, b0, b1, b2, b3, b4, -⟩
            · rw [b1, b2]
              rw [b2] at gss
              rw [if_pos b1] at dls
              refine ⟨fun _ => ?_, fun z => absurd il_m1.symm z⟩
              apply hJ146; rw [ii_inc']
              have ih := ih S' h' P' m1 (fun j hj => by rw [dls]; exact m2 j hj) m3
              rw [gss, Int.add_zero] at ih
              exact ih
            · have W := hW b (by omega)
              have nx : rg (nxw w t b) := by
                have tb := tin b
                unfold nxw
                split
                · have e : t b = 0 ∨ t b = 1 ∨ t b = 2 := by omega
                  rcases e with e | e | e <;> (rw [e]; first | exact ⟨by show _ ≤ w (b * 3 + 0); rw [Nat.add_zero]; omega, by show w (b * 3 + 0) ≤ _; rw [Nat.add_zero]; omega⟩ | exact ⟨by show _ ≤ w (b * 3 + 1); omega, by show w (b * 3 + 1) ≤ _; omega⟩ | exact ⟨by show _ ≤ w (b * 3 + 2); omega, by show w (b * 3 + 2) ≤ _; omega⟩)
                · exact ⟨by decide, by decide⟩
              rw [b1, b3]
              rw [b3] at gss
              rw [if_neg (by omega), b1, Int.toNat_natCast] at dls
              have tb := tin b
              rw [il_m1, ii_eq ⟨by omega, by omega⟩ ⟨by decide, by decide⟩]
              refine ⟨fun z => absurd z (by omega), fun _ => ?_⟩
              refine P'.rR (k := 80) rfl rfl ?_
              refine P'.mld (k := 131) (i := b) (by decide) (by decide) rfl rfl (show _ < 8 by omega) ?_
              rw [m2 b b0, show ii (t b) + 1 = ii (t b + 1) from ii_add (t b) 1]
              refine P'.mst (k := 131) (i := b) (z := t b + 1) (by decide) (by decide) rfl rfl rfl (show _ < 8 by omega) (fun h2 P2 => ?_)
              apply hJ146; rw [ii_inc', jj_ii nx, jj_add, ← gss]
              refine ih _ h2 P2 (fun k hk => by rw [su_row _ _ hk, m1 k hk]) (fun j hj => ?_) (fun j hj => ?_)
              · rw [dls]
                by_cases y : j = b
                · subst y; rw [su_at, up_at]
                · rw [su_nei _ _ _ y, up_ne y, m2 j hj]
              · rw [su_nei _ _ _ (by omega), m3 j hj]
          · intro j hj ihj
            have W := hW j (by omega)
            have tb := tin j
            have hb : -1 ≤ (hbst w wo t j).1 ∧ (hbst w wo t j).1 < 4 ∧ 0 ≤ (hbst w wo t j).2 ∧ (hbst w wo t j).2 ≤ 9999 := by
              rcases hbst_in (w := w) wo t j with ⟨b1, b2, -⟩ | ⟨b, b0, b1, b2, b3, b4, -⟩
              · rw [b1, b2]; exact ⟨by decide, by decide, by decide, by decide⟩
              · have W := hW b (by omega)
                have tb := tin b
                have : nxw w t b ≤ 9999 := by
                  unfold nxw
                  split
                  · have e : t b = 0 ∨ t b = 1 ∨ t b = 2 := by omega
                    rcases e with e | e | e <;> rw [e]
                    · show w (b * 3 + 0) ≤ _; rw [Nat.add_zero]; omega
                    · show w (b * 3 + 1) ≤ _; omega
                    · show w (b * 3 + 2) ≤ _; omega
                  · decide
                rw [b1, b3]; omega
            apply hJ43
            refine P'.rI (k := 80) rfl rfl ?_
            rw [e24, ii_le ⟨by omega, by omega⟩ ⟨by omega, by omega⟩]
            refine ⟨fun z => absurd z (by omega), fun _ => ?_⟩
            intro J90 hJ90 J69 hJ69
            have es : hbst w wo t (j + 1) = if (j : Int) ≠ wo ∧ (hbst w wo t j).2 < nxw w t j then ((j : Int), nxw w t j) else hbst w wo t j := rfl
            -- with what it's worth, or 0
            have go : ∀ v : Int, rg v → ((j : Int) ≠ wo → v = nxw w t j) → ((j : Int) = wo → v = 0) → J90 (ii v) := fun v hv v1 v2 => by
              apply hJ90
              intro J106 hJ106
              have eq2 : ∀ a : Int, a = (hbst w wo t (j + 1)).1 → (hbst w wo t (j + 1)).2 = (if (hbst w wo t j).2 < v then v else (hbst w wo t j).2) → J106 (ii a) := fun a ha hm => by
                apply hJ106
                rw [ii_jmax ⟨by omega, by omega⟩ hv, ii_inc', ← hm, ha]
                exact ihj
              rw [ii_le hv ⟨by omega, by omega⟩]
              refine ⟨fun z => eq2 _ ?_ ?_, fun z => eq2 _ ?_ ?_⟩
              · rw [es, if_neg (fun u => by have := v1 u.1; omega)]
              · rw [es, if_neg (fun u => by have := v1 u.1; omega), if_neg (by omega)]
              · have u : (j : Int) ≠ wo := fun u => by have := v2 u; omega
                rw [es, if_pos ⟨u, by have := v1 u; omega⟩]
              · have u : (j : Int) ≠ wo := fun u => by have := v2 u; omega
                rw [es, if_pos ⟨u, by have := v1 u; omega⟩, if_pos (by omega)]
                exact (v1 u).symm
            rw [ii_eq ⟨by omega, by omega⟩ ⟨by omega, by omega⟩]
            refine ⟨fun z => hJ69 (go 0 ⟨by decide, by decide⟩ (fun u => absurd z u) (fun _ => rfl)), fun z => ?_⟩
            refine P'.md (k := 131) (i := j) ⟨by decide, by decide, rfl, rfl⟩ rfl (show _ < 8 by omega) ?_
            rw [m2 j hj, il_3, ii_eq ⟨by omega, by omega⟩ ⟨by decide, by decide⟩]
            refine ⟨fun u => ?_, fun u => hJ69 (go 0 ⟨by decide, by decide⟩ (fun _ => by unfold nxw; rw [if_neg (by omega)]) (fun _ => rfl))⟩
            refine P'.rR (k := 80) rfl rfl ?_
            refine P'.md (k := 131) (i := j) ⟨by decide, by decide, rfl, rfl⟩ rfl (show _ < 8 by omega) ?_
            rw [m2 j hj]
            have nx : nxw w t j = w (j * 3 + (t j).toNat) := by unfold nxw; rw [if_pos (by omega)]
            refine P'.mld (k := 125) (i := j * 3 + (t j).toNat) (by decide) (by decide) rfl (by rw [ii_mul, ii_add]; exact congrArg ii (by omega)) (show _ < 12 by omega) ?_
            rw [e125]
            refine go _ ?_ (fun _ => nx.symm) (fun y => absurd y z)
            have e : t j = 0 ∨ t j = 1 ∨ t j = 2 := by omega
            rcases e with e | e | e <;> rw [e]
            · show rg (w (j * 3 + 0)); rw [Nat.add_zero]; exact ⟨by omega, by omega⟩
            · show rg (w (j * 3 + 1)); exact ⟨by omega, by omega⟩
            · show rg (w (j * 3 + 2)); exact ⟨by omega, by omega⟩
        have := inn 0 (Nat.zero_le _)
        rw [il_m1, il_0]; exact this
    exact main 0 (Nat.zero_le _) S1 h1 P1 k1 k2 k3
  intro J2 hJ2
  have main : ∀ i : Nat, i ≤ n → ∀ (S' : Nat → Nat → Int) (h' : hw), Pic G A B S' h' → (∀ k, k ≠ 131 → S' k = S k) → (∀ j, j < i → S' 131 j = 0) → (∀ j, i ≤ j → S' 131 j = S 131 j) → J2 (ii (i : Int)) h' := by
    intro i hi
    refine lp_up (J := fun i : Nat => ∀ (S' : Nat → Nat → Int) (h' : hw), Pic G A B S' h' → (∀ k, k ≠ 131 → S' k = S k) → (∀ j, j < i → S' 131 j = 0) → (∀ j, i ≤ j → S' 131 j = S 131 j) → J2 (ii (i : Int)) h') (n := n) ?_ ?_ hi
    · intro S' h' P' m1 m2 m3
      apply hJ2
      refine P'.rI (k := 80) rfl rfl ?_
      rw [m1 80 (by decide), hn, ii_le ⟨by omega, by omega⟩ ⟨by omega, by omega⟩]
      exact ⟨fun _ => hand S' h' P' m1 m2 m3, fun z => absurd (Int.le_refl _) z⟩
    · intro i hi ih S' h' P' m1 m2 m3
      apply hJ2
      refine P'.rI (k := 80) rfl rfl ?_
      rw [m1 80 (by decide), hn, ii_le ⟨by omega, by omega⟩ ⟨by omega, by omega⟩]
      refine ⟨fun z => absurd z (by omega), fun _ => ?_⟩
      refine P'.ms (k := 131) (i := i) (z := 0) ⟨by decide, by decide, rfl, rfl⟩ rfl il_0 (show _ < 8 by omega) (fun h2 P2 => ?_)
      rw [ii_inc']
      refine ih _ h2 P2 (fun k hk => by rw [su_row _ _ hk, m1 k hk]) (fun j hj => ?_) (fun j hj => ?_)
      · by_cases y : j = i
        · subst y; rw [su_at]
        · rw [su_nei _ _ _ y, m2 j (by omega)]
      · rw [su_nei _ _ _ (by omega), m3 j (by omega)]
  exact main 0 (Nat.zero_le _) S h P (fun _ _ => rfl) (fun j hj => by omega) (fun _ _ => rfl)
/-- buy -/
theorem Pic.m_buy (P : Pic G A B S h) (hP : PL S) {n : Nat} (hn : S 80 24 = n) (hn4 : n ≤ 4) (hW : WK (S 125)) {c : Int} (hc : rg c) {post : Int32 → hw → Prop} (q1 : 0 ≤ c ∧ c ≤ 8 → ∀ S' h', Pic G A B S' h' → (∀ k, k ≠ 126 → k ≠ 127 → k ≠ 131 → S' k = su S 80 0 0 k) → PL S' → (∀ i, i < n → S' 126 i = dl (S 125) (-1) n c.toNat i) → (∀ i, n ≤ i → S' 126 i = S 126 i) → (∀ i, i < n → S' 127 i = woo (S 125) (dl (S 125) i n c.toNat) i n - woo (S 125) (dl (S 125) (-1) n c.toNat) i n) → (∀ i, n ≤ i → S' 127 i = S 127 i) → post (ii (sm (dl (S 125) (-1) n c.toNat) n)) h') (x1 : ¬ (0 ≤ c ∧ c ≤ 8) → ∀ h', Pic G A B (su S 80 0 1) h' → post 0 h') : wp_X12_buy G (A 80) (ii c) h post := by
  refine P.thr0 (fun h1 P1 => ?_)
  refine P1.mIn hc (a := 0) (b := 8) ⟨by omega, by omega⟩ ⟨by omega, by omega⟩ (e := 1) (Or.inl rfl) rfl il_0 il_8 il_1 (fun z h' P' => ⟨fun u => absurd u (by decide), fun _ => x1 z h' P'⟩) (fun z => ⟨fun _ => ?_, fun u => absurd rfl u⟩)
  have q1 := q1 z
  obtain ⟨C, eC⟩ : ∃ C : Nat, C = c.toNat := ⟨_, rfl⟩
  rw [← eC] at q1
  have ec : ii c = ii (C : Int) := congrArg ii (by omega)
  rw [ec]
  have f0 : ∀ k, k ≠ 80 → su S 80 0 0 k = S k := fun k hk => su_row _ _ hk
  obtain ⟨w, ew⟩ : ∃ w, w = S 125 := ⟨_, rfl⟩
  have e125 : su S 80 0 0 125 = w := by rw [f0 125 (by decide), ew]
  have e24 : su S 80 0 0 80 24 = n := by rw [su_nei _ _ _ (by decide)]; exact hn
  rw [← ew] at q1 hW
  refine ⟨P1.o (k := 80) rfl, P1.mhand e24 hn4 (by rw [e125]; exact hW) (c := C) (by omega) rfl (wo := -1) ⟨by decide, by decide⟩ il_m1 (fun S2 h2 P2 k1 k2 k3 => ?_)⟩
  rw [e125] at k2
  rw [e125]
  obtain ⟨t, et⟩ : ∃ t, t = dl w (-1) n C := ⟨_, rfl⟩
  have tin : ∀ j, _ := fun j => dl_in hW (-1) hn4 C j
  have wg : ∀ x : Nat, x < n → gs w x n C - (gs w (-1) n C - wof w x (t x).toNat) = woo w (dl w x n C) x n - woo w t x n := fun x hx => by rw [et]; exact woo_gs hW hn4 hx
  rw [← et] at k2 tin q1
  intro J43 hJ43
  have main : ∀ i : Nat, i ≤ n → ∀ (S' : Nat → Nat → Int) (h' : hw), Pic G A B S' h' → (∀ k, k ≠ 126 → S' k = S2 k) → (∀ j, j < i → S' 126 j = t j) → (∀ j, i ≤ j → S' 126 j = S 126 j) → J43 (ii (sm t i)) (ii (i : Int)) h' := by
    intro i hi
    refine lp_up (J := fun i : Nat => ∀ (S' : Nat → Nat → Int) (h' : hw), Pic G A B S' h' → (∀ k, k ≠ 126 → S' k = S2 k) → (∀ j, j < i → S' 126 j = t j) → (∀ j, i ≤ j → S' 126 j = S 126 j) → J43 (ii (sm t i)) (ii (i : Int)) h') (n := n) ?_ ?_ hi
    · intro S3 h3 P3 m1 m2 m3
      apply hJ43
      refine P3.rI (k := 80) rfl rfl ?_
      rw [m1 80 (by decide), k1 80 (by decide), e24, ii_le ⟨by omega, by omega⟩ ⟨by omega, by omega⟩]
      refine ⟨fun _ => ?_, fun z => absurd (Int.le_refl _) z⟩
      intro J87 hJ87
      have pays : ∀ i : Nat, i ≤ n → ∀ (S' : Nat → Nat → Int) (h' : hw), Pic G A B S' h' → (∀ k, k ≠ 127 → k ≠ 131 → S' k = S3 k) → (∀ j, j < i → S' 127 j = woo w (dl w j n C) j n - woo w t j n) → (∀ j, i ≤ j → S' 127 j = S 127 j) → (∀ j, j < n → 0 ≤ S' 131 j ∧ S' 131 j ≤ 3) → (∀ j, n ≤ j → S' 131 j = S 131 j) → J87 (ii (i : Int)) h' := by
        intro i hi
        refine lp_up (J := fun i : Nat => ∀ (S' : Nat → Nat → Int) (h' : hw), Pic G A B S' h' → (∀ k, k ≠ 127 → k ≠ 131 → S' k = S3 k) → (∀ j, j < i → S' 127 j = woo w (dl w j n C) j n - woo w t j n) → (∀ j, i ≤ j → S' 127 j = S 127 j) → (∀ j, j < n → 0 ≤ S' 131 j ∧ S' 131 j ≤ 3) → (∀ j, n ≤ j → S' 131 j = S 131 j) → J87 (ii (i : Int)) h') (n := n) ?_ ?_ hi
        · intro S' h' P' g1 g2 g3 g4 g5
          apply hJ87
          refine P'.rI (k := 80) rfl rfl ?_
          rw [g1 80 (by decide) (by decide), m1 80 (by decide), k1 80 (by decide), e24, ii_le ⟨by omega, by omega⟩ ⟨by omega, by omega⟩]
          refine ⟨fun _ => ?_, fun z => absurd (Int.le_refl _) z⟩
          refine q1 S' h' P' (fun k a b d => by rw [g1 k b d, m1 k a, k1 k d]) ⟨fun j hj => ?_, fun j hj => ?_⟩ (fun j hj => by rw [g1 126 (by decide) (by decide)]; exact m2 j hj) (fun j hj => by rw [g1 126 (by decide) (by decide)]; exact m3 j hj) g2 g3
          · by_cases y : j < n
            · have := g4 j y; omega
            · rw [g5 j (by omega)]; exact hP.1 j hj
          · rw [g1 130 (by decide) (by decide), m1 130 (by decide), k1 130 (by decide), f0 130 (by decide)]; exact hP.2 j hj
        · intro i hi ih S' h' P' g1 g2 g3 g4 g5
          have f80 : S' 80 24 = n := by rw [g1 80 (by decide) (by decide), m1 80 (by decide), k1 80 (by decide), e24]
          have f125 : S' 125 = w := by rw [g1 125 (by decide) (by decide), m1 125 (by decide), k1 125 (by decide), e125]
          have f126 : S' 126 i = t i := by rw [g1 126 (by decide) (by decide)]; exact m2 i hi
          have W := hW i (by omega)
          have ti := tin i
          apply hJ87
          refine P'.rI (k := 80) rfl rfl ?_
          rw [f80, ii_le ⟨by omega, by omega⟩ ⟨by omega, by omega⟩]
          refine ⟨fun z => absurd z (by omega), fun _ => ?_⟩
          intro J102 hJ102
          have own : ∀ p : Nat, p ≤ (t i).toNat → J102 (Int64.ofInt (wof w i p)) (ii (p : Int)) := by
            intro p hp
            refine lp_up (J := fun p : Nat => J102 (Int64.ofInt (wof w i p)) (ii (p : Int))) (n := (t i).toNat) ?_ ?_ hp
            · apply hJ102
              refine P'.md (k := 126) (i := i) ⟨by decide, by decide, rfl, rfl⟩ rfl (show _ < 4 by omega) ?_
              rw [f126, ii_le ⟨by omega, by omega⟩ ⟨by omega, by omega⟩]
              refine ⟨fun _ => ?_, fun z => absurd z (by omega)⟩
              refine P'.rR (k := 80) rfl rfl ?_
              refine ⟨P'.o (k := 80) rfl, P'.mhand f80 hn4 (by rw [f125]; exact hW) (c := C) (by omega) rfl (wo := i) ⟨by omega, by omega⟩ rfl (fun S5 h5 P5 r1 r2 r3 => ?_)⟩
              rw [f125] at r2
              rw [f125, jj_sub, jj_sub, wg i hi]
              refine P5.jst (k := 127) (i := i) (n := 4) (z := woo w (dl w i n C) i n - woo w t i n) ⟨by decide, by decide, by decide, by decide⟩ (fun S => ctn_127) rfl rfl (by omega) (by decide) (fun h6 P6 => ?_)
              rw [ii_inc']
              refine ih _ h6 P6 (fun k a b => by rw [su_row _ _ a, r1 k b, g1 k a b]) (fun j hj => ?_) (fun j hj => ?_) (fun j hj => ?_) (fun j hj => ?_)
              · by_cases y : j = i
                · subst y; rw [su_at]
                · rw [su_nei _ _ _ y, r1 127 (by decide), g2 j (by omega)]
              · rw [su_nei _ _ _ (by omega), r1 127 (by decide), g3 j (by omega)]
              · rw [su_ne _ _ _ (by decide), r2 j hj]
                have := dl_in hW i hn4 C j; omega
              · rw [su_ne _ _ _ (by decide), r3 j hj, g5 j hj]
            · intro p hp ihp
              apply hJ102
              refine P'.md (k := 126) (i := i) ⟨by decide, by decide, rfl, rfl⟩ rfl (show _ < 4 by omega) ?_
              rw [f126, ii_le ⟨by omega, by omega⟩ ⟨by omega, by omega⟩]
              refine ⟨fun z => absurd z (by omega), fun _ => ?_⟩
              refine P'.rR (k := 80) rfl rfl ?_
              refine P'.mld (k := 125) (i := i * 3 + p) (by decide) (by decide) rfl (by rw [il_3, ii_mul, ii_add]; exact congrArg ii (by omega)) (show _ < 12 by omega) ?_
              have wr : rg (w (i * 3 + p)) := by
                have e : p = 0 ∨ p = 1 ∨ p = 2 := by omega
                rcases e with e | e | e <;> rw [e]
                · rw [Nat.add_zero]; exact ⟨by omega, by omega⟩
                · exact ⟨by omega, by omega⟩
                · exact ⟨by omega, by omega⟩
              rw [f125, jj_ii wr, jj_add, ii_inc']
              exact ihp
          have := own 0 (Nat.zero_le _)
          rw [il_0, jj_0]; exact this
      have := pays 0 (Nat.zero_le _) S3 h3 P3 (fun _ _ _ => rfl) (fun j hj => by omega) (fun j _ => by rw [m1 127 (by decide), k1 127 (by decide), f0 127 (by decide)]) (fun j hj => by rw [m1 131 (by decide), k2 j hj]; have := tin j; omega) (fun j hj => by rw [m1 131 (by decide), k3 j hj, f0 131 (by decide)])
      exact this
    · intro i hi ih S' h' P' m1 m2 m3
      have ti := tin i
      apply hJ43
      refine P'.rI (k := 80) rfl rfl ?_
      rw [m1 80 (by decide), k1 80 (by decide), e24, ii_le ⟨by omega, by omega⟩ ⟨by omega, by omega⟩]
      refine ⟨fun z => absurd z (by omega), fun _ => ?_⟩
      refine P'.rR (k := 80) rfl rfl ?_
      refine P'.md (k := 131) (i := i) ⟨by decide, by decide, rfl, rfl⟩ rfl (show _ < 8 by omega) ?_
      refine P'.mst (k := 126) (i := i) (z := t i) (by decide) (by decide) rfl rfl (by rw [m1 131 (by decide), k2 i hi]) (show _ < 4 by omega) (fun h3 P3 => ?_)
      refine P3.md (k := 126) (i := i) ⟨by decide, by decide, rfl, rfl⟩ rfl (show _ < 4 by omega) ?_
      rw [su_at, ii_add, ii_inc']
      refine ih _ h3 P3 (fun k hk => by rw [su_row _ _ hk, m1 k hk]) (fun j hj => ?_) (fun j hj => ?_)
      · by_cases y : j = i
        · subst y; rw [su_at]
        · rw [su_nei _ _ _ y, m2 j (by omega)]
      · rw [su_nei _ _ _ (by omega), m3 j (by omega)]
  have := main 0 (Nat.zero_le _) S2 h2 P2 (fun _ _ => rfl) (fun j hj => by omega) (fun j _ => by rw [k1 126 (by decide), f0 126 (by decide)])
  exact this
end MB
