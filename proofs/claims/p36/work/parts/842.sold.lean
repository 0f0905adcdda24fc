/-! a selling, as the law looks at it -/
/-- the law's own row, new -/
def s90 (S : Nat → Nat → Int) : Nat → Nat → Int := fun k i => if k = 90 then (if i = 6 then 4294967296 else 0) else S k i
theorem s90_k {S : Nat → Nat → Int} {k : Nat} (h : k ≠ 90) : s90 S k = S k := by funext i; unfold s90; rw [if_neg h]
theorem s90_6 {S : Nat → Nat → Int} : s90 S 90 6 ≠ 0 := by
  have e : s90 S 90 6 = 4294967296 := rfl
  rw [e]; decide
theorem s90_z {S : Nat → Nat → Int} (i : Nat) : ii (s90 S 90 i) = 0 := by
  unfold s90
  rw [if_pos rfl]
  split <;> decide
section SOL
variable {G : Gx} {A : Nat → Nat} {B : Nat → Nat → Nat} {S : Nat → Nat → Int} {h : hw} {c : Nat} {post : Int32 → hw → Prop}
theorem Pic.n90 (P : Pic G A B S h) (h5 : S 50 2 ≤ 10) (h5' : S 51 2 ≤ 10) {x : Int32} (hx : x = ii ((6 : Nat) : Int)) {K : Nat → hw → Prop} (q : ∀ A' h', Pic G A' B (s90 S) h' → A' 0 = A 0 → K (A' 90) h') : nwI G h x 6 K := by
  subst hx
  refine ⟨by decide, by decide, by decide, fun a ha _ => ?_⟩
  have e6 : (ii ((6 : Nat) : Int)).toNatClampNeg = 6 := by decide
  rw [e6]
  obtain ⟨P1, fr⟩ := P.fresh (e := .inl (G.2.2.1.1, 6, .inl (fun _ => (0 : Int32)))) ha
  obtain ⟨A', hA'⟩ : ∃ A' : Nat → Nat, A' = fun k => if k = 90 then a else A k := ⟨_, rfl⟩
  have a9 : A' 90 = a := by rw [hA']; exact if_pos rfl
  have ak : ∀ k, k ≠ 90 → A' k = A k := fun k hk => by rw [hA']; exact if_neg hk
  have e5 : s90 S 50 = S 50 := s90_k (by decide)
  have e51 : s90 S 51 = S 51 := s90_k (by decide)
  have pic : Pic G A' B (s90 S) (hwu h a (.inl (G.2.2.1.1, 6, .inl (fun _ => (0 : Int32))))) := by
    refine P.anew (fun k => k = 90) (fun k hk => ⟨?_, ak k hk⟩) (fun k e _ hk => P1.1 k e hk) (fun k e hk he => ?_) (fun k k' e e' hk he he' hkk => ?_) (fun j i hj hi => ?_)
    · refine ctn_cg (fun j hj => ak j (by omega)) (fun _ _ _ _ => s90_k hk) (fun _ => ak 52 (by decide)) (fun _ => ak 53 (by decide)) (fun _ => ?_) (fun _ => ?_) (fun _ _ => by rw [e5]) (fun _ _ => by rw [e51])
      · rw [e5]
        have f : (fun i : Nat => if (i : Int) < S 50 2 then some (A' (60 + i)) else none) = fun i : Nat => if (i : Int) < S 50 2 then some (A (60 + i)) else none := by
          funext i
          by_cases y : (i : Int) < S 50 2
          · rw [if_pos y, if_pos y, ak _ (by omega)]
          · rw [if_neg y, if_neg y]
        unfold ctLA
        rw [f]
      · rw [e51]
        have f : (fun i : Nat => if (i : Int) < S 51 2 then some (A' (70 + i)) else none) = fun i : Nat => if (i : Int) < S 51 2 then some (A (70 + i)) else none := by
          funext i
          by_cases y : (i : Int) < S 51 2
          · rw [if_pos y, if_pos y, ak _ (by omega)]
          · rw [if_neg y, if_neg y]
        unfold ctLA
        rw [f]
    · subst hk
      rw [ctn_90 s90_6] at he
      cases he
      rw [a9]
      show (if a = a then _ else _) = _
      rw [if_pos rfl]
      have f : (fun i => ii (s90 S 90 i)) = fun _ => (0 : Int32) := funext s90_z
      rw [f]
    · subst hk
      by_cases y : k' = 90
      · exact y.symm
      · rw [a9, ak k' y] at hkk
        refine absurd hkk.symm ?_
        have g : ctn G A' B (s90 S) k' = ctn G A B S k' := by
          refine ctn_cg (fun j hj => ak j (by omega)) (fun _ _ _ _ => s90_k y) (fun _ => ak 52 (by decide)) (fun _ => ak 53 (by decide)) (fun _ => ?_) (fun _ => ?_) (fun _ _ => by rw [e5]) (fun _ _ => by rw [e51])
          · rw [e5]
            have f : (fun i : Nat => if (i : Int) < S 50 2 then some (A' (60 + i)) else none) = fun i : Nat => if (i : Int) < S 50 2 then some (A (60 + i)) else none := by
              funext i
              by_cases y : (i : Int) < S 50 2
              · rw [if_pos y, if_pos y, ak _ (by omega)]
              · rw [if_neg y, if_neg y]
            unfold ctLA
            rw [f]
          · rw [e51]
            have f : (fun i : Nat => if (i : Int) < S 51 2 then some (A' (70 + i)) else none) = fun i : Nat => if (i : Int) < S 51 2 then some (A (70 + i)) else none := by
              funext i
              by_cases y : (i : Int) < S 51 2
              · rw [if_pos y, if_pos y, ak _ (by omega)]
              · rw [if_neg y, if_neg y]
            unfold ctLA
            rw [f]
        rw [g] at he'
        exact fr k' _ he'
    · rw [s90_k (by decide)] at hj
      rw [s90_k (by omega)] at hi
      rw [s90_k (by omega)]
      exact P1.2.2 j i hj hi
  have := q A' _ pic (ak 0 (by decide))
  rw [a9] at this
  exact this
theorem Pic.sold (P : Pic G A B S h) (I : VI G S c) (hc : c ≤ 511) (hL : GsL G ≤ 260) {i : Nat} (hi : i ≤ 1000) {x y : Int32} (hx : x = ii (i : Int)) (hy : y = ii (S 3 1)) {bc bs : Nat} (hbc : 200 ≤ bc) (hbs : 1000 ≤ bs) (q : ∀ A' S' h', Pic G A' B S' h' → A' 0 = A 0 → VI G S' c → S' 3 1 = S 3 1 → S' 8 = S 8 → post 1 h') : wp_L_isSold G (A 0) (Gsb G) x y h bc bs post := by
  subst hx hy
  refine ⟨by omega, by omega, ?_⟩
  refine P.n90 (by rw [vi_50 I]; decide) (by rw [vi_51 I]; decide) (by decide) (fun A1 h1 P1 e0 => ?_)
  rw [← e0] at q ⊢
  have r32 : ∀ j, rg (S 32 j) := fun j => by have := vi_32 I j; exact ⟨by omega, by omega⟩
  have rm1 : rg (-1) := ⟨by decide, by decide⟩
  intro J hJ
  have m1 : ∀ k : Nat, k ≤ 6 → ∀ (S1 : Nat → Nat → Int) (h : hw) (uc us : Nat), Pic G A1 B S1 h → (∀ t, t ≠ 90 → S1 t = S t) → S1 90 6 ≠ 0 → (∀ j, j < k → S1 90 j = S 32 j) → uc ≤ 1 + 5 * k → us ≤ 6 + 34 * k → J (ii (k : Int)) h uc us := by
    intro k hk
    refine lp_up (J := fun k : Nat => ∀ (S1 : Nat → Nat → Int) (h : hw) (uc us : Nat), Pic G A1 B S1 h → (∀ t, t ≠ 90 → S1 t = S t) → S1 90 6 ≠ 0 → (∀ j, j < k → S1 90 j = S 32 j) → uc ≤ 1 + 5 * k → us ≤ 6 + 34 * k → J (ii (k : Int)) h uc us) (n := 6) ?_ ?_ hk
    · intro S1 h uc us P1 f1 f6 f9 hu hs
      have I1 : VI G S1 c := vi_scr I (fun t ht => f1 t (fun z => ht (by unfold scr; omega))) (by rw [f1 39 (by decide)]; exact vi_39 I) (by rw [f1 49 (by decide)]; exact vi_49 I)
      have e3 : S1 3 1 = S 3 1 := by rw [f1 3 (by decide)]
      have e8 : S1 8 = S 8 := f1 8 (by decide)
      have e32 : S1 32 = S 32 := f1 32 (by decide)
      refine hJ _ _ _ _ ⟨fun _ => ?_, fun z => absurd (by decide) z⟩
      refine pick_of (i := i) (m := 80) hL (by omega) ⟨by decide, by decide⟩ rfl (by decide) (fun a0 a1 => ?_)
      refine pick_of (i := i + 1) (m := 20) hL (by omega) ⟨by decide, by decide⟩ (by rw [il_1, ii_add]; exact congrArg ii (by omega)) il_20 (fun b0 b1 => ?_)
      refine pick_of (i := i + 2) (m := 4) hL (by omega) ⟨by decide, by decide⟩ (by rw [il_2, ii_add]; exact congrArg ii (by omega)) il_4 (fun d0 d1 => ?_)
      have x1 : (1 : Int32) + ii (pk G i 80) = ii (1 + pk G i 80) := by rw [il_1, ii_add]
      refine ⟨by omega, by omega, ?_⟩
      refine P1.d11 I1 hc (pr := 1 + pk G i 80) (stp := 1 + pk G (i + 1) 20) (C := 1 + pk G (i + 2) 4) ⟨by omega, by omega⟩ ⟨by omega, by omega⟩ ⟨by omega, by omega⟩ x1 (by rw [il_1, ii_add]) (by rw [il_1, ii_add]) (fun S2 h2 P2 I2 g3 g8 g9 g64 gn gy => ?_) (fun S2 h2 P2 I2 g3 g8 g9 => ?_)
      · intro J88 h88
        have m2 : ∀ k : Nat, k ≤ 6 → ∀ (h : hw) (uc us : Nat), Pic G A1 B S2 h → uc ≤ 36 + 15 * k → us ≤ 244 + 102 * k → J88 (ii (cnt (fun j => decide (S2 42 j ≠ -1)) k)) 1 (ii (k : Int)) h uc us := by
          intro k hk
          refine lp_up (J := fun k : Nat => ∀ (h : hw) (uc us : Nat), Pic G A1 B S2 h → uc ≤ 36 + 15 * k → us ≤ 244 + 102 * k → J88 (ii (cnt (fun j => decide (S2 42 j ≠ -1)) k)) 1 (ii (k : Int)) h uc us) (n := 6) ?_ ?_ hk
          · intro h uc us P2 hu hs
            refine h88 _ _ _ _ _ _ ?_
            intro J246 h246
            have g : J246 := by
              refine h246 ?_
              intro J277 _
              refine ⟨fun z => absurd z (by decide), fun _ => ?_⟩
              intro J273 h273
              have g1 : J273 := h273 ⟨by omega, by omega, q A1 S2 h P2 rfl I2 (g3.trans e3) (g8.trans e8)⟩
              refine ⟨fun _ => g1, fun _ => ⟨fun z => absurd rfl z, fun _ => ⟨P2.o (k := 0) rfl, P2.c_rounds ?_⟩⟩⟩
              rw [iilt (a := S2 6 4) (b := 0) rfl il_0 ⟨by omega, by omega⟩ ⟨by omega, by omega⟩]
              exact ⟨fun z => absurd z (by omega), fun _ => g1⟩
            exact ⟨fun _ => g, fun z => absurd (by decide) z⟩
          · intro k hk ih h uc us P2 hu hs
            refine h88 _ _ _ _ _ _ ?_
            intro J246 _
            have ct := cnt_in (fun j => decide (S2 42 j ≠ -1)) 6
            rw [lei (m := 6) (by decide) (by decide) (by omega), ii_inc' k, iilt (a := cnt (fun j => decide (S2 42 j ≠ -1)) 6) (b := 0) rfl il_0 ⟨by omega, by omega⟩ ⟨by omega, by omega⟩]
            refine ⟨fun z => absurd z (by omega), fun _ => ⟨fun z => absurd z (by decide), fun _ => ⟨fun z => absurd z (by omega), fun _ => ⟨by omega, by omega, ?_⟩⟩⟩⟩
            refine P2.a29 I2 hk rfl (fun v rv va vb => ?_)
            intro J131 h131
            have ev : (v = -20005) = (S2 42 k = -1) := by
              refine propext ⟨fun z => ?_, va⟩
              by_cases y : S2 42 k = -1
              · exact y
              · have := (vb y).2; omega
            have g : J131 (ii (cnt (fun j => decide (S2 42 j ≠ -1)) k)) (ii (bI (decide (S2 42 k ≠ -1)))) := by
              refine h131 _ _ (told_of rfl ?_)
              have e5 : ii (cnt (fun j => decide (S2 42 j ≠ -1)) k) + ii (bI (decide (S2 42 k ≠ -1))) = ii (cnt (fun j => decide (S2 42 j ≠ -1)) (k + 1)) := by rw [ii_add]; rfl
              rw [e5]
              intro J238 h238
              have g2 : ∀ (h : hw) (uc us : Nat), Pic G A1 B S2 h → uc ≤ 36 + 15 * (k + 1) → us ≤ 244 + 102 * (k + 1) → J238 1 h uc us := fun h uc us P hu hs => h238 _ _ _ _ (ih h uc us P hu hs)
              have f6' : S2 90 6 ≠ 0 := by rw [g9]; exact f6
              have f9' : S2 90 k = S 32 k := by rw [g9]; exact f9 k hk
              have n32 : rg (S2 32 k) := by have := vi_32 I2 k; exact ⟨by omega, by omega⟩
              rw [iieq (a := v) im5 rv ⟨by decide, by decide⟩, ev]
              refine ⟨fun y => ?_, fun y => ⟨by omega, by omega, ?_⟩⟩
              · obtain ⟨y1, y2, y3, y4, y5⟩ := gy k hk y
                have evv := (vb y).1
                subst evv
                rw [e32] at y2
                refine isProt_of hL (by omega) rfl ?_
                rw [y1]
                intro J237 _
                refine ⟨fun z => absurd z (by decide), fun _ => ?_⟩
                refine P2.wld f6' rfl hk ?_
                rw [f9', iieq (a := S 32 k) il_m1 (r32 k) rm1]
                refine ⟨fun z => absurd z y2, fun _ => ⟨by omega, by omega, ?_⟩⟩
                refine P2.k25 I2 hc hk rfl (by rw [g3, e3]) ?_
                rw [y3]
                refine ⟨fun z => absurd il_m1.symm z, fun _ => ?_⟩
                rw [x1, iilt (a := 1 + pk G i 80) (b := S2 42 k) rfl rfl ⟨by omega, by omega⟩ rv]
                refine ⟨fun z => absurd z (by omega), fun _ => ?_⟩
                refine pick_of (i := 170 + k) (m := 60) hL (by omega) ⟨by decide, by decide⟩ (by rw [show (170 : Int32) = ii 170 by decide, ii_add]; exact congrArg ii (by omega)) il_60 (fun t0 t1 => ?_)
                refine ⟨by omega, by omega, ?_⟩
                refine P2.d10 I2 hk rfl rfl (fun h3 P3 => ?_)
                rw [iilt (a := S2 42 k) (b := pk G (170 + k) 60) rfl rfl rv ⟨by omega, by omega⟩]
                exact ⟨fun z => absurd z (by omega), fun _ => g2 h3 _ _ P3 (by omega) (by omega)⟩
              · refine P2.k25 I2 hc hk rfl (by rw [g3, e3]) ?_
                refine P2.wld f6' rfl hk ?_
                rw [f9', gn k hk y, e32]
                exact ⟨fun z => absurd rfl z, fun _ => g2 h _ _ P2 (by omega) (by omega)⟩
            rw [iieq (a := v) im5 rv ⟨by decide, by decide⟩, ev]
            refine ⟨fun y => ?_, fun y => ?_⟩
            · rw [decide_eq_false (p := S2 42 k ≠ -1) (fun z => z y)] at g; exact g
            · rw [decide_eq_true (p := S2 42 k ≠ -1) y] at g; exact g
        exact m2 0 (by decide) h2 _ _ P2 (by omega) (by omega)
      · intro J88 h88
        refine h88 _ _ _ _ _ _ ?_
        intro J246 h246
        have g : J246 := by
          refine h246 ?_
          intro J277 _
          refine ⟨fun z => absurd z (by decide), fun _ => ?_⟩
          intro J273 h273
          have g1 : J273 := h273 ⟨by omega, by omega, q A1 S2 h2 P2 rfl I2 (g3.trans e3) (g8.trans e8)⟩
          exact ⟨fun _ => g1, fun z => absurd rfl z⟩
        exact ⟨fun _ => g, fun _ => ⟨fun _ => g, fun _ => ⟨fun _ => g, fun z => absurd (by decide) z⟩⟩⟩
    · intro k hk ih S1 h uc us P1 f1 f6 f9 hu hs
      have I1 : VI G S1 c := vi_scr I (fun t ht => f1 t (fun z => ht (by unfold scr; omega))) (by rw [f1 39 (by decide)]; exact vi_39 I) (by rw [f1 49 (by decide)]; exact vi_49 I)
      have e32 : S1 32 = S 32 := f1 32 (by decide)
      refine hJ _ _ _ _ ?_
      rw [lei (m := 6) (by decide) (by decide) (by omega), ii_inc' k]
      refine ⟨fun z => absurd z (by omega), fun _ => ⟨by omega, by omega, ?_⟩⟩
      refine P1.k25 I1 hc hk rfl (by rw [f1 3 (by decide)]) ?_
      refine P1.wst f6 (z := S1 32 k) rfl rfl hk (fun h2 P2 => ?_)
      refine ih (su S1 90 k (S1 32 k)) h2 _ _ P2 (fun t ht => by rw [su_row _ _ ht, f1 t ht]) (by rw [su_nei _ _ _ (by omega)]; exact f6) (fun j hj => ?_) (by omega) (by omega)
      by_cases w : j = k
      · subst w; rw [su_at, e32]
      · rw [su_nei _ _ _ w]; exact f9 j (by omega)
  exact m1 0 (by decide) (s90 S) h1 _ _ P1 (fun t ht => s90_k ht) s90_6 (fun j hj => by omega) (by decide) (by decide)
end SOL
