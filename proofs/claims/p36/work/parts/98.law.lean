/-! the law -/
set_option maxRecDepth 10000 in
set_option maxHeartbeats 8000000 in
theorem law_holds {G : Gx} (hG : GOK G) (hL : GsL G ≤ 260) : wp_law G (Gsb G) (Gro G) := by
  refine init_all (B := fun _ _ => 0) (fun A0 h0 P0 => ?_)
  refine ⟨1000, 10000, by decide, by decide, ?_⟩
  refine P0.build hL (by decide) (by decide) (fun A S1 h1 P1 e1 L1 => ?_)
  rw [← e1]
  intro J15 h15
  have mb : ∀ i : Nat, i ≤ 4 → ∀ (S : Nat → Nat → Int) (h : hw) (uc us : Nat), Pic G A (fun _ _ => 0) S h → LF G S i → uc ≤ 1051 + 5 * i → us ≤ 15200 + 34 * i → J15 (ii (i : Int)) h uc us := by
    intro i hi
    refine lp_up (J := fun i : Nat => ∀ (S : Nat → Nat → Int) (h : hw) (uc us : Nat), Pic G A (fun _ _ => 0) S h → LF G S i → uc ≤ 1051 + 5 * i → us ≤ 15200 + 34 * i → J15 (ii (i : Int)) h uc us) (n := 4) ?_ ?_ hi
    · intro S h uc us P L hu hs
      have I := vi_0 L
      have s3 : S 3 1 = 0 := by rw [L.2.1 3 (fun z => by unfold lkx lkb at z; omega)]; rfl
      have s8 : S 8 1 = 0 := by rw [L.2.1 8 (fun z => by unfold lkx lkb at z; omega)]; rfl
      refine h15 _ _ _ _ ⟨fun _ => ⟨1000, 6800, by omega, by omega, ?_⟩, fun z => absurd (by decide) z⟩
      refine P.losses I (by decide) (by decide) ?_
      intro J75 h75 J74 _
      refine ⟨fun z => absurd z (by decide), fun _ => ⟨3000, 20000, by omega, by omega, ?_⟩⟩
      refine P.packs I hL (by decide) (by decide) (fun S2 h2 P2 I2 f2 => ?_)
      have t3 : S2 3 1 = 0 := by rw [f2 3 (fun z => by unfold kp5 at z; omega)]; exact s3
      have t8 : S2 8 1 = 0 := by rw [f2 8 (fun z => by unfold kp5 at z; omega)]; exact s8
      refine ⟨fun z => absurd z (by decide), fun _ => h75 _ _ _ _ ?_⟩
      intro J84 h84
      have ml : ∀ k : Nat, k ≤ 40 → ∀ (A' : Nat → Nat) (S : Nat → Nat → Int) (h : hw) (w : Bool) (uc us : Nat), Pic G A' (fun _ _ => 0) S h → A' 0 = A 0 → VI G S (2 * k) → (w = false → S 8 1 = 0) → uc ≤ 10000 + 1000 * k → us ≤ 50000 + 6000 * k → J84 1 (ii (bI w)) (ii (S 3 1)) (ii (k : Int)) h uc us := by
        intro k hk
        refine lp_up (J := fun k : Nat => ∀ (A' : Nat → Nat) (S : Nat → Nat → Int) (h : hw) (w : Bool) (uc us : Nat), Pic G A' (fun _ _ => 0) S h → A' 0 = A 0 → VI G S (2 * k) → (w = false → S 8 1 = 0) → uc ≤ 10000 + 1000 * k → us ≤ 50000 + 6000 * k → J84 1 (ii (bI w)) (ii (S 3 1)) (ii (k : Int)) h uc us) (n := 40) ?_ ?_ hk
        · intro A' S h w uc us P e0 I hw9 hu hs
          exact h84 _ _ _ _ _ _ _ ⟨fun _ => ⟨rfl, by omega, by omega⟩, fun z => absurd (by decide) z⟩
        · intro k hk ih A1 S h w uc us P e0 I hw9 hu hs
          have hc : 2 * k ≤ 500 := by omega
          have hc5 : 2 * k ≤ 511 := by omega
          have hc7 : 2 * k + 2 ≤ 511 := by omega
          refine h84 _ _ _ _ _ _ _ ?_
          rw [lei (m := 40) (by decide) (by decide) (by omega), ii_inc' k, ← e0]
          have b0 : (210 : Int32) + 6 * ii (k : Int) = ii ((210 + 6 * k : Nat) : Int) := by
            rw [show (210 : Int32) = ii 210 by decide, show (6 : Int32) = ii 6 by decide, ii_mul, ii_add]
            exact congrArg ii (by omega)
          rw [b0]
          have bn : ∀ n : Nat, ii ((210 + 6 * k : Nat) : Int) + ii (n : Int) = ii ((210 + 6 * k + n : Nat) : Int) := fun n => by
            rw [ii_add]; exact congrArg ii (by omega)
          refine ⟨fun z => absurd z (by omega), fun _ => ⟨fun z => absurd z (by decide), fun _ => ?_⟩⟩
          refine pick_of (i := 210 + 6 * k + 1) (m := 6) hL (by omega) ⟨by decide, by decide⟩ (bn 1) (by decide) (fun j0 j1 => ?_)
          refine pick_of (i := 210 + 6 * k + 2) (m := 8) hL (by omega) ⟨by decide, by decide⟩ (bn 2) il_8 (fun u0 u1 => ?_)
          obtain ⟨j, hj⟩ : ∃ j : Nat, pk G (210 + 6 * k + 1) 6 = j := ⟨(pk G (210 + 6 * k + 1) 6).toNat, by omega⟩
          obtain ⟨u, hu8⟩ : ∃ u : Nat, pk G (210 + 6 * k + 2) 8 = u := ⟨(pk G (210 + 6 * k + 2) 8).toNat, by omega⟩
          rw [hj] at j1 ⊢
          rw [hu8] at u1 ⊢
          have j6 : j < 6 := by omega
          have u8 : u < 8 := by omega
          have c32 := vi_32 I j
          have dy := vi_day I hc5
          refine ⟨by omega, by omega, ?_⟩
          refine P.k25 I hc5 j6 rfl rfl ?_
          refine pick_of (i := 210 + 6 * k) (m := 12) hL (by omega) ⟨by decide, by decide⟩ rfl il_12 (fun r0 r1 => ?_)
          rw [ii_toInt ⟨by omega, by omega⟩]
          intro J548 h548
          have fin : ∀ (A' : Nat → Nat) (S' : Nat → Nat → Int) (h' : hw) (w' : Bool) (uc' us' : Nat), Pic G A' (fun _ _ => 0) S' h' → A' 0 = A1 0 → VI G S' (2 * k + 2) → (w' = false → S' 8 1 = 0) → uc' ≤ uc + 250 → us' ≤ us + 1100 → J548 1 (ii (bI w')) (ii (S' 3 1)) h' uc' us' := by
            intro A' S' h' w' uc' us' P' e' I' hw' hu' hs'
            refine h548 _ _ _ _ _ _ ?_
            intro J568 h568 J567 _
            refine ⟨fun z => absurd z (by decide), fun _ => ⟨700, 4800, by omega, by omega, ?_⟩⟩
            rw [← e']
            refine P'.kept I' hc7 hL hw' rfl rfl (by decide) (by decide) ?_
            exact ⟨fun z => absurd z (by decide), fun _ => h568 _ _ _ _ (ih A' S' h' w' _ _ P' (e'.trans e0) I' hw' (by omega) (by omega))⟩
          intro J200 h200
          have g200 : J200 := by
            refine h200 ⟨by omega, by omega, ?_⟩
            refine P.d4 I hc5 j6 u8 rfl rfl (fun v S' h' P' I' g3 g8 e32 rv pv => ?_) (fun v S' h' hv P' I' g3 g8 e32 => ?_)
            · intro J289 h289
              rw [iilt (a := v) (b := 0) rfl il_0 ⟨by omega, by omega⟩ ⟨by omega, by omega⟩]
              refine ⟨fun z => absurd z (by omega), fun _ => ⟨by omega, by omega, ?_⟩⟩
              refine P'.k25 I' hc5 j6 rfl (by rw [g3]) ?_
              rw [e32]
              intro J249 _
              refine ⟨fun z => absurd rfl z, fun _ => ?_⟩
              intro J245 h245
              have f := fin A1 S' h' w ((uc + 5) + 5 + 5) ((us + 34) + 34 + 34) P' rfl (vi_nx I') (fun z => by rw [g8]; exact hw9 z) (by omega) (by omega)
              rw [g3] at f
              have g : J245 := h245 (h289 _ _ _ _ f)
              refine ⟨fun _ => g, fun z => ?_⟩
              refine isProt_of hL (by omega) rfl ?_
              rcases pv with y | y
              · rw [y] at z
                exact absurd rfl z
              · rw [y]
                exact ⟨fun z => absurd z (by decide), fun _ => g⟩
            · have f := fin A1 S' h' w ((uc + 5) + 5 + 5) ((us + 34) + 34 + 34) P' rfl (vi_nx I') (fun z => by rw [g8]; exact hw9 z) (by omega) (by omega)
              rw [g3] at f
              intro J289 h289
              have neg : v < 0 := by
                rcases hv with y | y <;> rw [y] <;> decide
              refine ⟨fun _ => ⟨by omega, by omega, ?_⟩, fun z => absurd neg z⟩
              refine P'.k25 I' hc5 j6 rfl (by rw [g3]) ?_
              rw [e32]
              intro J288 _
              refine ⟨fun z => absurd rfl z, fun _ => ?_⟩
              intro J284 h284
              have g : J284 := h284 (h289 _ _ _ _ f)
              refine ⟨fun _ => g, fun z => ⟨fun z2 => ?_, fun _ => g⟩⟩
              rcases hv with y | y
              · exact absurd y z
              · exact absurd y z2
          refine ⟨fun _ => g200, fun _ => g200, fun _ => g200, fun _ => g200, fun _ => ⟨by omega, by omega, ?_⟩, fun _ => ⟨by omega, by omega, ?_⟩, fun _ => ⟨200, 1000, by omega, by omega, ?_⟩, fun _ => ⟨100, 700, by omega, by omega, ?_⟩, fun _ => ?_, fun _ => ?_⟩
          · refine P.d5 I hc5 j6 rfl (fun S' h' P' I' g3 g8 e32 => ?_)
            have f := fin A1 S' h' w ((uc + 5) + 5 + 5) ((us + 34) + 34 + 34) P' rfl (vi_nx I') (fun z => by rw [g8]; exact hw9 z) (by omega) (by omega)
            rw [g3] at f
            intro J325 h325 J324 _
            refine ⟨fun z => absurd rfl z, fun _ => ⟨by omega, by omega, ?_⟩⟩
            refine P'.k25 I' hc5 j6 rfl (by rw [g3]) ?_
            rw [e32]
            exact ⟨fun z => absurd il_m1.symm z, fun _ => h325 _ _ _ _ f⟩
          · refine P.d7 I hc5 j6 u8 rfl rfl (fun S' h' P' I' g3 g8 e37 => ?_)
            intro J390 h390 J389 _
            have e9 : ii (S 3 1) + 3 = ii (S 3 1 + 3) := by rw [il_3, ii_add]
            rw [e9]
            refine ⟨fun z => absurd rfl z, fun _ => ⟨by omega, by omega, ?_⟩⟩
            refine P'.k26 I' j6 u8 rfl rfl ?_
            have ny : yes S' (j * 8 + u) = false := by
              unfold yes
              rw [e37, g3, decide_eq_false (p := S 3 1 + 3 ≤ S 3 1) (by omega), Bool.and_false, Bool.and_false]
            rw [ny]
            refine ⟨fun z => absurd rfl z, fun _ => ?_⟩
            refine pick_of (i := 210 + 6 * k + 3) (m := 2) hL (by omega) ⟨by decide, by decide⟩ (bn 3) il_2 (fun t0 t1 => ?_)
            intro J385 h385
            refine ⟨fun _ => ?_, fun _ => ⟨by omega, by omega, ?_⟩⟩
            · have f := fin A1 S' h' w ((uc + 5) + 5 + 5) ((us + 34) + 34 + 34) P' rfl (vi_nx I') (fun z => by rw [g8]; exact hw9 z) (by omega) (by omega)
              rw [g3] at f
              exact h385 _ _ _ (h390 _ _ _ _ f)
            · refine P'.d8 I' hc5 j6 u8 (by rw [e37, g3]) rfl rfl (fun S4 h4 P4 I4 k3 k8 => ?_)
              have f := fin A1 S4 h4 w ((uc + 5) + 5 + 5 + 5) ((us + 34) + 34 + 34 + 34) P4 rfl (vi_nx I4) (fun z => by rw [k8, g8]; exact hw9 z) (by omega) (by omega)
              rw [k3, g3] at f
              exact ⟨fun z => absurd rfl z, fun _ => h385 _ _ _ (h390 _ _ _ _ f)⟩
          · refine P.sold I hc5 hL (i := 210 + 6 * k + 2) (by omega) (bn 2) rfl (by decide) (by decide) (fun A' S' h' P' e' I' g3 g8 => ?_)
            have f := fin A' S' h' w ((uc + 5) + 200) ((us + 34) + 1000) P' e' (vi_nx I') (fun z => by rw [g8]; exact hw9 z) (by omega) (by omega)
            rw [g3] at f
            exact f
          · refine P.bougt I hL (i := 210 + 6 * k + 2) (by omega) (bn 2) (by decide) (by decide) (fun S' h' P' I' g3 g8 => ?_)
            have f := fin A1 S' h' w ((uc + 5) + 100) ((us + 34) + 700) P' rfl (vi_nx I') (fun z => by rw [g8]; exact hw9 z) (by omega) (by omega)
            rw [g3] at f
            exact f
          · refine pick_of (i := 210 + 6 * k + 3) (m := 3) hL (by omega) ⟨by decide, by decide⟩ (bn 3) il_3 (fun t0 t1 => ?_)
            refine ⟨fun _ => fin A1 S h w _ _ P rfl (vi_nx I) hw9 (by omega) (by omega), fun _ => ⟨100, 700, by omega, by omega, ?_⟩⟩
            refine P.moved I hc5 hL (i := 210 + 6 * k + 4) (by omega) (bn 4) rfl (by decide) (by decide) (fun S' h' P' I' g3 => ?_)
            have f := fin A1 S' h' true ((uc + 5) + 100) ((us + 34) + 700) P' rfl (vi_nx I') (fun z => by cases z) (by omega) (by omega)
            rw [g3] at f
            exact f
          · refine pick_of (i := 210 + 6 * k + 2) (m := 4) hL (by omega) ⟨by decide, by decide⟩ (bn 2) il_4 (fun p0 p1 => ?_)
            have e9 : (1 : Int32) + ii (pk G (210 + 6 * k + 2) 4) = ii (1 + pk G (210 + 6 * k + 2) 4) := by rw [il_1, ii_add]
            have e10 : ii (S 3 1) + ii (1 + pk G (210 + 6 * k + 2) 4) = ii (S 3 1 + (1 + pk G (210 + 6 * k + 2) 4)) := by rw [ii_add]
            have e11 : ii (S 3 1 + (1 + pk G (210 + 6 * k + 2) 4)) + 1 = ii (S 3 1 + (1 + pk G (210 + 6 * k + 2) 4) + 1) := by rw [il_1, ii_add]
            rw [e9, e10, e11]
            refine ⟨by omega, by omega, ?_⟩
            refine P.d9 I hc (d := 1 + pk G (210 + 6 * k + 2) 4) ⟨by omega, by omega⟩ rfl (fun S' h' P' I' g3 g8 e32 eL => ?_)
            have f := fin A1 S' h' w ((uc + 5) + 5 + 5 + 5 + 5) ((us + 34) + 34 + 34 + 34 + 34) P' rfl I' (fun z => by rw [g8]; exact hw9 z) (by omega) (by omega)
            rw [g3] at f
            intro J540 h540 J539 _
            refine ⟨fun z => absurd rfl z, fun _ => ⟨by omega, by omega, ?_⟩⟩
            refine P'.k25d I' hc7 j6 (d := S 3 1) ⟨by omega, by omega⟩ rfl rfl ?_
            rw [eL, (vi_ri I).holds (by omega)]
            refine ⟨fun z => absurd rfl z, fun _ => ⟨by omega, by omega, ?_⟩⟩
            refine P'.k25 I' hc7 j6 rfl (by rw [g3]) ?_
            rw [e32]
            refine ⟨fun z => absurd rfl z, fun _ => ⟨by omega, by omega, ?_⟩⟩
            refine P'.k25x I' hc7 j6 (d := S 3 1 + (1 + pk G (210 + 6 * k + 2) 4) + 1) ⟨by omega, by omega⟩ rfl rfl ?_
            exact ⟨fun z => absurd rfl z, fun _ => h540 _ _ _ _ f⟩
      have m := ml 0 (by decide) A S2 h2 false (uc + 1000 + 3000) (us + 6800 + 20000) P2 rfl I2 (fun _ => t8) (by omega) (by omega)
      rw [t3] at m
      exact m
    · intro i hi ih S h uc us P L hu hs
      refine h15 _ _ _ _ ?_
      rw [lei (m := 4) (by decide) (by decide) (by omega), ii_inc' i]
      refine ⟨fun z => absurd z (by omega), fun _ => ?_⟩
      refine pick_of (i := 190 + 3 * i) (m := 90) hL (by omega) ⟨by decide, by decide⟩ (by rw [show (190 : Int32) = ii 190 by decide, il_3, ii_mul, ii_add]; exact congrArg ii (by omega)) (by decide) (fun w0 w1 => ?_)
      refine ⟨by decide, by decide, by omega, by omega, ?_⟩
      have d2 : ii (pk G (190 + 3 * i) 90) / 2 = ii (pk G (190 + 3 * i) 90 / 2) := by
        rw [il_2, ii_div ⟨by omega, by omega⟩ ⟨by decide, by decide⟩ (by decide), Int.tdiv_eq_ediv_of_nonneg w0]
      have d3 : ii (pk G (190 + 3 * i) 90) / 3 = ii (pk G (190 + 3 * i) 90 / 3) := by
        rw [il_3, ii_div ⟨by omega, by omega⟩ ⟨by decide, by decide⟩ (by decide), Int.tdiv_eq_ediv_of_nonneg w0]
      rw [d2, d3]
      have l7 := L.2.2.2.2.2.2.2.2.1
      refine deed_12 (P.o (k := 0) rfl) ?_
      refine P.c_addBidder L.2.2.2.2.2.2.2.1 ⟨by omega, by omega⟩ ⟨by omega, by omega⟩ ⟨by omega, by omega⟩ (fun _ _ _ _ S2 h2 P2 k2 e46 e7 => ?_) (fun z => absurd ⟨⟨by omega, by omega⟩, ⟨by omega, by omega⟩, by omega, by omega⟩ z) (fun _ _ _ z => absurd (by omega) z)
      exact ih S2 h2 _ _ P2 (L.ad (by omega) k2 e46 e7) (by omega) (by omega)
  exact mb 0 (by decide) S1 h1 _ _ P1 L1 (by decide) (by decide)
