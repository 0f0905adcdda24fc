/-! the reference: a whole move, from phase to phase -/
def mv_body (G : Gx) (p0 : Nat) (p1 : Int32) (bc bs : Nat) (post : Int32 → hw → Prop) (J249 : Int32 → Int32 → Int32 → hw → Nat → Nat → Prop) : Prop := (∀ (x2_21 : Int32) (x3_22 : Int32) (x4_23 : Int32) (h24 : hw) (uc25 : Nat) (us26 : Nat), (((x4_23 = 0 → (uc25 ≤ bc ∧ us26 ≤ bs ∧ post x3_22 h24)) ∧ (¬ x4_23 = 0 → ∀ J260 : Int32 → Int32 → hw → Nat → Nat → Prop, (∀ (x5_27 : Int32) (x6_28 : Int32) (h29 : hw) (uc30 : Nat) (us31 : Nat), (rdI h29 p0 12 4 (fun v32 => ((v32 ≤ x6_28 → (isO h29 p0 12 ∧ wp_X12_lowestOn G p0 h29 (fun r33 => ∀ J377 : hw → Nat → Nat → Prop, (∀ (h34 : hw) (uc35 : Nat) (us36 : Nat), (∀ J393 : Int32 → Prop, (∀ (t37 : Int32), (∀ J406 : Int32 → Int32 → Prop, (∀ (t38 : Int32) (t39 : Int32), (∀ J422 : Int32 → Prop, (∀ (t40 : Int32), (J249 (x2_21 - x5_27) (t38 + t39) t40 h34 uc35 us36) → J422 t40) → ∀ J421 : Prop, ((J422 0) → J421) → (((x2_21 - x5_27) ≤ 0 → J421) ∧ (¬ (x2_21 - x5_27) ≤ 0 → ((t37 = 0 → J421) ∧ (¬ t37 = 0 → J422 1))))) → J406 t38 t39) → ((t37 = 0 → J406 x3_22 0) ∧ (¬ t37 = 0 → J406 x3_22 1))) → J393 t37) → ∀ J388 : Prop, ((J393 1) → J388) → ((0 < x5_27 → J388) ∧ (¬ 0 < x5_27 → ((r33 = (-1) → J393 0) ∧ (¬ r33 = (-1) → J388))))) → J377 h34 uc35 us36) → ((¬ x5_27 = 0 → J377 h29 uc30 us31) ∧ (x5_27 = 0 → ((r33 = (-1) → J377 h29 uc30 us31) ∧ (¬ r33 = (-1) → ∃ bc41 bs42 : Nat, uc30 + bc41 ≤ bc ∧ us31 + bs42 ≤ bs ∧ (isO h29 p0 12 ∧ wp_X12_set G p0 r33 (-1) h29 bc41 bs42 (fun h43 => rdI h43 p0 12 28 (fun v44 => wrF h43 p0 12 28 (.int (v44 + 1)) (fun h45 => J377 h45 (uc30 + bc41) (us31 + bs42)))))))))))) ∧ (¬ v32 ≤ x6_28 → rdR h29 p0 12 35 (fun v46 => ldI G h29 v46 x6_28 (fun v47 => ∀ J332 : Int32 → hw → Nat → Nat → Prop, (∀ (x5_48 : Int32) (h49 : hw) (uc50 : Nat) (us51 : Nat), (J260 x5_48 (x6_28 + 1) h49 uc50 us51) → J332 x5_48 h49 uc50 us51) → ((v47 = (-1) → J332 x5_27 h29 uc30 us31) ∧ (¬ v47 = (-1) → rdR h29 p0 12 29 (fun v52 => ldI G h29 v52 x6_28 (fun v53 => ((¬ v53 = (-1) → J332 x5_27 h29 uc30 us31) ∧ (v53 = (-1) → ((p1 ≤ x5_27 → J332 x5_27 h29 uc30 us31) ∧ (¬ p1 ≤ x5_27 → rdR h29 p0 12 35 (fun v54 => ldI G h29 v54 x6_28 (fun v55 => (isO h29 p0 12 ∧ wp_X12_isBarredAt G p0 x6_28 v55 h29 (fun r56 => ((¬ r56 = 0 → J332 x5_27 h29 uc30 us31) ∧ (r56 = 0 → rdR h29 p0 12 35 (fun v57 => ldI G h29 v57 x6_28 (fun v58 => ∃ bc59 bs60 : Nat, uc30 + bc59 ≤ bc ∧ us31 + bs60 ≤ bs ∧ (isO h29 p0 12 ∧ wp_X12_moves G p0 x6_28 v58 (x3_22 + 1) h29 bc59 bs60 (fun h61 => J332 (x5_27 + 1) h61 (uc30 + bc59) (us31 + bs60))))))))))))))))))))))))) → J260 x5_27 x6_28 h29 uc30 us31) → J260 0 0 h24 uc25 us26))) → J249 x2_21 x3_22 x4_23 h24 uc25 us26)
theorem mv_tail {J : Int32 → Int32 → Int32 → Prop} {m x5 : Int} (hm : 0 ≤ m - x5 ∧ m ≤ 8 ∧ 0 ≤ x5 ∧ x5 ≤ 8) {ps r : Int} (hr : -1 ≤ r ∧ r ≤ 8) (q1 : (0 < x5 ∨ r ≠ -1) → J (ii (m - x5)) (ii (ps + 1)) (ii (bI (decide (0 < m - x5))))) (q0 : ¬ (0 < x5 ∨ r ≠ -1) → J (ii (m - x5)) (ii ps) 0) : ∀ J393 : Int32 → Prop, (∀ (t37 : Int32), (∀ J406 : Int32 → Int32 → Prop, (∀ (t38 : Int32) (t39 : Int32), (∀ J422 : Int32 → Prop, (∀ (t40 : Int32), (J (ii m - ii x5) (t38 + t39) t40) → J422 t40) → ∀ J421 : Prop, ((J422 0) → J421) → (((ii m - ii x5) ≤ 0 → J421) ∧ (¬ (ii m - ii x5) ≤ 0 → ((t37 = 0 → J421) ∧ (¬ t37 = 0 → J422 1))))) → J406 t38 t39) → ((t37 = 0 → J406 (ii ps) 0) ∧ (¬ t37 = 0 → J406 (ii ps) 1))) → J393 t37) → ∀ J388 : Prop, ((J393 1) → J388) → ((0 < ii x5 → J388) ∧ (¬ 0 < ii x5 → ((ii r = (-1) → J393 0) ∧ (¬ ii r = (-1) → J388)))) := by
  intro J393 h393 J388 h388
  have z0 : (0 : Int32) = ii 0 := il_0
  have one : (0 < x5 ∨ r ≠ -1) → J388 := fun c => by
    have q1 := q1 c
    apply h388; apply h393
    intro J406 h406
    refine ⟨fun z => absurd z (by decide), fun _ => h406 _ _ ?_⟩
    intro J422 h422 J421 h421
    rw [ii_sub] at h422 ⊢
    rw [show ii ps + 1 = ii (ps + 1) from ii_add ps 1] at h422
    rw [z0, ii_le ⟨by omega, by omega⟩ ⟨by decide, by decide⟩]
    refine ⟨fun z => h421 (h422 0 ?_), fun z => ⟨fun w => absurd w (by decide), fun _ => h422 1 ?_⟩⟩
    · rw [decide_eq_false (by omega)] at q1; exact q1
    · rw [decide_eq_true (by omega)] at q1; exact q1
  have nil : ¬ (0 < x5 ∨ r ≠ -1) → J393 0 := fun c => by
    have q0 := q0 c
    apply h393
    intro J406 h406
    refine ⟨fun _ => h406 _ _ ?_, fun z => absurd rfl z⟩
    intro J422 h422 J421 h421
    rw [ii_sub] at h422 ⊢
    rw [show ii ps + 0 = ii (ps + 0) from ii_add ps 0, Int.add_zero] at h422
    have st : J421 := h421 (h422 0 q0)
    exact ⟨fun _ => st, fun _ => ⟨fun _ => st, fun w => absurd rfl w⟩⟩
  rw [z0, ii_lt ⟨by decide, by decide⟩ ⟨by omega, by omega⟩, il_m1, ii_eq ⟨by omega, by omega⟩ ⟨by decide, by decide⟩, ← z0]
  exact ⟨fun z => one (Or.inl z), fun z => ⟨fun w => nil (fun u => u.elim z (fun v => v w)), fun w => one (Or.inr w)⟩⟩
section MVR
variable {G : Gx} {S0 : Nat → Nat → Int}
theorem Pic.mvrun (f : Nat) {a80 : Nat} {E : Nat → Nat → Int} {N : Nat} {bc bs : Nat} (hl0 : ∀ t, t < N → LI S0 t) (eN : N = ntM S0) (hcap : ∀ t, t < 8 → S0 (170 + t) 3 ≤ 4000) (hroom : ∀ (S' : Nat → Nat → Int) (uc us : Nat), RT S0 S' uc us → uc ≤ bc ∧ us ≤ bs) {pl to_ : Nat → Int} (hto : ∀ j, j < 8 → -1 ≤ to_ j ∧ to_ j ≤ 7 ∧ (to_ j ≠ -1 → to_ j = pl j ∧ j < N ∧ E 7 j = 1)) {crews : Int} (hcr : 1 ≤ crews ∧ crews ≤ 4) {post : Int32 → hw → Prop} {J249 : Int32 → Int32 → Int32 → hw → Nat → Nat → Prop} (hJ : mv_body G a80 (ii crews) bc bs post J249) : ∀ {A : Nat → Nat} {B : Nat → Nat → Nat} {S : Nat → Nat → Int} {h : hw} {uc us : Nat} {wt : Nat → Bool} {now ph : Nat → Int} {dk ps : Int} (P : Pic G A B S h) (ha : A 80 = a80) (hM : MO S) (hE : EM S = E) (hN : ntM S = N) (rm : RM S0 S) (rt : RT S0 S uc us) (hday : 0 ≤ S 80 1 ∧ S 80 1 ≤ 100000) (hps : 0 ≤ ps ∧ ps + f ≤ 16) (hx : MX S to_ wt now ph) (hz : SZ S0 S E wt now) (hpf : sm (pw wt now) N ≤ f) (hdk : S 80 28 = dk) (q : ∀ Z, Z = mrun E pl crews N f wt now ph dk ps → ∀ A' B' S' h' uc' us', Pic G A' B' S' h' → (∀ k, k < 180 → A' k = A k) → (∀ k, ¬ kmv k → k ≠ 80 → S' k = S k) → (∀ i, i ≠ 28 → S' 80 i = S 80 i) → RM S0 S' → RT S0 S' uc' us' → MO S' → (∀ j, j < 8 → S' 113 j = Z.1 j) → (∀ j, j < 8 → S' 129 j = Z.2.1 j) → (∀ j, j < 8 → -1 ≤ S' 129 j ∧ S' 129 j ≤ 16) → S' 80 28 = Z.2.2.1 → post (ii Z.2.2.2) h'), J249 (ii (cnt wt N)) (ii ps) (ii (bI (anyb wt N))) h uc us := by
  induction f with
  | zero =>
    intro A B S h uc us wt now ph dk ps P ha hM hE hN rm rt hday hps hx hz hpf hdk q
    have pp := (sm_pw wt now N).2.2
    have no : anyb wt N = false := Bool.eq_false_iff.mpr (fun z => by have := pp z; omega)
    have r := hroom _ _ _ rt
    rw [no]
    apply hJ
    exact ⟨fun _ => ⟨r.1, r.2, q _ rfl A B S h uc us P (fun _ _ => rfl) (fun _ _ _ => rfl) (fun _ _ => rfl) rm rt hM hx.2.2.1 hx.2.1 (fun j hj => by rw [hx.2.1 j hj]; exact hx.2.2.2.2 j hj) hdk⟩, fun z => absurd rfl z⟩
  | succ f ih =>
    intro A B S h uc us wt now ph dk ps P ha hM hE hN rm rt hday hps hx hz hpf hdk q
    obtain ⟨n8, n4, n5⟩ := ntM_8 hM
    rw [hN] at n8 n4 n5
    have pp := sm_pw wt now N
    cases ea : anyb wt N with
    | false =>
      have r := hroom _ _ _ rt
      rw [mrun_s, if_neg (fun z => by rw [ea] at z; cases z)] at q
      apply hJ
      exact ⟨fun _ => ⟨r.1, r.2, q _ rfl A B S h uc us P (fun _ _ => rfl) (fun _ _ _ => rfl) (fun _ _ => rfl) rm rt hM hx.2.2.1 hx.2.1 (fun j hj => by rw [hx.2.1 j hj]; exact hx.2.2.2.2 j hj) hdk⟩, fun z => absurd rfl z⟩
    | true =>
      have p1 := pp.2.2 ea
      rw [mrun_s, if_pos ea] at q
      apply hJ
      refine ⟨fun z => absurd z (by decide), fun _ => ?_⟩
      rw [← ha]
      have hw7 : ∀ j, j < N → wt j = true → E 7 j = 1 := fun j hj w => by
        have := hx.2.2.2.1 j (by omega)
        rw [this, Bool.and_eq_true, decide_eq_true_eq] at w
        exact ((hto j (by omega)).2.2 w.1).2.2
      refine P.mphase hM rm rt (fun t ht => hl0 t (by omega)) (by rw [hN]; exact eN) hday hcap hroom (pl := pl) (to_ := to_) (by rw [hE, hN]; exact hto) hcr (ps := ps) ⟨by omega, by omega⟩ hx (by rw [hE]; exact hz) (fun Q hQ A1 B1 S1 h1 u v P1 a1 m1 m2 m3 m4 m5 m6 m7 => ?_)
      rw [hE, hN] at hQ
      rw [← hQ] at q
      rw [hE] at m6
      have e80 : S1 80 = S 80 := m1 80 (fun z => by unfold kmv kM at z; omega)
      have eN1 : ntM S1 = N := by unfold ntM; rw [e80]; exact hN
      have eE1 : EM S1 = E := by
        have g : ∀ k, k = 80 ∨ (105 ≤ k ∧ k ≤ 112) → S1 k = S k := fun k hk => m1 k (fun z => by unfold kmv kM at z; omega)
        rw [← hE]
        funext k i
        unfold EM
        rw [g 106 (by omega), g 107 (by omega), g 108 (by omega), g 105 (by omega), g 109 (by omega), g 110 (by omega), g 111 (by omega), g 112 (by omega), g 80 (by omega)]
      obtain ⟨w1, w2, w3, w4⟩ := mph_pw (E := E) (pl := pl) (crews := crews) (its := ps + 1) (n := N) (q := (wt, now, ph, 0)) hw7 N (Nat.le_refl _)
      rw [← hQ] at w1 w2 w3 w4
      have w2 : sm (pw Q.1 Q.2.1) N + Q.2.2.2 ≤ sm (pw wt now) N + 0 := w2
      have w3 : cnt Q.1 N + Q.2.2.2 = cnt wt N + 0 := w3
      have cw := cnt_in wt N
      have cQ := cnt_in Q.1 N
      obtain ⟨x1, x2, x3, x4, x5⟩ := m5
      rw [← a1 80 (by decide)]
      refine ⟨P1.o (k := 80) rfl, P1.mlow m4 (f := onw Q) (fun j hj => ?_) (fun j hj => by rw [x1 j hj]; exact ⟨(hto j hj).1, (hto j hj).2.1⟩) (fun j hj => by rw [x2 j hj]; exact x5 j hj) ?_⟩
      · rw [eN1] at hj
        unfold onw
        rw [x4 j (by omega), x1 j (by omega), x2 j (by omega), x3 j (by omega), Bool.and_assoc]
      rw [eN1]
      have lw := lws_in (onw Q) N
      have lr : -1 ≤ lws (onw Q) N ∧ lws (onw Q) N ≤ 8 := by
        rcases lw with ⟨l, -⟩ | ⟨b, b0, l, -⟩ <;> rw [l] <;> omega
      have af : anyb Q.1 N = decide (0 < cnt wt N - Q.2.2.2) := by
        cases e : anyb Q.1 N with
        | true => have := cnt_any.mp e; exact (decide_eq_true (by omega)).symm
        | false => refine (decide_eq_false (fun z => ?_)).symm; rw [cnt_any.mpr (by omega)] at e; cases e
      have ec : cnt wt N - Q.2.2.2 = cnt Q.1 N := by omega
      intro J377 hJ377
      rw [il_0, ii_eq ⟨by omega, by omega⟩ ⟨by decide, by decide⟩]
      have on : 0 < Q.2.2.2 → J377 h1 u v := fun c => by
        rw [if_pos c] at q
        apply hJ377
        refine mv_tail (J := fun a b c => J249 a b c h1 u v) (m := cnt wt N) (x5 := Q.2.2.2) (ps := ps) (r := lws (onw Q) N) ⟨by omega, by omega, by omega, by omega⟩ lr (fun _ => ?_) (fun z => absurd (Or.inl c) z)
        rw [← af, ec]
        exact ih P1 (by rw [a1 80 (by decide)]; exact ha) m4 eE1 eN1 m2 m3 (by rw [e80]; exact hday) ⟨by omega, by omega⟩ ⟨x1, x2, x3, x4, x5⟩ m6 (by omega) (by rw [e80]; exact hdk) (fun Z hZ A2 B2 S2 h2 u2 v2 P2 a2 g1 g2 g3 g4 g5 g6 g7 g8 g9 => q Z hZ A2 B2 S2 h2 u2 v2 P2 (fun k hk => by rw [a2 k hk, a1 k hk]) (fun k a b => by rw [g1 k a b, m1 k a]) (fun i hi => by rw [g2 i hi, e80]) g3 g4 g5 g6 g7 g8 g9)
      refine ⟨fun c => on (by omega), fun c => ?_⟩
      have nz : ¬ 0 < Q.2.2.2 := by omega
      rw [if_neg nz] at q
      have Q0 : Q = (wt, now, ph, 0) := by
        have := (mph_0 (E := E) (pl := pl) (crews := crews) (its := ps + 1) (wt, now, ph, 0) N (by rw [← hQ]; show Q.2.2.2 ≤ (0 : Int); omega)).1
        rw [hQ]; exact this
      subst Q0
      have x2 : ∀ j, j < 8 → S1 129 j = ph j := x2
      have x3 : ∀ j, j < 8 → S1 113 j = now j := x3
      have x4 : ∀ j, j < 8 → wt j = (decide (to_ j ≠ -1) && decide (ph j = -1)) := x4
      have x5 : ∀ j, j < 8 → -1 ≤ ph j ∧ ph j ≤ 16 := x5
      have m6 : SZ S0 S1 E wt now := m6
      rw [il_m1, ii_eq ⟨by omega, by omega⟩ ⟨by decide, by decide⟩]
      refine ⟨fun l => ?_, fun l => ?_⟩
      · rw [if_pos l] at q
        apply hJ377
        refine mv_tail (J := fun a b c => J249 a b c h1 u v) (m := cnt wt N) (x5 := 0) (ps := ps) (r := lws (onw (wt, now, ph, 0)) N) ⟨by omega, by omega, by omega, by omega⟩ lr (fun z => absurd z (fun z => z.elim (fun y => by omega) (fun y => y l))) (fun _ => ?_)
        have r := hroom _ _ _ m3
        apply hJ
        exact ⟨fun _ => ⟨r.1, r.2, q _ rfl A1 B1 S1 h1 u v P1 a1 (fun k a _ => m1 k a) (fun i _ => by rw [e80]) m2 m3 m4 x3 x2 (fun j hj => by rw [x2 j hj]; exact x5 j hj) (by rw [e80]; exact hdk)⟩, fun z => absurd rfl z⟩
      · rw [if_neg l] at q
        rcases lw with ⟨y, -⟩ | ⟨b, b0, y, y2, -⟩
        · exact absurd y l
        · have y2 : (wt b && decide (now b ≠ -1)) = true := y2
          rw [Bool.and_eq_true, decide_eq_true_eq] at y2
          rw [y, Int.toNat_natCast] at q
          rw [y]
          have zb := m6 b (by omega)
          have eb7 := hw7 b b0 y2.1
          unfold pot at zb
          rw [if_pos y2.1, if_neg y2.2] at zb
          refine P1.mset2 m4 m2 m3 (fun t ht => hl0 t (by omega)) (by omega) (s := b) (by omega) (by omega) (c := -1) ⟨by decide, by decide⟩ (by rw [e80]; exact hday) hcap hroom rfl rfl (post := fun h43 u v => rdI h43 (A1 80) 12 28 (fun v44 => wrF h43 (A1 80) 12 28 (.int (v44 + 1)) (fun h45 => J377 h45 u v))) (fun A2 B2 S2 h2 u2 v2 P2 a2 g1 g2 g3 g4 g5 g6 g7 => ?_)
          have f80 : S2 80 = S1 80 := g1 80 (fun z => by unfold kM at z; omega)
          rw [← a2 80 (by decide)]
          refine P2.rI (k := 80) rfl rfl ?_
          rw [f80, e80, hdk, show ii dk + 1 = ii (dk + 1) from ii_add dk 1]
          refine P2.wF (k := 80) (z := dk + 1) ⟨by decide, by decide, by decide, by decide⟩ rfl (by show 28 < 36; decide) rfl (fun h3 P3 => ?_)
          have f3 : ∀ k, k ≠ 80 → su S2 80 28 (dk + 1) k = S2 k := fun k hk => su_row _ _ hk
          have e3 : ∀ i, i ≠ 28 → su S2 80 28 (dk + 1) 80 i = S 80 i := fun i hi => by rw [su_nei _ _ _ hi, f80, e80]
          obtain ⟨hM3, eE3, eN3⟩ := g5.ofi (S' := su S2 80 28 (dk + 1)) (fun k _ _ => f3 k (by omega)) (fun i _ _ => su_nei _ _ _ (by omega))
          have eE2 : EM S2 = EM S1 := by
            funext k i
            unfold EM
            rw [g1 106 (fun z => by unfold kM at z; omega), g1 107 (fun z => by unfold kM at z; omega), g1 108 (fun z => by unfold kM at z; omega), g1 105 (fun z => by unfold kM at z; omega), g1 109 (fun z => by unfold kM at z; omega), g1 110 (fun z => by unfold kM at z; omega), g1 111 (fun z => by unfold kM at z; omega), g1 112 (fun z => by unfold kM at z; omega), f80]
          have eN2 : ntM S2 = ntM S1 := by unfold ntM; rw [f80]
          apply hJ377
          refine mv_tail (J := fun a b c => J249 a b c h3 u2 v2) (m := cnt wt N) (x5 := 0) (ps := ps) (r := lws (onw (wt, now, ph, 0)) N) ⟨by omega, by omega, by omega, by omega⟩ lr (fun _ => ?_) (fun z => absurd (Or.inr l) z)
          rw [show cnt wt N - 0 = cnt wt N by omega, show decide (0 < cnt wt N) = anyb wt N by rw [ea]; exact decide_eq_true (cnt_any.mp ea)]
          have wb : ∀ j, wt j = true → pw wt (up now b (-1)) j ≤ pw wt now j := fun j hj => by
            unfold pw
            rw [if_pos hj, if_pos hj]
            by_cases yj : j = b
            · subst yj; rw [up_at, if_pos rfl, if_neg y2.2]; omega
            · rw [up_ne yj]; exact Int.le_refl _
          have dec : sm (pw wt (up now b (-1))) N + 1 ≤ sm (pw wt now) N := sm_le3 (k := b) b0 (fun j hj => by
            cases e4 : wt j with
            | true => exact wb j e4
            | false => rw [(pw_in wt _ j).2.2.2 e4, (pw_in wt _ j).2.2.2 e4]; exact Int.le_refl _) (by unfold pw; rw [if_pos y2.1, if_pos y2.1, up_at, if_pos rfl, if_neg y2.2]; omega)
          refine ih P3 (by rw [a2 80 (by decide), a1 80 (by decide)]; exact ha) hM3 (by rw [eE3, eE2, eE1]) (by rw [eN3, eN2, eN1]) (RM.of (S1 := S2) (fun k hk => f3 k (by omega)) (su_nei _ _ _ (by decide)) (su_nei _ _ _ (by decide)) g3) (g4.of (fun t ht => f3 _ (by omega))) (by rw [e3 1 (by decide)]; exact hday) ⟨by omega, by omega⟩ (now := up now b (-1)) ⟨fun j hj => ?_, fun j hj => ?_, fun j hj => ?_, x4, x5⟩ (fun j hj => ?_) (by omega) (by rw [su_at]) (fun Z hZ A4 B4 S4 h4 u4 v4 P4 a4 r1 r2 r3 r4 r5 r6 r7 r8 r9 => q Z hZ A4 B4 S4 h4 u4 v4 P4 (fun k hk => by rw [a4 k hk, a2 k hk, a1 k hk]) (fun k a b => by rw [r1 k a b, f3 k b, g1 k (fun z => a (Or.inl z)), m1 k a]) (fun i hi => by rw [r2 i hi, e3 i hi]) r3 r4 r5 r6 r7 r8 r9)
          · rw [f3 135 (by decide), g1 135 (fun z => by unfold kM at z; omega)]; exact x1 j hj
          · rw [f3 129 (by decide), g1 129 (fun z => by unfold kM at z; omega)]; exact x2 j hj
          · rw [f3 113 (by decide), g2]; unfold up
            by_cases yj : j = b
            · rw [if_pos yj, if_pos yj]
            · rw [if_neg yj, if_neg yj]; exact x3 j hj
          · have zj := m6 j hj
            rw [f3 _ (by omega)]
            by_cases yj : j = b
            · subst yj
              rw [g6]
              have : pot E wt (up now j (-1)) j = 1 := by unfold pot; rw [if_pos y2.1, up_at, if_pos rfl]
              rw [this]; omega
            · rw [g7 j hj yj]
              have : pot E wt (up now b (-1)) j = pot E wt now j := by unfold pot; rw [up_ne yj]
              rw [this]; exact zj
end MVR
