/-! the class: a whole move -/
section CM2
variable {G : Gx} {A : Nat → Nat} {B : Nat → Nat → Nat} {S : Nat → Nat → Int} {h : hw}
theorem mrun_s {E : Nat → Nat → Int} {pl : Nat → Int} {crews : Int} {n f : Nat} {wt : Nat → Bool} {now ph : Nat → Int} {dk ps : Int} : mrun E pl crews n (f + 1) wt now ph dk ps = (if anyb wt n = true then
      (if 0 < (mph E pl crews (ps + 1) (wt, now, ph, 0) n).2.2.2 then mrun E pl crews n f (mph E pl crews (ps + 1) (wt, now, ph, 0) n).1 (mph E pl crews (ps + 1) (wt, now, ph, 0) n).2.1 (mph E pl crews (ps + 1) (wt, now, ph, 0) n).2.2.1 dk (ps + 1)
      else if lws (onw (wt, now, ph, 0)) n = -1 then (now, ph, dk, ps) else mrun E pl crews n f wt (up now (lws (onw (wt, now, ph, 0)) n).toNat (-1)) ph (dk + 1) (ps + 1))
    else (now, ph, dk, ps)) := rfl
theorem Pic.moveBegin (P : Pic G A B S h) (hc : chs (S 32)) (hp : chs (S 39)) {x : Int32} {post : hw → Prop} (q : ∀ S' h', Pic G A B S' h' → (∀ k, k ≠ 8 → k ≠ 48 → S' k = S k) → S' 8 1 = 1 → S' 8 2 = 0 → (∀ j, bt (ii (S' 8 3)) j = if j < 8 ∧ S 32 j = S 39 j then false else bt x j) → (∀ j, j < 8 → S' 48 j = if bt x j = true ∧ S 32 j = S 39 j then 0 else -1) → post h') : wp_X4_begin G (A 8) x (A 5) (A 3) h post := by
  refine P.wF (k := 8) (z := 1) ⟨by decide, by decide, by decide, by decide⟩ rfl (show 1 < 4 by decide) rfl (fun h1 P1 => ?_)
  refine P1.wF (k := 8) (z := 0) ⟨by decide, by decide, by decide, by decide⟩ rfl (show 2 < 4 by decide) rfl (fun h2 P2 => ?_)
  refine P2.wF (k := 8) (z := x.toInt) ⟨by decide, by decide, by decide, by decide⟩ rfl (show 3 < 4 by decide) (congrArg (fun v => some (Sum.inr (4, [Value.ref (A 28), Value.int (ii (su (su S 8 1 1) 8 2 0 8 1)), Value.int (ii (su (su S 8 1 1) 8 2 0 8 2)), Value.int v]))) (ii_of x)) (fun h3 P3 => ?_)
  refine P3.ofill (k := 8) (r := 28) (rk := 48) (z := -1) rfl rfl ⟨by omega, by omega⟩ il_m1 (fun h4 P4 => ?_)
  intro J hJ
  have main : ∀ i : Nat, i ≤ 8 → ∀ (S' : Nat → Nat → Int) (h' : hw), Pic G A B S' h' → (∀ k, k ≠ 8 → k ≠ 48 → S' k = S k) → S' 8 1 = 1 → S' 8 2 = 0 → (∀ j, bt (ii (S' 8 3)) j = if j < i ∧ S 32 j = S 39 j then false else bt x j) → (∀ j, j < 8 → S' 48 j = if j < i ∧ bt x j = true ∧ S 32 j = S 39 j then 0 else -1) → J (ii (i : Int)) h' := by
    intro i hi
    refine lp_up (J := fun i : Nat => ∀ (S' : Nat → Nat → Int) (h' : hw), Pic G A B S' h' → (∀ k, k ≠ 8 → k ≠ 48 → S' k = S k) → S' 8 1 = 1 → S' 8 2 = 0 → (∀ j, bt (ii (S' 8 3)) j = if j < i ∧ S 32 j = S 39 j then false else bt x j) → (∀ j, j < 8 → S' 48 j = if j < i ∧ bt x j = true ∧ S 32 j = S 39 j then 0 else -1) → J (ii (i : Int)) h') (n := 8) ?_ ?_ hi
    · intro S' h' P' k1 k2 k3 k4 k5
      apply hJ
      rw [il_8, ii_le ⟨by omega, by omega⟩ ⟨by omega, by omega⟩]
      refine ⟨fun _ => q S' h' P' k1 k2 k3 k4 (fun j hj => ?_), fun z => absurd (Int.le_refl _) z⟩
      rw [k5 j hj]
      by_cases w : bt x j = true ∧ S 32 j = S 39 j
      · rw [if_pos ⟨hj, w⟩, if_pos w]
      · rw [if_neg (fun z => w z.2), if_neg w]
    · intro i hi ih S' h' P' k1 k2 k3 k4 k5
      apply hJ
      rw [il_8, ii_le ⟨by omega, by omega⟩ ⟨by omega, by omega⟩]
      refine ⟨fun z => absurd z (by omega), fun _ => ?_⟩
      refine isIn_of (i := i) (by omega) rfl ?_
      intro J88 hJ88
      have f32 : S' 32 = S 32 := k1 32 (by omega) (by omega)
      have f39 : S' 39 = S 39 := k1 39 (by omega) (by omega)
      have skip : ¬ (bt x i = true ∧ S 32 i = S 39 i) → J88 h' := by
        intro w
        apply hJ88
        rw [ii_inc']
        refine ih S' h' P' k1 k2 k3 (fun j => ?_) (fun j hj => ?_)
        · rw [k4 j]
          by_cases y : j = i
          · subst y
            rw [if_neg (fun z => absurd z.1 (by omega))]
            by_cases w2 : S 32 j = S 39 j
            · rw [if_pos ⟨by omega, w2⟩]
              exact Bool.eq_false_iff.mpr (fun z => w ⟨z, w2⟩)
            · rw [if_neg (fun z => w2 z.2)]
          · by_cases w2 : j < i ∧ S 32 j = S 39 j
            · rw [if_pos w2, if_pos ⟨by omega, w2.2⟩]
            · rw [if_neg w2, if_neg (fun z => w2 ⟨by omega, z.2⟩)]
        · rw [k5 j hj]
          by_cases y : j = i
          · subst y
            rw [if_neg (fun z => w z.2), if_neg (fun z => w z.2)]
          · by_cases w2 : j < i ∧ bt x j = true ∧ S 32 j = S 39 j
            · rw [if_pos w2, if_pos ⟨by omega, w2.2⟩]
            · rw [if_neg w2, if_neg (fun z => w2 ⟨by omega, z.2⟩)]
      rw [bI_1, bI_0]
      refine ⟨fun w => skip (fun z => by rw [w] at z; exact absurd z.1 (by decide)), fun w => ?_⟩
      refine P'.oat (k := 3) (r := 12) (rk := 32) (i := i) rfl rfl ⟨by omega, by omega⟩ rfl (show _ < 8 by omega) ?_
      refine P'.oat (k := 5) (r := 19) (rk := 39) (i := i) rfl rfl ⟨by omega, by omega⟩ rfl (show _ < 8 by omega) ?_
      rw [f32, f39]
      have c1 := hc i
      have c2 := hp i
      rw [ii_eq ⟨by omega, by omega⟩ ⟨by omega, by omega⟩]
      refine ⟨fun z => skip (fun y => z y.2), fun z => ?_⟩
      refine P'.oput (k := 8) (r := 28) (rk := 48) (i := i) (z := 0) rfl rfl ⟨by omega, by omega⟩ rfl il_0 (show _ < 8 by omega) (fun h5 P5 => ?_)
      refine P5.rI (k := 8) rfl rfl ?_
      refine P5.wF (k := 8) (z := ((ii (su S' 48 i 0 8 3)) &&& (((1 : Int32) <<< (ii (i : Int) &&& 31)) ^^^ (-1))).toInt) ⟨by decide, by decide, by decide, by decide⟩ rfl (show 3 < 4 by decide) (congrArg (fun v => some (Sum.inr (4, [Value.ref (A 28), Value.int (ii (su S' 48 i 0 8 1)), Value.int (ii (su S' 48 i 0 8 2)), Value.int v]))) (ii_of _)) (fun h6 P6 => ?_)
      apply hJ88
      rw [ii_inc']
      refine ih _ h6 P6 (fun k a1 a2 => by rw [su_row _ _ a1, su_row _ _ a2, k1 k a1 a2]) (by rw [su_nei _ _ _ (by omega), su_ne _ _ _ (by omega), k2]) (by rw [su_nei _ _ _ (by omega), su_ne _ _ _ (by omega), k3]) (fun j => ?_) (fun j hj => ?_)
      · rw [su_at, ii_of, bt_andn (by omega), su_ne _ _ _ (by omega), k4 j]
        by_cases y : j = i
        · subst y
          rw [if_pos rfl, if_pos ⟨by omega, z⟩]
        · rw [if_neg y]
          by_cases w2 : j < i ∧ S 32 j = S 39 j
          · rw [if_pos w2, if_pos ⟨by omega, w2.2⟩]
          · rw [if_neg w2, if_neg (fun z => w2 ⟨by omega, z.2⟩)]
      · rw [su_ne _ _ _ (by omega), su_up]
        unfold up
        by_cases y : j = i
        · subst y
          rw [if_pos rfl, if_pos ⟨by omega, w, z⟩]
        · rw [if_neg y, k5 j hj]
          by_cases w2 : j < i ∧ bt x j = true ∧ S 32 j = S 39 j
          · rw [if_pos w2, if_pos ⟨by omega, w2.2⟩]
          · rw [if_neg w2, if_neg (fun z => w2 ⟨by omega, z.2⟩)]
  have e48 : ∀ j, j < 8 → sf (su (su (su S 8 1 1) 8 2 0) 8 3 x.toInt) 48 (rl 28) (fun _ => -1) 48 j = -1 := fun j hj => sf_at hj
  refine main 0 (by omega) _ h4 P4 (fun k a1 a2 => by rw [sf_ne a2, su_row _ _ a1, su_row _ _ a1, su_row _ _ a1]) ?_ ?_ (fun j => ?_) (fun j hj => ?_)
  · rw [sf_ne (by omega), su_nei _ _ _ (by omega), su_nei _ _ _ (by omega), su_at]
  · rw [sf_ne (by omega), su_nei _ _ _ (by omega), su_at]
  · rw [sf_ne (by omega), su_at, ii_of, if_neg (fun z => absurd z.1 (by omega))]
  · rw [e48 j hj, if_neg (fun z => absurd z.1 (by omega))]
theorem Pic.moveRun (P : Pic G A B S h) {c : Nat} (hc5 : c ≤ 511) (R : RI S c) (hK : KI S) (hsp : spOK (EC S) (S 40)) (hp : chs (S 39)) {crews : Int} (hcr : 1 ≤ crews ∧ crews ≤ 4) {wt : Nat → Bool} {ph : Nat → Int} (hwb : ∀ j, bt (ii (S 8 3)) j = wt j) (hph : ∀ j, j < 8 → S 48 j = ph j) (hwt : ∀ j, wt j = true → j < nt (EC S) ∧ EC S 7 j = 1 ∧ 0 ≤ S 39 j) {post : Int32 → hw → Prop} (q : ∀ Z, Z = mrun (EC S) (S 39) crews (nt (EC S)) 16 wt (S 32) ph (S 8 2) 0 → ∀ S' h', Pic G A B S' h' → RC S S' c → (∀ k, ¬ km k → S' k = S k) → S' 8 1 = S 8 1 → S' 32 = Z.1 → (∀ j, j < 8 → S' 48 j = Z.2.1 j) → S' 8 2 = Z.2.2.1 → (0 ≤ Z.2.2.2 ∧ Z.2.2.2 ≤ 16) → post (ii Z.2.2.2) h') : wp_X4_run G (A 8) (A 1) (A 5) (A 3) (ii crews) h post := by
  obtain ⟨h8, hn⟩ := nt8 hK
  obtain ⟨Z, hZ⟩ : ∃ Z, Z = mrun (EC S) (S 39) crews (nt (EC S)) 16 wt (S 32) ph (S 8 2) 0 := ⟨_, rfl⟩
  have q := q Z hZ
  intro J hJ
  have main : ∀ (f p : Nat) (w1 : Nat → Bool) (now p1 : Nat → Int) (dk : Int) (S' : Nat → Nat → Int) (h' : hw), f + p = 16 → mrun (EC S) (S 39) crews (nt (EC S)) f w1 now p1 dk (p : Int) = Z → Pic G A B S' h' → RC S S' c → (∀ k, ¬ km k → S' k = S k) → S' 8 1 = S 8 1 → (∀ j, bt (ii (S' 8 3)) j = w1 j) → S' 32 = now → (∀ j, j < 8 → S' 48 j = p1 j) → S' 8 2 = dk → (∀ j, w1 j = true → wt j = true) → J (ii (p : Int)) h' := by
    intro f
    induction f with
    | zero =>
      intro p w1 now p1 dk S' h' hfp hm P' k1 k2 k3 k4 k5 k6 k7 k8
      have hm : (now, p1, dk, (p : Int)) = Z := hm
      subst hm
      apply hJ
      rw [il_16, ii_le ⟨by omega, by omega⟩ ⟨by omega, by omega⟩]
      exact ⟨fun _ => q S' h' P' k1 k2 k3 k5 k6 k7 ⟨by show (0 : Int) ≤ (p : Int); omega, by show (p : Int) ≤ 16; omega⟩, fun z => absurd (show (16 : Int) ≤ p by omega) z⟩
    | succ f ih =>
      intro p w1 now p1 dk S' h' hfp hm P' k1 k2 k3 k4 k5 k6 k7 k8
      obtain ⟨hK', eE, e51⟩ := km_K k2 hK
      have f40 : S' 40 = S 40 := k2 40 (fun z => by unfold km kr at z; omega)
      have f39 : S' 39 = S 39 := k2 39 (fun z => by unfold km kr at z; omega)
      apply hJ
      rw [il_16, ii_le ⟨by omega, by omega⟩ ⟨by omega, by omega⟩]
      refine ⟨fun z => absurd z (by omega), fun _ => ?_⟩
      refine P'.rI (k := 8) rfl rfl ?_
      rw [mrun_s] at hm
      refine ⟨fun w => ?_, fun w => ?_⟩
      · have e : ¬ anyb w1 (nt (EC S)) = true := fun z => by
          obtain ⟨i, -, hb⟩ := anyb_t.mp z
          rw [← k4 i, w, b_0] at hb
          cases hb
        rw [if_neg e] at hm
        subst hm
        exact q S' h' P' k1 k2 k3 k5 k6 k7 ⟨by show (0 : Int) ≤ (p : Int); omega, by show (p : Int) ≤ 16; omega⟩
      · have any : anyb w1 (nt (EC S)) = true := by
          obtain ⟨i, hi, hb⟩ := b_ne0.mp w
          rw [k4 i] at hb
          exact anyb_t.mpr ⟨i, (hwt i (k8 i hb)).1, hb⟩
        rw [if_pos any] at hm
        refine ⟨P'.o (k := 8) rfl, ?_⟩
        rw [ii_inc']
        have k5' : S' 32 = (w1, now, p1, (0 : Int)).2.1 := k5
        refine P'.holdPhase hc5 k1.1 hK' (by rw [eE, f40]; exact hsp) (by rw [f39]; exact hp) hcr (its := ((p + 1 : Nat) : Int)) ⟨by omega, by omega⟩ (q0 := (w1, now, p1, 0)) ⟨k4, k5', k6⟩ rfl (fun j hj => by rw [eE, f39]; exact hwt j (k8 j hj)) (fun Q hQ S1 h1 P1 r1 g1 g2 g3 g4 => ?_)
        rw [eE, f39] at hQ
        have ep : ((p + 1 : Nat) : Int) = (p : Int) + 1 := by omega
        rw [ep] at hQ
        rw [← hQ] at hm
        have r1' := k1.tr r1
        have g1' : ∀ k, ¬ km k → S1 k = S k := fun k hk => by rw [g1 k hk, k2 k hk]
        intro J66 hJ66
        rw [bI_1, bI_0, decide_eq_true_eq, decide_eq_false_iff_not]
        refine ⟨fun w1 => ?_, fun w2 => ?_⟩
        · rw [if_pos w1] at hm
          apply hJ66
          refine ih (p + 1) Q.1 Q.2.1 Q.2.2.1 dk S1 h1 (by omega) (by rw [ep]; exact hm) P1 r1' g1' (by rw [g2 1 (by omega), k3]) g3.1 g3.2.1 g3.2.2 (by rw [g2 2 (by omega), k7]) (fun j hj => k8 j (g4 j hj))
        · rw [if_neg w2] at hm
          have eq0 : Q = (w1, now, p1, 0) := by
            rw [hQ]
            refine (mph_0 _ _ ?_).1
            rw [← hQ]
            exact Int.not_lt.mp w2
          rw [eq0] at g3
          obtain ⟨hK1, eE1, e511⟩ := km_K g1' hK
          refine ⟨P1.o (k := 8) rfl, P1.lowest r1.1.2.2.2.1 g3 h8 (fun j hj => (hwt j (k8 j hj)).1) ?_⟩
          rcases lws_in (onw (w1, now, p1, 0)) (nt (EC S)) with ⟨l1, l2⟩ | ⟨b, l0, l1, l2, l3⟩
          · rw [if_pos l1] at hm
            subst hm
            rw [l1]
            refine ⟨fun z => absurd il_m1.symm z, fun _ => ?_⟩
            exact q S1 h1 P1 r1' g1' (by rw [g2 1 (by omega), k3]) g3.2.1 g3.2.2 (by rw [g2 2 (by omega), k7]) ⟨by show (0 : Int) ≤ (p : Int); omega, by show (p : Int) ≤ 16; omega⟩
          · rw [if_neg (by omega)] at hm
            rw [l1] at hm ⊢
            have hne : ¬ ii (b : Int) = -1 := by rw [il_m1, ii_eq ⟨by omega, by omega⟩ ⟨by omega, by omega⟩]; omega
            refine ⟨fun _ => ?_, fun z => absurd z hne⟩
            refine ⟨P1.o (k := 3) rfl, P1.chg hc5 r1.1 (by omega) rfl il_m1 ⟨by omega, by omega⟩ (fun S2 h2 P2 r2 m1 m2 => ?_)⟩
            refine P2.rI (k := 8) rfl rfl ?_
            have f8 : S2 8 = S1 8 := m1 8 (fun z => by unfold kr at z; omega)
            have f48 : S2 48 = S1 48 := m1 48 (fun z => by unfold kr at z; omega)
            refine P2.wF (k := 8) (z := S2 8 2 + 1) ⟨by decide, by decide, by decide, by decide⟩ rfl (show 2 < 4 by decide) (congrArg (fun v => some (Sum.inr (4, [Value.ref (A 28), Value.int (ii (S2 8 1)), Value.int v, Value.int (ii (S2 8 3))]))) (by rw [il_1, ii_add]; rfl)) (fun h3 P3 => ?_)
            apply hJ66
            refine ih (p + 1) w1 (up now b (-1)) p1 (dk + 1) _ h3 (by omega) (by rw [ep]; rw [Int.toNat_natCast] at hm; exact hm) P3 (RC.of (S1 := S2) (kg_su (by unfold kg; omega)) (r1'.tr r2)) (fun k hk => by rw [su_row _ _ (fun z => hk (Or.inr (Or.inl z))), m1 k (fun z => hk (Or.inl z)), g1' k hk]) (by rw [su_nei _ _ _ (by omega), f8, g2 1 (by omega), k3]) (fun j => by rw [su_nei _ _ _ (by omega), f8]; exact g3.1 j) (by rw [su_row _ _ (by omega), m2, g3.2.1]) (fun j hj => by rw [su_ne _ _ _ (by omega), f48]; exact g3.2.2 j hj) (by rw [su_at, f8, g2 2 (by omega), k7]) k8
  exact main 16 0 wt (S 32) ph (S 8 2) S h (by omega) hZ.symm P (RC.rf R) (fun _ _ => rfl) rfl hwb rfl hph rfl (fun _ z => z)
end CM2
