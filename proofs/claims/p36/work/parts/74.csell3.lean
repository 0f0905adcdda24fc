/-! the class: a selling -/
def bcx (p0 : Int32) : Int32 := ((((((((p0 - (((p0).toUInt32 >>> ((1 : Int32).toUInt32 &&& Int32.toUInt32 31)).toInt32 &&& 1431655765)) &&& 858993459) + ((((p0 - (((p0).toUInt32 >>> ((1 : Int32).toUInt32 &&& Int32.toUInt32 31)).toInt32 &&& 1431655765))).toUInt32 >>> ((2 : Int32).toUInt32 &&& Int32.toUInt32 31)).toInt32 &&& 858993459)) + (((((p0 - (((p0).toUInt32 >>> ((1 : Int32).toUInt32 &&& Int32.toUInt32 31)).toInt32 &&& 1431655765)) &&& 858993459) + ((((p0 - (((p0).toUInt32 >>> ((1 : Int32).toUInt32 &&& Int32.toUInt32 31)).toInt32 &&& 1431655765))).toUInt32 >>> ((2 : Int32).toUInt32 &&& Int32.toUInt32 31)).toInt32 &&& 858993459))).toUInt32 >>> ((4 : Int32).toUInt32 &&& Int32.toUInt32 31)).toInt32) &&& 252645135) + (((((((p0 - (((p0).toUInt32 >>> ((1 : Int32).toUInt32 &&& Int32.toUInt32 31)).toInt32 &&& 1431655765)) &&& 858993459) + ((((p0 - (((p0).toUInt32 >>> ((1 : Int32).toUInt32 &&& Int32.toUInt32 31)).toInt32 &&& 1431655765))).toUInt32 >>> ((2 : Int32).toUInt32 &&& Int32.toUInt32 31)).toInt32 &&& 858993459)) + (((((p0 - (((p0).toUInt32 >>> ((1 : Int32).toUInt32 &&& Int32.toUInt32 31)).toInt32 &&& 1431655765)) &&& 858993459) + ((((p0 - (((p0).toUInt32 >>> ((1 : Int32).toUInt32 &&& Int32.toUInt32 31)).toInt32 &&& 1431655765))).toUInt32 >>> ((2 : Int32).toUInt32 &&& Int32.toUInt32 31)).toInt32 &&& 858993459))).toUInt32 >>> ((4 : Int32).toUInt32 &&& Int32.toUInt32 31)).toInt32) &&& 252645135)).toUInt32 >>> ((8 : Int32).toUInt32 &&& Int32.toUInt32 31)).toInt32) + ((((((((p0 - (((p0).toUInt32 >>> ((1 : Int32).toUInt32 &&& Int32.toUInt32 31)).toInt32 &&& 1431655765)) &&& 858993459) + ((((p0 - (((p0).toUInt32 >>> ((1 : Int32).toUInt32 &&& Int32.toUInt32 31)).toInt32 &&& 1431655765))).toUInt32 >>> ((2 : Int32).toUInt32 &&& Int32.toUInt32 31)).toInt32 &&& 858993459)) + (((((p0 - (((p0).toUInt32 >>> ((1 : Int32).toUInt32 &&& Int32.toUInt32 31)).toInt32 &&& 1431655765)) &&& 858993459) + ((((p0 - (((p0).toUInt32 >>> ((1 : Int32).toUInt32 &&& Int32.toUInt32 31)).toInt32 &&& 1431655765))).toUInt32 >>> ((2 : Int32).toUInt32 &&& Int32.toUInt32 31)).toInt32 &&& 858993459))).toUInt32 >>> ((4 : Int32).toUInt32 &&& Int32.toUInt32 31)).toInt32) &&& 252645135) + (((((((p0 - (((p0).toUInt32 >>> ((1 : Int32).toUInt32 &&& Int32.toUInt32 31)).toInt32 &&& 1431655765)) &&& 858993459) + ((((p0 - (((p0).toUInt32 >>> ((1 : Int32).toUInt32 &&& Int32.toUInt32 31)).toInt32 &&& 1431655765))).toUInt32 >>> ((2 : Int32).toUInt32 &&& Int32.toUInt32 31)).toInt32 &&& 858993459)) + (((((p0 - (((p0).toUInt32 >>> ((1 : Int32).toUInt32 &&& Int32.toUInt32 31)).toInt32 &&& 1431655765)) &&& 858993459) + ((((p0 - (((p0).toUInt32 >>> ((1 : Int32).toUInt32 &&& Int32.toUInt32 31)).toInt32 &&& 1431655765))).toUInt32 >>> ((2 : Int32).toUInt32 &&& Int32.toUInt32 31)).toInt32 &&& 858993459))).toUInt32 >>> ((4 : Int32).toUInt32 &&& Int32.toUInt32 31)).toInt32) &&& 252645135)).toUInt32 >>> ((8 : Int32).toUInt32 &&& Int32.toUInt32 31)).toInt32)).toUInt32 >>> ((16 : Int32).toUInt32 &&& Int32.toUInt32 31)).toInt32) &&& 63)
theorem bcx_dec : ∀ z : Nat, z < 256 → bcx (ii (z : Int)) = ii (cnt (bt (ii (z : Int))) 8) := by decide +kernel
theorem bitc {G : Gx} {h : hw} {x : Int32} (hx : ∀ i, 8 ≤ i → bt x i = false) {post : Int32 → Prop} (q : post (ii (cnt (bt x) 8))) : wp_J6_bitCount_0f7a4 G x h post := by
  obtain ⟨x1, x2⟩ := b_lt256 hx
  show post (bcx x)
  rw [x1, bcx_dec _ x2, ← x1]
  exact q
/-- one station, in the course of a selling -/
def SJ (q0 q : Sst) (j : Nat) : Prop := (q.1 j = true → q.2.1 j = false ∧ q.2.2 j = -1) ∧ (q.2.1 j = true → q.2.2 j = -1 ∧ q0.2.1 j = true) ∧ ((q0.1 j || q0.2.1 j) = true → q.1 j = false → q.2.1 j = false → 0 ≤ q.2.2 j) ∧ ((q0.1 j || q0.2.1 j) = false → q.1 j = false ∧ q.2.1 j = false ∧ q.2.2 j = -1) ∧ (-1 ≤ q.2.2 j ∧ q.2.2 j ≤ 9999) ∧ (q0.1 j = true → q.1 j = true)
theorem SJ_step {E : Nat → Nat → Int} {C : Int} {asks : Nat → Int} {at_ nx : Int} (ha : 0 ≤ at_ ∧ at_ ≤ 9999) {q0 q : Sst} {j : Nat} (h : SJ q0 q j) (k : Nat) : SJ q0 (sstep E C asks at_ nx k q) j := by
  unfold sstep
  by_cases c : q.2.1 k = true
  · rw [if_pos c]
    by_cases y : j = k
    · subst y
      obtain ⟨h1, h2, h3, h4, h5, h6⟩ := h
      obtain ⟨z1, z2⟩ := h2 c
      have z3 : q.1 j = false := by
        cases e : q.1 j with
        | false => rfl
        | true => rw [(h1 e).1] at c; cases c
      by_cases o : okb E C (bu q.1 j true) = true
      · rw [if_pos o]
        by_cases w : nx < asks j
        · rw [if_pos w]
          refine ⟨fun _ => ⟨bu_at, z1⟩, fun z => ?_, fun _ z => ?_, fun z => ?_, h5, fun _ => bu_at⟩
          · have z : bu q.2.1 j false j = true := z
            rw [bu_at] at z; cases z
          · have z : bu q.1 j true j = false := z
            rw [bu_at] at z; cases z
          · rw [z2, Bool.or_true] at z; cases z
        · rw [if_neg w]; exact ⟨h1, h2, h3, h4, h5, h6⟩
      · rw [if_neg o]
        refine ⟨fun z => ?_, fun z => ?_, fun _ _ _ => ?_, fun z => ?_, ?_, h6⟩
        · have z : q.1 j = true := z
          rw [z3] at z; cases z
        · have z : bu q.2.1 j false j = true := z
          rw [bu_at] at z; cases z
        · show 0 ≤ up q.2.2 j at_ j
          rw [up_at]; exact ha.1
        · rw [z2, Bool.or_true] at z; cases z
        · show -1 ≤ up q.2.2 j at_ j ∧ up q.2.2 j at_ j ≤ 9999
          rw [up_at]; omega
    · have e1 : ∀ v, bu q.1 k v j = q.1 j := fun v => bu_ne y
      have e2 : ∀ v, bu q.2.1 k v j = q.2.1 j := fun v => bu_ne y
      have e3 : ∀ v, up q.2.2 k v j = q.2.2 j := fun v => up_ne y
      by_cases o : okb E C (bu q.1 k true) = true
      · rw [if_pos o]
        by_cases w : nx < asks k
        · rw [if_pos w]
          unfold SJ
          show (bu q.1 k true j = true → bu q.2.1 k false j = false ∧ q.2.2 j = -1) ∧ (bu q.2.1 k false j = true → q.2.2 j = -1 ∧ q0.2.1 j = true) ∧ ((q0.1 j || q0.2.1 j) = true → bu q.1 k true j = false → bu q.2.1 k false j = false → 0 ≤ q.2.2 j) ∧ ((q0.1 j || q0.2.1 j) = false → bu q.1 k true j = false ∧ bu q.2.1 k false j = false ∧ q.2.2 j = -1) ∧ (-1 ≤ q.2.2 j ∧ q.2.2 j ≤ 9999) ∧ (q0.1 j = true → bu q.1 k true j = true)
          rw [e1, e2]; exact h
        · rw [if_neg w]; exact h
      · rw [if_neg o]
        unfold SJ
        show (q.1 j = true → bu q.2.1 k false j = false ∧ up q.2.2 k at_ j = -1) ∧ (bu q.2.1 k false j = true → up q.2.2 k at_ j = -1 ∧ q0.2.1 j = true) ∧ ((q0.1 j || q0.2.1 j) = true → q.1 j = false → bu q.2.1 k false j = false → 0 ≤ up q.2.2 k at_ j) ∧ ((q0.1 j || q0.2.1 j) = false → q.1 j = false ∧ bu q.2.1 k false j = false ∧ up q.2.2 k at_ j = -1) ∧ (-1 ≤ up q.2.2 k at_ j ∧ up q.2.2 k at_ j ≤ 9999) ∧ (q0.1 j = true → q.1 j = true)
        rw [e2, e3]; exact h
  · rw [if_neg c]; exact h
theorem SJ_rnd {E : Nat → Nat → Int} {C : Int} {asks : Nat → Int} {at_ nx : Int} (ha : 0 ≤ at_ ∧ at_ ≤ 9999) {q0 q : Sst} {j : Nat} (h : SJ q0 q j) (n : Nat) : SJ q0 (srnd E C asks at_ nx q n) j := by
  induction n with
  | zero => exact h
  | succ n ih => exact SJ_step ha ih n
theorem SJ_run {E : Nat → Nat → Int} {C : Int} {asks : Nat → Int} {stp : Int} {n : Nat} (hs : 1 ≤ stp) {q0 : Sst} {j : Nat} (f : Nat) : ∀ (q : Sst) (at_ c : Int), (0 ≤ at_ ∧ at_ ≤ 9999) → SJ q0 q j → SJ q0 (srun E C asks stp n f q at_ c).1 j ∧ 0 ≤ (srun E C asks stp n f q at_ c).2.1 ∧ (srun E C asks stp n f q at_ c).2.1 ≤ 9999 := by
  induction f with
  | zero => intro q at_ c ha h; exact ⟨h, ha.1, ha.2⟩
  | succ f ih =>
    intro q at_ c ha h
    unfold srun
    split
    · rename_i w
      rw [Bool.and_eq_true, decide_eq_true_eq] at w
      exact ih _ _ _ (by omega) (SJ_rnd ha h n)
    · exact ⟨h, ha.1, ha.2⟩
/-- who takes part; who stays at once; who is in -/
def tpf (E : Nat → Nat → Int) (now : Nat → Int) (j : Nat) : Bool := prm E j && decide (now j ≠ -1)
def st0 (E : Nat → Nat → Int) (now asks : Nat → Int) (pr : Int) (j : Nat) : Bool := tpf E now j && decide (pr < asks j)
def si0 (E : Nat → Nat → Int) (now asks : Nat → Int) (pr : Int) (j : Nat) : Bool := tpf E now j && !(decide (pr < asks j))
def sq0 (E : Nat → Nat → Int) (now asks : Nat → Int) (pr : Int) : Sst := (st0 E now asks pr, si0 E now asks pr, fun _ => -1)
theorem SJ_0 {E : Nat → Nat → Int} {now asks : Nat → Int} {pr : Int} {j : Nat} : SJ (sq0 E now asks pr) (sq0 E now asks pr) j := by
  unfold SJ sq0
  refine ⟨fun z => ⟨?_, rfl⟩, fun z => ⟨rfl, z⟩, fun z a b => ?_, fun z => ?_, ⟨Int.le_refl _, (by decide : (-1 : Int) ≤ 9999)⟩, fun z => z⟩
  · have z : st0 E now asks pr j = true := z
    show si0 E now asks pr j = false
    unfold st0 at z; unfold si0
    rw [Bool.and_eq_true] at z
    rw [z.2]; simp
  · have z : (st0 E now asks pr j || si0 E now asks pr j) = true := z
    have a : st0 E now asks pr j = false := a
    have b : si0 E now asks pr j = false := b
    rw [a, b] at z; cases z
  · have z : (st0 E now asks pr j || si0 E now asks pr j) = false := z
    rw [Bool.or_eq_false_iff] at z
    exact ⟨z.1, z.2, rfl⟩
theorem tpf_n {E : Nat → Nat → Int} {now : Nat → Int} {j : Nat} (h : tpf E now j = true) : j < nt E ∧ E 7 j = 1 ∧ now j ≠ -1 := by
  unfold tpf prm at h
  rw [Bool.and_eq_true, Bool.and_eq_true, decide_eq_true_eq, decide_eq_true_eq, decide_eq_true_eq] at h
  exact ⟨h.1.1, h.1.2, h.2⟩
/-- all of a selling -/
noncomputable def sres (E : Nat → Nat → Int) (C : Int) (now asks : Nat → Int) (pr stp : Int) : Sst × Int × Int := srun E C asks stp (nt E) 10000 (sq0 E now asks pr) pr 0
/-- the prices then -/
def spr (R : Sst × Int × Int) (j : Nat) : Int := if R.1.2.1 j = true then R.2.1 else R.1.2.2 j
theorem sres_i {E : Nat → Nat → Int} {C : Int} {now asks : Nat → Int} {pr stp : Int} (hp : 0 ≤ pr ∧ pr ≤ 9999) (hs : 1 ≤ stp) (j : Nat) : SJ (sq0 E now asks pr) (sres E C now asks pr stp).1 j ∧ 0 ≤ (sres E C now asks pr stp).2.1 ∧ (sres E C now asks pr stp).2.1 ≤ 9999 := SJ_run hs 10000 _ _ _ hp SJ_0
/-- who is sold, by the price -/
theorem spr_i {E : Nat → Nat → Int} {C : Int} {now asks : Nat → Int} {pr stp : Int} (hp : 0 ≤ pr ∧ pr ≤ 9999) (hs : 1 ≤ stp) (j : Nat) : (-1 ≤ spr (sres E C now asks pr stp) j ∧ spr (sres E C now asks pr stp) j ≤ 9999) ∧ decide (spr (sres E C now asks pr stp) j ≠ -1) = (si0 E now asks pr j && !((sres E C now asks pr stp).1.1 j)) ∧ ((sres E C now asks pr stp).1.1 j = true → tpf E now j = true) := by
  obtain ⟨⟨h1, h2, h3, h4, h5, h6⟩, r1, r2⟩ := sres_i (E := E) (C := C) (now := now) (asks := asks) hp hs j
  have h2 : (sres E C now asks pr stp).1.2.1 j = true → (sres E C now asks pr stp).1.2.2 j = -1 ∧ si0 E now asks pr j = true := h2
  have h3 : (st0 E now asks pr j || si0 E now asks pr j) = true → (sres E C now asks pr stp).1.1 j = false → (sres E C now asks pr stp).1.2.1 j = false → 0 ≤ (sres E C now asks pr stp).1.2.2 j := h3
  have h4 : (st0 E now asks pr j || si0 E now asks pr j) = false → (sres E C now asks pr stp).1.1 j = false ∧ (sres E C now asks pr stp).1.2.1 j = false ∧ (sres E C now asks pr stp).1.2.2 j = -1 := h4
  have h6 : st0 E now asks pr j = true → (sres E C now asks pr stp).1.1 j = true := h6
  refine ⟨?_, ?_, fun z => ?_⟩
  · unfold spr; split
    · omega
    · exact h5
  · unfold spr
    by_cases c : (sres E C now asks pr stp).1.2.1 j = true
    · rw [if_pos c, decide_eq_true (by omega), (h2 c).2, Bool.true_and]
      cases e : (sres E C now asks pr stp).1.1 j with
      | false => rfl
      | true => rw [(h1 e).1] at c; cases c
    · have c : (sres E C now asks pr stp).1.2.1 j = false := Bool.eq_false_iff.mpr c
      rw [c, if_neg (by decide)]
      cases e : (sres E C now asks pr stp).1.1 j with
      | true => rw [(h1 e).2, decide_eq_false (fun z => z rfl)]; simp
      | false =>
        cases i : si0 E now asks pr j with
        | true =>
          have := h3 (by rw [i, Bool.or_true]) e c
          rw [decide_eq_true (by omega)]; rfl
        | false =>
          have s : st0 E now asks pr j = false := by
            cases s : st0 E now asks pr j with
            | false => rfl
            | true => rw [h6 s] at e; cases e
          rw [(h4 (by rw [s, i]; rfl)).2.2, decide_eq_false (fun z => z rfl)]; rfl
  · cases t : (st0 E now asks pr j || si0 E now asks pr j) with
    | false => rw [(h4 t).1] at z; cases z
    | true =>
      rw [Bool.or_eq_true] at t
      rcases t with t | t
      · unfold st0 at t; rw [Bool.and_eq_true] at t; exact t.1
      · unfold si0 at t; rw [Bool.and_eq_true] at t; exact t.1
section CSL
variable {G : Gx} {A : Nat → Nat} {B : Nat → Nat → Nat} {S : Nat → Nat → Int} {h : hw}
theorem Pic.selBegin (P : Pic G A B S h) {C : Int} {x y : Int32} (hy : y = ii C) {post : hw → Prop} (q : ∀ S' h', Pic G A B S' h' → (∀ k, k ≠ 6 → k ≠ 42 → S' k = S k) → S' 6 1 = 1 → S' 6 2 = C → ii (S' 6 3) = x → S' 6 4 = 0 → (∀ j, j < 8 → S' 42 j = -1) → post h') : wp_X8_begin G (A 6) y x h post := by
  subst hy
  refine P.wF (k := 6) (z := C) ⟨by decide, by decide, by decide, by decide⟩ rfl (show 2 < 6 by decide) (by show some _ = some _; rfl) (fun h1 P1 => ?_)
  refine P1.wF (k := 6) (z := 1) ⟨by decide, by decide, by decide, by decide⟩ rfl (show 1 < 6 by decide) rfl (fun h2 P2 => ?_)
  refine P2.wF (k := 6) (z := x.toInt) ⟨by decide, by decide, by decide, by decide⟩ rfl (show 3 < 6 by decide) (congrArg (fun v => some (Sum.inr (8, [Value.ref (A 22), Value.int (ii (su (su S 6 2 C) 6 1 1 6 1)), Value.int (ii (su (su S 6 2 C) 6 1 1 6 2)), Value.int v, Value.int (ii (su (su S 6 2 C) 6 1 1 6 4)), Value.ref (A 23)]))) (ii_of x)) (fun h3 P3 => ?_)
  refine P3.wF (k := 6) (z := 0) ⟨by decide, by decide, by decide, by decide⟩ rfl (show 4 < 6 by decide) rfl (fun h4 P4 => ?_)
  refine P4.ofill (k := 6) (r := 22) (rk := 42) (z := -1) rfl rfl ⟨by omega, by omega⟩ il_m1 (fun h5 P5 => ?_)
  refine q _ h5 P5 (fun k a b => by rw [sf_ne b, su_row _ _ a, su_row _ _ a, su_row _ _ a, su_row _ _ a]) ?_ ?_ ?_ ?_ (fun j hj => sf_at hj)
  · rw [sf_ne (by decide), su_nei _ _ _ (by decide), su_nei _ _ _ (by decide), su_at]
  · rw [sf_ne (by decide), su_nei _ _ _ (by decide), su_nei _ _ _ (by decide), su_nei _ _ _ (by decide), su_at]
  · rw [sf_ne (by decide), su_nei _ _ _ (by decide), su_at, ii_of]
  · rw [sf_ne (by decide), su_at]
theorem Pic.c_sell (P : Pic G A B S h) (hK : KI S) (h39 : chs (S 39)) {n : Nat} (hn5 : n ≤ 511) (R : RI S n) (has : ∀ j, j < 8 → 0 ≤ S (70 + j) 5 ∧ S (70 + j) 5 ≤ 9999) (hFA : FA S) {pr stp C : Int} (hpr : rg pr) (hst : rg stp) (hC : rg C) {post : Int32 → hw → Prop} {xp : String → hw → Prop} (q1 : (1 ≤ pr ∧ pr ≤ 9999) → (1 ≤ stp ∧ stp ≤ 999) → (1 ≤ C ∧ C ≤ 8) → anyb (tpf (EC S) (S 32)) (nt (EC S)) = true → okb (EC S) C (st0 (EC S) (S 32) (fun j => S (70 + j) 5) pr) = true → ∀ Z, Z = sres (EC S) C (S 32) (fun j => S (70 + j) 5) pr stp → ∀ S' h', Pic G A B S' h' → RC S S' n → (∀ k, ¬ kr k → ¬ ks k → k ≠ 40 → S' k = S k) → chs (S' 39) → (∀ j, S' 32 j = if (decide (j < nt (EC S)) && decide (spr Z j ≠ -1)) = true then -1 else S 32 j) → S' 6 1 = 1 → S' 6 2 = C → (∀ j, bt (ii (S' 6 3)) j = Z.1.1 j) → S' 6 4 = Z.2.2 → (∀ j, j < 8 → S' 42 j = spr Z j) → FA S' → post (ii (cnt (fun j => decide (spr Z j ≠ -1)) 8)) h') (q0 : ¬ ((1 ≤ pr ∧ pr ≤ 9999) ∧ (1 ≤ stp ∧ stp ≤ 999) ∧ 1 ≤ C ∧ C ≤ 8) → xp "java/lang/IllegalArgumentException" h) (q2 : (1 ≤ pr ∧ pr ≤ 9999) → (1 ≤ stp ∧ stp ≤ 999) → (1 ≤ C ∧ C ≤ 8) → ¬ (anyb (tpf (EC S) (S 32)) (nt (EC S)) = true ∧ okb (EC S) C (st0 (EC S) (S 32) (fun j => S (70 + j) 5) pr) = true) → ∀ S' h', Pic G A B S' h' → (∀ k, ¬ kp5 k → S' k = S k) → chs (S' 39) → xp "java/lang/UnsupportedOperationException" h') : wp_X11_sell G (A 0) (ii pr) (ii stp) (ii C) h post xp := by
  obtain ⟨h8, hn⟩ := nt8 hK
  refine ⟨P.o (k := 0) rfl, needR hpr (a := 1) (b := 9999) ⟨by omega, by omega⟩ ⟨by omega, by omega⟩ rfl il_1 il_9999 (fun a0 a1 => ?_) (fun z => q0 (fun w => z w.1))⟩
  refine ⟨P.o (k := 0) rfl, needR hst (a := 1) (b := 999) ⟨by omega, by omega⟩ ⟨by omega, by omega⟩ rfl il_1 il_999 (fun b0 b1 => ?_) (fun z => q0 (fun w => z w.2.1))⟩
  refine ⟨P.o (k := 0) rfl, needR hC (a := 1) (b := 8) ⟨by omega, by omega⟩ ⟨by omega, by omega⟩ rfl il_1 il_8 (fun c0 c1 => ?_) (fun z => q0 (fun w => z w.2.2))⟩
  have q1 := q1 ⟨a0, a1⟩ ⟨b0, b1⟩ ⟨c0, c1⟩
  have q2 := q2 ⟨a0, a1⟩ ⟨b0, b1⟩ ⟨c0, c1⟩
  refine P.rR (k := 0) rfl rfl ⟨P.o (k := 1) rfl, P.protOnes hK (fun x1 hx1 => ?_)⟩
  refine P.rR (k := 0) rfl rfl ⟨P.o (k := 3) rfl, P.onesOn R.2.2.2.1 (fun x2 hx2 => ?_)⟩
  have tp : ∀ j, bt (x1 &&& x2) j = tpf (EC S) (S 32) j := fun j => by
    rw [b_and, hx1 j, hx2 j]
    unfold tpf prm
    by_cases y : j < nt (EC S)
    · rw [decide_eq_true (p := j < 8) (by omega), Bool.true_and]
    · rw [decide_eq_false y]; simp
  refine ⟨fun w => ?_, fun w => q2 (fun z => ?_) S h P (fun _ _ => rfl) h39⟩
  · have any : anyb (tpf (EC S) (S 32)) (nt (EC S)) = true := by
      obtain ⟨i, hi, hb⟩ := b_ne0.mp w
      rw [tp i] at hb
      exact anyb_t.mpr ⟨i, (tpf_n hb).1, hb⟩
    refine P.rR (k := 0) rfl rfl (P.rR (k := 0) rfl rfl ⟨P.o (k := 5) rfl, P.prep hK h39 (C := C) ⟨by omega, c1⟩ rfl (fun S1 h1 P1 f1 hK1 eE hR => ?_)⟩)
    obtain ⟨-, -, -, e7⟩ := kp5_K f1 hK
    refine P1.rR (k := 0) rfl rfl ⟨P1.o (k := 1) rfl, P1.asking hK1 hpr (fun j hj => by rw [e7 j (by omega)]; have := has j hj; exact ⟨by omega, by omega⟩) (fun x3 hx3 => ?_)⟩
    rw [eE] at hx3
    have stb : ∀ j, bt ((x1 &&& x2) &&& x3) j = st0 (EC S) (S 32) (fun j => S (70 + j) 5) pr j := fun j => by
      rw [b_and, tp j, hx3 j]
      unfold st0
      by_cases y : j < nt (EC S)
      · rw [decide_eq_true y, Bool.true_and]
        show (tpf (EC S) (S 32) j && decide (pr < S1 (70 + j) 5)) = _
        rw [e7 j (by omega)]
      · have : tpf (EC S) (S 32) j = false := Bool.eq_false_iff.mpr (fun z => y (tpf_n z).1)
        rw [this, Bool.false_and, Bool.false_and]
    refine P1.rR (k := 0) rfl rfl ⟨P1.o (k := 5) rfl, P1.fits hR (fun i hi => ?_) (fun S2 h2 P2 m1 m2 => ?_)⟩
    · rw [stb i] at hi; unfold st0 at hi; rw [Bool.and_eq_true] at hi; exact (tpf_n hi.1).1
    have f2 : ∀ k, ¬ kp5 k → S2 k = S k := fun k hk => by rw [m1 k (fun z => hk (Or.inl z)) (fun z => hk (Or.inr (Or.inl z))) (fun z => hk (Or.inr (Or.inr (Or.inr z)))), f1 k hk]
    obtain ⟨hK2, eE2, e512, e72⟩ := kp5_K f2 hK
    rw [okb_m (fun j _ => stb j), bI_1, bI_0]
    refine ⟨fun ok => ?_, fun no => q2 (fun z => by rw [no] at z; exact absurd z.2 (by decide)) S2 h2 P2 f2 m2.2.2.2.2.2⟩
    have q1 := q1 any ok _ rfl
    refine P2.rR (k := 0) rfl rfl ⟨P2.o (k := 6) rfl, P2.selBegin rfl (fun S3 h3 P3 g1 g2 g3 g4 g5 g6 => ?_)⟩
    have f3 : ∀ k, ¬ kp5 k → k ≠ 6 → k ≠ 42 → S3 k = S k := fun k a b c => by rw [g1 k b c, f2 k a]
    have f3s : ∀ k, ¬ ks k → k ≠ 40 → S3 k = S k := fun k a b => f3 k (fun z => by rcases z with z | z | z | z; exact a (Or.inl z); exact a (Or.inr (Or.inr (Or.inl z))); exact b z; exact a (Or.inr (Or.inr (Or.inr (Or.inl z))))) (fun z => a (Or.inr (Or.inl z))) (fun z => a (Or.inr (Or.inr (Or.inr (Or.inr (Or.inl z))))))
    have hK3 : KI S3 ∧ EC S3 = EC S ∧ S3 51 2 = S 51 2 ∧ ∀ j, S3 (70 + j) 5 = S (70 + j) 5 := by
      have e2 : ∀ k, kl k → S3 k = S k := fun k hk => f3 k (fun z => by unfold kp5 at z; unfold kl at hk; omega) (fun z => by unfold kl at hk; omega) (fun z => by unfold kl at hk; omega)
      exact ⟨hK.of e2 (f3 31 (fun z => by unfold kp5 at z; omega) (by decide) (by decide)), EC_of e2, by rw [f3 51 (fun z => by unfold kp5 at z; omega) (by decide) (by decide)], fun j => by rw [f3 (70 + j) (fun z => by unfold kp5 at z; omega) (by omega) (by omega)]⟩
    obtain ⟨hK3, eE3, e513, e73⟩ := hK3
    have eas : (fun j => S3 (70 + j) 5) = (fun j => S (70 + j) 5) := funext e73
    have hR3 : PR S3 (EC S) C := m2.of (by rw [g1 5 (by decide) (by decide)]) (g1 40 (by decide) (by decide)) (g1 41 (by decide) (by decide)) (g1 39 (by decide) (by decide))
    refine P3.rR (k := 0) rfl rfl (P3.rR (k := 0) rfl rfl (P3.rR (k := 0) rfl rfl ⟨P3.o (k := 6) rfl, ?_⟩))
    have sib : ∀ j, bt ((x1 &&& x2) &&& (((x1 &&& x2) &&& x3) ^^^ (-1))) j = si0 (EC S) (S 32) (fun j => S (70 + j) 5) pr j := fun j => by
      rw [b_and, b_xor, stb j, tp j]
      unfold si0 st0
      by_cases y : j < 32
      · rw [b_m1 j y]
        cases tpf (EC S) (S 32) j <;> simp
      · have : tpf (EC S) (S 32) j = false := Bool.eq_false_iff.mpr (fun z => y (by have := (tpf_n z).1; omega))
        rw [this, Bool.false_and, Bool.false_and]
    refine P3.selRun hK3 (C := C) (by rw [eE3]; exact hR3) ⟨by omega, a1⟩ ⟨b0, b1⟩ (q0 := sq0 (EC S) (S 32) (fun j => S (70 + j) 5) pr) ⟨fun j => by rw [g4]; exact stb j, sib, fun j hj => g6 j hj⟩ (fun j hj => ?_) (fun j hj => ?_) (fun j hj => by rw [e73]; exact has j hj) (fun j hj => ?_) (fun j hj => ?_) (fun Z hZ S4 h4 x4 P4 n1 n2 n3 n4 n5 n6 n7 n8 => ?_)
    · rw [eE3]
      have hj : st0 (EC S) (S 32) (fun j => S (70 + j) 5) pr j = true := hj
      unfold st0 at hj; rw [Bool.and_eq_true] at hj; exact (tpf_n hj.1).1
    · rw [eE3]
      have hj : si0 (EC S) (S 32) (fun j => S (70 + j) 5) pr j = true := hj
      unfold si0 at hj; rw [Bool.and_eq_true] at hj; exact (tpf_n hj.1).1
    · have hj : si0 (EC S) (S 32) (fun j => S (70 + j) 5) pr j = true := hj
      unfold si0 at hj
      rw [Bool.and_eq_true, Bool.not_eq_true', decide_eq_false_iff_not] at hj
      have := (show ¬ pr < S (70 + j) 5 from hj.2)
      rw [e73]; omega
    · rw [g6 j hj, f3 43 (fun z => by unfold kp5 at z; omega) (by decide) (by decide)]
      exact ⟨(hFA j hj).1, fun z => absurd rfl z⟩
    · rw [eE3, eas, g5] at hZ
      have hZ' : Z = sres (EC S) C (S 32) (fun j => S (70 + j) 5) pr stp := hZ
      rw [← hZ'] at q1
      have si := fun j => spr_i (E := EC S) (C := C) (now := S 32) (asks := fun j => S (70 + j) 5) (pr := pr) (stp := stp) ⟨by omega, a1⟩ b0 j
      rw [← hZ'] at si
      have x4b : ∀ j, bt x4 j = decide (spr Z j ≠ -1) := fun j => by rw [n8 j, sib j, (si j).2.1]
      have x4n : ∀ j, bt x4 j = true → j < nt (EC S) := fun j hj => by
        rw [n8 j, sib j, Bool.and_eq_true] at hj
        have := hj.1
        unfold si0 at this; rw [Bool.and_eq_true] at this; exact (tpf_n this.1).1
      have f4 : ∀ k, ¬ ks k → k ≠ 40 → S4 k = S k := fun k a b => by rw [n1 k a, f3s k a b]
      intro J146 hJ146
      have main : ∀ i : Nat, i ≤ nt (EC S) → ∀ (S' : Nat → Nat → Int) (h' : hw), Pic G A B S' h' → RC S S' n → (∀ k, ¬ kr k → S' k = S4 k) → (∀ j, S' 32 j = if j < i ∧ bt x4 j = true then -1 else S 32 j) → J146 (ii (i : Int)) h' := by
        intro i hi
        refine lp_up (J := fun i : Nat => ∀ (S' : Nat → Nat → Int) (h' : hw), Pic G A B S' h' → RC S S' n → (∀ k, ¬ kr k → S' k = S4 k) → (∀ j, S' 32 j = if j < i ∧ bt x4 j = true then -1 else S 32 j) → J146 (ii (i : Int)) h') (n := nt (EC S)) ?_ ?_ hi
        · intro S' h' P' k1 k2 k3
          have e51 : S' 51 2 = S 51 2 := by rw [k2 51 (fun z => by unfold kr at z; omega), f4 51 (fun z => by unfold ks at z; omega) (by decide)]
          have e6 : S' 6 = S4 6 := k2 6 (fun z => by unfold kr at z; omega)
          apply hJ146
          refine P'.rR (k := 0) rfl rfl (P'.nT ?_)
          rw [e51, hn, ii_le ⟨by omega, by omega⟩ ⟨by omega, by omega⟩]
          refine ⟨fun _ => bitc (fun i hi => ?_) ?_, fun z => absurd (Int.le_refl _) z⟩
          · exact Bool.eq_false_iff.mpr (fun z => by have := x4n i z; omega)
          · rw [cnt_of (g := fun j => decide (spr Z j ≠ -1)) (fun j _ => x4b j)]
            refine q1 S' h' P' k1 (fun k a b c => by rw [k2 k a, f4 k b c]) (by rw [k2 39 (fun z => by unfold kr at z; omega)]; exact n3.2.2.2.2.2) (fun j => ?_) (by rw [e6, n2 1 (by decide) (by decide), g2]) (by rw [e6, n2 2 (by decide) (by decide), g3]) (fun j => by rw [e6]; exact n4 j) (by rw [e6]; exact n5) (fun j hj => by rw [k2 42 (fun z => by unfold kr at z; omega)]; exact n6 j hj) (by unfold FA; rw [k2 42 (fun z => by unfold kr at z; omega), k2 43 (fun z => by unfold kr at z; omega)]; exact n7)
            rw [k3 j, x4b j]
            refine ite_iff ?_
            rw [Bool.and_eq_true, decide_eq_true_eq (p := j < nt (EC S))]
        · intro i hi ih S' h' P' k1 k2 k3
          have e51 : S' 51 2 = S 51 2 := by rw [k2 51 (fun z => by unfold kr at z; omega), f4 51 (fun z => by unfold ks at z; omega) (by decide)]
          apply hJ146
          refine P'.rR (k := 0) rfl rfl (P'.nT ?_)
          rw [e51, hn, ii_le ⟨by omega, by omega⟩ ⟨by omega, by omega⟩]
          refine ⟨fun z => absurd z (by omega), fun _ => ?_⟩
          refine isIn_of (i := i) (by omega) rfl ?_
          intro J181 hJ181
          rw [bI_1, bI_0]
          refine ⟨fun w => ?_, fun w => ?_⟩
          · apply hJ181; rw [ii_inc']
            refine ih S' h' P' k1 k2 (fun j => ?_)
            rw [k3 j]
            by_cases y : j = i
            · subst y; rw [if_neg (fun z => by omega), if_neg (fun z => by rw [w] at z; exact absurd z.2 (by decide))]
            · exact ite_iff ⟨fun z => ⟨by omega, z.2⟩, fun z => ⟨by omega, z.2⟩⟩
          · refine P'.rR (k := 0) rfl rfl ⟨P'.o (k := 3) rfl, P'.chg hn5 k1.1 (s := i) (by omega) rfl (ch := -1) il_m1 ⟨by omega, by omega⟩ (fun S5 h5 P5 r5 m5 m6 => ?_)⟩
            apply hJ181; rw [ii_inc']
            refine ih S5 h5 P5 (k1.tr r5) (fun k hk => by rw [m5 k hk, k2 k hk]) (fun j => ?_)
            rw [m6]; unfold up
            by_cases y : j = i
            · subst y; rw [if_pos rfl, if_pos ⟨by omega, w⟩]
            · rw [if_neg y, k3 j]; exact ite_iff ⟨fun z => ⟨by omega, z.2⟩, fun z => ⟨by omega, z.2⟩⟩
      exact main 0 (by omega) S4 h4 P4 (RC.of (S1 := S) (fun k hk => f4 k (fun z => by unfold ks at z; unfold kg at hk; omega) (fun z => by unfold kg at hk; omega)) (RC.rf R)) (fun _ _ => rfl) (fun j => by rw [if_neg (fun z => by omega), f4 32 (fun z => by unfold ks at z; omega) (by decide)])
  · obtain ⟨i, hi, hb⟩ := anyb_t.mp z.1
    rw [← tp i, w, b_0] at hb
    cases hb
end CSL
