/-! a selling's prices lie between what was asked and the first one -/
def SPJ (asks : Nat → Int) (pr at_ : Int) (q : Sst) (j : Nat) : Prop := (q.2.1 j = true → asks j ≤ at_) ∧ (q.2.2 j ≠ -1 → asks j ≤ q.2.2 j ∧ q.2.2 j ≤ pr)
section SPS
variable {E : Nat → Nat → Int} {C : Int} {asks : Nat → Int} {pr : Int}
theorem SPJ_step {at_ nx : Int} (ha : at_ ≤ pr) {q : Sst} {j : Nat} (h : SPJ asks pr at_ q j) (k : Nat) : SPJ asks pr at_ (sstep E C asks at_ nx k q) j := by
  unfold sstep
  by_cases c : q.2.1 k = true
  · rw [if_pos c]
    by_cases o : okb E C (bu q.1 k true) = true
    · rw [if_pos o]
      by_cases w : nx < asks k
      · rw [if_pos w]
        refine ⟨fun z => ?_, h.2⟩
        have z : bu q.2.1 k false j = true := z
        by_cases y : j = k
        · subst y; rw [bu_at] at z; cases z
        · rw [bu_ne y] at z; exact h.1 z
      · rw [if_neg w]; exact h
    · rw [if_neg o]
      refine ⟨fun z => ?_, fun z => ?_⟩
      · have z : bu q.2.1 k false j = true := z
        by_cases y : j = k
        · subst y; rw [bu_at] at z; cases z
        · rw [bu_ne y] at z; exact h.1 z
      · show asks j ≤ up q.2.2 k at_ j ∧ up q.2.2 k at_ j ≤ pr
        have z : up q.2.2 k at_ j ≠ -1 := z
        by_cases y : j = k
        · subst y; rw [up_at]; exact ⟨h.1 c, ha⟩
        · rw [up_ne y] at z ⊢; exact h.2 z
  · rw [if_neg c]; exact h
theorem SPJ_rnd {at_ nx : Int} (ha : at_ ≤ pr) {q : Sst} {j : Nat} (h : SPJ asks pr at_ q j) (n : Nat) : SPJ asks pr at_ (srnd E C asks at_ nx q n) j := by
  induction n with
  | zero => exact h
  | succ n ih => exact SPJ_step ha ih n
theorem SPJ_run {stp : Int} {n : Nat} (hs : 1 ≤ stp) {j : Nat} (hj : j < n) (f : Nat) : ∀ (q : Sst) (at_ c : Int), at_ ≤ pr → 0 ≤ c → SPJ asks pr at_ q j → SPJ asks pr (srun E C asks stp n f q at_ c).2.1 (srun E C asks stp n f q at_ c).1 j ∧ (srun E C asks stp n f q at_ c).2.1 ≤ pr ∧ c ≤ (srun E C asks stp n f q at_ c).2.2 ∧ (srun E C asks stp n f q at_ c).2.2 ≤ c + f := by
  induction f with
  | zero => intro q at_ c ha hc h; exact ⟨h, ha, Int.le_refl _, by show c ≤ c + ((0 : Nat) : Int); omega⟩
  | succ f ih =>
    intro q at_ c ha hc h
    unfold srun
    split
    · have w := SPJ_rnd (E := E) (C := C) (nx := at_ - stp) ha h n
      have x := srnd_nx (E := E) (C := C) (asks := asks) (at_ := at_) (nx := at_ - stp) q n j hj
      have r := ih (srnd E C asks at_ (at_ - stp) q n) (at_ - stp) (c + 1) (by omega) (by omega) ⟨x, w.2⟩
      exact ⟨r.1, r.2.1, by omega, by omega⟩
    · exact ⟨h, ha, Int.le_refl _, by show c ≤ c + ((f + 1 : Nat) : Int); omega⟩
end SPS
theorem spr_ask {E : Nat → Nat → Int} {C : Int} {now asks : Nat → Int} {pr stp : Int} (hs : 1 ≤ stp) {j : Nat} (hj : j < nt E) : (spr (sres E C now asks pr stp) j ≠ -1 → asks j ≤ spr (sres E C now asks pr stp) j ∧ spr (sres E C now asks pr stp) j ≤ pr) ∧ 0 ≤ (sres E C now asks pr stp).2.2 ∧ (sres E C now asks pr stp).2.2 ≤ 10000 := by
  have h0 : SPJ asks pr pr (sq0 E now asks pr) j := by
    refine ⟨fun z => ?_, fun z => absurd rfl z⟩
    have z : si0 E now asks pr j = true := z
    unfold si0 at z
    rw [Bool.and_eq_true] at z
    cases y : decide (pr < asks j) with
    | true => rw [y] at z; cases z.2
    | false => rw [decide_eq_false_iff_not] at y; omega
  obtain ⟨⟨r1, r2⟩, r3, r4, r5⟩ := SPJ_run (E := E) (C := C) hs hj 10000 (sq0 E now asks pr) pr 0 (Int.le_refl _) (by decide) h0
  refine ⟨fun z => ?_, r4, by have r5 : (sres E C now asks pr stp).2.2 ≤ 0 + ((10000 : Nat) : Int) := r5; omega⟩
  have e : spr (sres E C now asks pr stp) j = if (sres E C now asks pr stp).1.2.1 j = true then (sres E C now asks pr stp).2.1 else (sres E C now asks pr stp).1.2.2 j := rfl
  by_cases y : (sres E C now asks pr stp).1.2.1 j = true
  · rw [if_pos y] at e
    rw [e]; exact ⟨r1 y, r3⟩
  · rw [if_neg y] at e
    rw [e] at z ⊢; exact r2 z
/-- who is sold took part -/
theorem spr_in {E : Nat → Nat → Int} {C : Int} {now asks : Nat → Int} {pr stp : Int} (hp : 0 ≤ pr ∧ pr ≤ 9999) (hs : 1 ≤ stp) {j : Nat} (h : spr (sres E C now asks pr stp) j ≠ -1) : j < nt E ∧ E 7 j = 1 ∧ now j ≠ -1 := by
  have d := (spr_i (E := E) (C := C) (now := now) (asks := asks) hp hs j).2.1
  rw [decide_eq_true h] at d
  have d2 : si0 E now asks pr j = true := by
    cases y : si0 E now asks pr j with
    | true => rfl
    | false => rw [y] at d; cases d
  unfold si0 at d2
  rw [Bool.and_eq_true] at d2
  exact tpf_n d2.1
section SLD
variable {G : Gx} {A : Nat → Nat} {B : Nat → Nat → Nat} {S : Nat → Nat → Int} {h : hw} {c : Nat} {post : Int32 → hw → Prop}
theorem Pic.d11 (P : Pic G A B S h) (I : VI G S c) (hc : c ≤ 511) {pr stp C : Int} (hpr : 1 ≤ pr ∧ pr ≤ 9999) (hst : 1 ≤ stp ∧ stp ≤ 999) (hC : 1 ≤ C ∧ C ≤ 8) {x y z w : Int32} (hx : x = ii pr) (hy : y = ii stp) (hz : z = ii C) (q1 : ∀ S' h', Pic G A B S' h' → VI G S' c → S' 3 1 = S 3 1 → S' 8 = S 8 → S' 90 = S 90 → (0 ≤ S' 6 4 ∧ S' 6 4 ≤ 10000) → (∀ j, j < 6 → S' 42 j = -1 → S' 32 j = S 32 j) → (∀ j, j < 6 → S' 42 j ≠ -1 → prt G j = true ∧ S 32 j ≠ -1 ∧ S' 32 j = -1 ∧ pk G (170 + j) 60 ≤ S' 42 j ∧ S' 42 j ≤ pr) → post (ii (cnt (fun j => decide (S' 42 j ≠ -1)) 6)) h') (q2 : ∀ S' h', Pic G A B S' h' → VI G S' c → S' 3 1 = S 3 1 → S' 8 = S 8 → S' 90 = S 90 → post (-20004) h') : wp_L_deed G (A 0) 11 x y z w h post := by
  subst hx hy hz
  have n6 := vi_nt I
  refine deed_11 (P.o (k := 0) rfl) ?_
  refine P.c_sell (vi_ki I) (vi_39 I) hc (vi_ri I) (vi_as I) (vi_se I).1 ⟨by omega, by omega⟩ ⟨by omega, by omega⟩ ⟨by omega, by omega⟩ (fun _ _ _ _ _ Z hZ S' h' P' R k c39 e32 e61 e62 e63 e64 e42 fa => ?_) (fun z => absurd ⟨hpr, hst, hC⟩ z) (fun _ _ _ _ S' h' P' k c39 => ?_)
  · subst hZ
    have el : ∀ i, (i ≠ 5 ∧ i ≠ 6 ∧ (i < 32 ∨ 35 < i) ∧ (i < 39 ∨ 43 < i)) → S' i = S i := fun i hi => k i (fun z => by unfold kr at z; omega) (fun z => by unfold ks at z; omega) (by omega)
    have hf : ∀ i, fxk i → S' i = S i := fun i hi => el i (by unfold fxk at hi; omega)
    have eC : EC S' = EC S := EC_of (fx_kl hf)
    have si : ∀ j, spr (sres (EC S) C (S 32) (fun j => S (70 + j) 5) pr stp) j ≠ -1 → j < nt (EC S) ∧ EC S 7 j = 1 ∧ S 32 j ≠ -1 := fun j hj => spr_in ⟨by omega, by omega⟩ hst.1 hj
    have ask := fun j (hj : j < nt (EC S)) => spr_ask (E := EC S) (C := C) (now := S 32) (asks := fun j => S (70 + j) 5) (pr := pr) (stp := stp) hst.1 hj
    have on : ∀ j, S' 32 j = S 32 j ∨ S' 32 j = -1 := fun j => by
      rw [e32 j]
      split
      · exact Or.inr rfl
      · exact Or.inl rfl
    have I2 := I
    obtain ⟨i1, i2, i3, i4, i5, i6, i7, i8⟩ := I2
    have I' : VI G S' c := by
      refine ⟨fx_of hf i1, ⟨R.1, ?_, ?_⟩, br_of (el 3 (by decide)) (el 36 (by decide)) (el 37 (by decide)) (el 38 (by decide)) i3, ⟨fa, fun j hj => ?_, Or.inr e61, by omega, fun j hj => ?_⟩, fb_of (el 7 (by decide)) (el 44 (by decide)) (el 45 (by decide)) (el 46 (by decide)) i5, mv_of (el 8 (by decide)) (el 48 (by decide)) i6, c39, by rw [el 49 (by decide)]; exact i8⟩
      · rw [el 8 (by decide), eC]
        exact fun y => alk_offs (fun j _ => on j) (i2.2.1 y)
      · rw [eC]
        intro j h1 h2
        rcases on j with y | y
        · rw [y]; exact i2.2.2 j h1 h2
        · exact y
      · rw [e42 j hj]
        exact (spr_i ⟨by omega, by omega⟩ hst.1 j).1
      · rw [e63 j] at hj
        rw [eC]
        have t := tpf_n ((spr_i (E := EC S) (C := C) (now := S 32) (asks := fun j => S (70 + j) 5) (pr := pr) (stp := stp) ⟨by omega, by omega⟩ hst.1 j).2.2 hj)
        exact ⟨t.1, t.2.1⟩
    have ct : cnt (fun j => decide (spr (sres (EC S) C (S 32) (fun j => S (70 + j) 5) pr stp) j ≠ -1)) 8 = cnt (fun j => decide (S' 42 j ≠ -1)) 6 := by
      have f : ∀ j, 6 ≤ j → decide (spr (sres (EC S) C (S 32) (fun j => S (70 + j) 5) pr stp) j ≠ -1) = false := fun j hj => decide_eq_false (fun y => by have := (si j y).1; omega)
      show cnt (fun j => decide (spr (sres (EC S) C (S 32) (fun j => S (70 + j) 5) pr stp) j ≠ -1)) 6 + bI (decide (spr (sres (EC S) C (S 32) (fun j => S (70 + j) 5) pr stp) 6 ≠ -1)) + bI (decide (spr (sres (EC S) C (S 32) (fun j => S (70 + j) 5) pr stp) 7 ≠ -1)) = _
      rw [f 6 (by decide), f 7 (by decide)]
      rw [cnt_of (g := fun j => decide (S' 42 j ≠ -1)) (n := 6) (fun j hj => by rw [e42 j (by omega)])]
      show cnt (fun j => decide (S' 42 j ≠ -1)) 6 + 0 + 0 = _
      omega
    rw [ct]
    have rd := (ask 0 (by omega)).2
    refine q1 S' h' P' I' (by rw [el 3 (by decide)]) (el 8 (by decide)) (el 90 (by decide)) (by rw [e64]; exact rd) (fun j hj y => ?_) (fun j hj y => ?_)
    · rw [e42 j (by omega)] at y
      rw [e32 j, decide_eq_false (p := spr _ j ≠ -1) (fun z => z y), Bool.and_false, if_neg (by decide)]
    · rw [e42 j (by omega)] at y ⊢
      have s := si j y
      have a := (ask j s.1).1 y
      have a1 : S (70 + j) 5 ≤ _ := a.1
      rw [vi_aj I j hj] at a1
      refine ⟨(vi_p1 I hj).mp s.2.1, s.2.2, ?_, a1, a.2⟩
      rw [e32 j, decide_eq_true y, decide_eq_true s.1]
      rfl
  · have v := vi_kp5 I k c39
    exact xD_uo (q2 S' h' P' v.1 (by rw [k 3 (fun z => by unfold kp5 at z; omega)]) (k 8 (fun z => by unfold kp5 at z; omega)) (k 90 (fun z => by unfold kp5 at z; omega)))
end SLD
