/-! a move: no more dark ones than phases; who moved is on and must be protected -/
theorem mph_out {E : Nat → Nat → Int} {pl : Nat → Int} {cr its : Int} {q : Mst} {j : Nat} (hj : nt E ≤ j) (k : Nat) (hk : k ≤ nt E) : (mph E pl cr its q k).2.1 j = q.2.1 j := by
  induction k with
  | zero => rfl
  | succ k ih =>
    have ih := ih (by omega)
    show (mstep E pl cr its k (mph E pl cr its q k)).2.1 j = _
    unfold mstep
    split
    · show mvn E k (pl k) (mph E pl cr its q k).2.1 j = _
      unfold mvn
      rw [if_neg (by omega), if_neg (fun z => by unfold sil at z; rw [Bool.and_eq_true, decide_eq_true_eq (p := _ ∧ _ ∧ _)] at z; omega)]
      exact ih
    · exact ih
theorem mrun_out {E : Nat → Nat → Int} {pl : Nat → Int} {cr : Int} {j : Nat} (hj : nt E ≤ j) (f : Nat) : ∀ (wt : Nat → Bool) (now ph : Nat → Int) (dk ps : Int), (mrun E pl cr (nt E) f wt now ph dk ps).1 j = now j := by
  induction f with
  | zero => intro wt now ph dk ps; rfl
  | succ f ih =>
    intro wt now ph dk ps
    rw [mrun_s]
    split
    · split
      · rw [ih, mph_out hj _ (Nat.le_refl _)]
      · split
        · rfl
        · rename_i l
          rw [ih]
          rcases lws_in (onw (wt, now, ph, 0)) (nt E) with ⟨y, -⟩ | ⟨b, b0, y, -⟩
          · exact absurd y l
          · rw [y, Int.toNat_natCast, up_ne (by omega)]
    · rfl
/-- one station, while a move goes on -/
def MVJ (E : Nat → Nat → Int) (pl : Nat → Int) (ps : Int) (wt : Nat → Bool) (now ph : Nat → Int) (j : Nat) : Prop := (∀ i, wt i = true → E 7 i = 1 ∧ 0 ≤ pl i) ∧ (ph j ≠ -1 → 0 ≤ ph j ∧ ph j ≤ ps ∧ now j ≠ -1 ∧ E 7 j = 1 ∧ wt j = false)
section MVS
variable {E : Nat → Nat → Int} {pl : Nat → Int} {cr : Int} {j : Nat}
theorem MVJ_step {its : Int} (h0 : 0 ≤ its) {q : Mst} (h : MVJ E pl its q.1 q.2.1 q.2.2.1 j) (k : Nat) : MVJ E pl its (mstep E pl cr its k q).1 (mstep E pl cr its k q).2.1 (mstep E pl cr its k q).2.2.1 j := by
  unfold mstep
  by_cases c : q.1 k = true ∧ q.2.2.2 < cr ∧ fre E pl q.2.1 k = true
  · rw [if_pos c]
    have wk := h.1 k c.1
    refine ⟨fun i hi => ?_, fun z => ?_⟩
    · have hi : bu q.1 k false i = true := hi
      by_cases y : i = k
      · subst y; rw [bu_at] at hi; cases hi
      · rw [bu_ne y] at hi; exact h.1 i hi
    · have z : up q.2.2.1 k its j ≠ -1 := z
      show 0 ≤ up q.2.2.1 k its j ∧ up q.2.2.1 k its j ≤ its ∧ mvn E k (pl k) q.2.1 j ≠ -1 ∧ E 7 j = 1 ∧ bu q.1 k false j = false
      by_cases y : j = k
      · subst y
        rw [up_at, bu_at]
        refine ⟨h0, Int.le_refl _, ?_, wk.1, rfl⟩
        unfold mvn
        rw [if_pos rfl]
        omega
      · rw [up_ne y] at z ⊢
        rw [bu_ne y]
        obtain ⟨a1, a2, a3, a4, a5⟩ := h.2 z
        refine ⟨a1, a2, ?_, a4, a5⟩
        unfold mvn
        rw [if_neg y, if_neg (fun w => by unfold sil at w; rw [Bool.and_eq_true, decide_eq_true_eq (p := _ ∧ _ ∧ _)] at w; exact w.1.2.1 a4)]
        exact a3
  · rw [if_neg c]; exact h
theorem MVJ_ph {its : Int} (h0 : 0 ≤ its) {q : Mst} (h : MVJ E pl its q.1 q.2.1 q.2.2.1 j) (n : Nat) : MVJ E pl its (mph E pl cr its q n).1 (mph E pl cr its q n).2.1 (mph E pl cr its q n).2.2.1 j := by
  induction n with
  | zero => exact h
  | succ n ih => exact MVJ_step h0 ih n
theorem MVJ_run {n : Nat} (f : Nat) : ∀ (wt : Nat → Bool) (now ph : Nat → Int) (dk ps : Int), 0 ≤ dk → dk ≤ ps → MVJ E pl ps wt now ph j → ((mrun E pl cr n f wt now ph dk ps).2.1 j ≠ -1 → 0 ≤ (mrun E pl cr n f wt now ph dk ps).2.1 j ∧ (mrun E pl cr n f wt now ph dk ps).2.1 j ≤ (mrun E pl cr n f wt now ph dk ps).2.2.2 ∧ (mrun E pl cr n f wt now ph dk ps).1 j ≠ -1 ∧ E 7 j = 1) ∧ 0 ≤ (mrun E pl cr n f wt now ph dk ps).2.2.1 ∧ (mrun E pl cr n f wt now ph dk ps).2.2.1 ≤ (mrun E pl cr n f wt now ph dk ps).2.2.2 := by
  induction f with
  | zero =>
    intro wt now ph dk ps h0 h1 h
    exact ⟨fun z => ⟨(h.2 z).1, (h.2 z).2.1, (h.2 z).2.2.1, (h.2 z).2.2.2.1⟩, h0, h1⟩
  | succ f ih =>
    intro wt now ph dk ps h0 h1 h
    have fin : ((now, ph, dk, ps) : (Nat → Int) × (Nat → Int) × Int × Int).2.1 j ≠ -1 → 0 ≤ ph j ∧ ph j ≤ ps ∧ now j ≠ -1 ∧ E 7 j = 1 := fun z => ⟨(h.2 z).1, (h.2 z).2.1, (h.2 z).2.2.1, (h.2 z).2.2.2.1⟩
    rw [mrun_s]
    split
    · split
      · refine ih _ _ _ _ _ h0 (by omega) ?_
        have h' : MVJ E pl (ps + 1) wt now ph j := ⟨h.1, fun z => ⟨(h.2 z).1, by have := (h.2 z).2.1; omega, (h.2 z).2.2⟩⟩
        exact MVJ_ph (q := (wt, now, ph, 0)) (by omega) h' n
      · split
        · exact ⟨fin, h0, h1⟩
        · rename_i l
          refine ih _ _ _ _ _ (by omega) (by omega) ⟨h.1, fun z => ?_⟩
          obtain ⟨a1, a2, a3, a4, a5⟩ := h.2 z
          rcases lws_in (onw (wt, now, ph, 0)) n with ⟨y, -⟩ | ⟨b, b0, y, hb, -⟩
          · exact absurd y l
          · have wb : wt b = true := by
              unfold onw at hb
              rw [Bool.and_eq_true] at hb
              exact hb.1
            have ne : j ≠ b := fun e => by rw [e, wb] at a5; cases a5
            rw [y, Int.toNat_natCast, up_ne ne]
            exact ⟨a1, by omega, a3, a4, a5⟩
    · exact ⟨fin, h0, h1⟩
end MVS
section MOV
variable {G : Gx} {A : Nat → Nat} {B : Nat → Nat → Nat} {S : Nat → Nat → Int} {h : hw} {c : Nat} {post : Int32 → hw → Prop}
theorem Pic.d14 (P : Pic G A B S h) (I : VI G S c) (hc : c ≤ 511) {cr : Int} (hcr : 1 ≤ cr ∧ cr ≤ 4) {x y : Int32} (hx : x = ii cr) (q1 : ∀ (v : Int) S' h', Pic G A B S' h' → VI G S' c → S' 3 1 = S 3 1 → (0 ≤ v ∧ v ≤ 16) → (0 ≤ S' 8 2 ∧ S' 8 2 ≤ v) → (∀ j, j < 6 → S' 48 j ≠ -1 → 0 ≤ S' 48 j ∧ S' 48 j ≤ v ∧ S' 32 j ≠ -1 ∧ prt G j = true) → post (ii v) h') (q2 : ∀ S' h', Pic G A B S' h' → VI G S' c → S' 3 1 = S 3 1 → post (-20004) h') : wp_L_ask G (A 0) 14 x y h post := by
  subst hx
  have n6 := vi_nt I
  obtain ⟨-, -, s61, s62, s63⟩ := vi_se I
  refine deed_14 (P.o (k := 0) rfl) ?_
  refine P.c_move (vi_ki I) (vi_39 I) hc (vi_ri I) s61 s62 s63 ⟨by omega, by omega⟩ (fun _ _ p cp fp Z hZ S' h' P' R k c39 e81 e32 e48 e82 zr => ?_) (fun z => absurd hcr z) (fun _ _ S' h' P' k c39 => ?_)
  · subst hZ
    have el : ∀ i, (i ≠ 5 ∧ (i < 32 ∨ 35 < i) ∧ (i < 39 ∨ 41 < i) ∧ i ≠ 8 ∧ i ≠ 48) → S' i = S i := fun i hi => k i (fun z => by unfold kr at z; omega) (fun z => by unfold kp5 at z; omega) (by omega) (by omega)
    have hf : ∀ i, fxk i → S' i = S i := fun i hi => el i (by unfold fxk at hi; omega)
    have eC : EC S' = EC S := EC_of (fx_kl hf)
    have mr : ∀ j, ((mres (EC S) (mvf S) p (S 32) cr).2.1 j ≠ -1 → 0 ≤ (mres (EC S) (mvf S) p (S 32) cr).2.1 j ∧ (mres (EC S) (mvf S) p (S 32) cr).2.1 j ≤ (mres (EC S) (mvf S) p (S 32) cr).2.2.2 ∧ (mres (EC S) (mvf S) p (S 32) cr).1 j ≠ -1 ∧ EC S 7 j = 1) ∧ 0 ≤ (mres (EC S) (mvf S) p (S 32) cr).2.2.1 ∧ (mres (EC S) (mvf S) p (S 32) cr).2.2.1 ≤ (mres (EC S) (mvf S) p (S 32) cr).2.2.2 := fun j => by
      have mv7 : ∀ i, mvf S i = true → (i < 6 ∧ EC S 7 i = 1) ∧ S 32 i ≠ -1 := fun i hi => by
        unfold mvf at hi
        rw [Bool.and_eq_true, decide_eq_true_eq] at hi
        have := s63 i hi.1
        exact ⟨⟨by omega, this.2⟩, hi.2⟩
      refine MVJ_run 16 _ _ _ 0 0 (Int.le_refl _) (Int.le_refl _) ⟨fun i hi => ?_, fun z => ?_⟩
      · rw [Bool.and_eq_true] at hi
        have m := mv7 i hi.1
        exact ⟨m.1.2, (fp.2 i (by omega) (by omega) hi.1).1.1⟩
      · by_cases w : (mvf S j && decide (S 32 j = p j)) = true
        · show 0 ≤ (if (mvf S j && decide (S 32 j = p j)) = true then (0 : Int) else -1) ∧ (if (mvf S j && decide (S 32 j = p j)) = true then (0 : Int) else -1) ≤ 0 ∧ S 32 j ≠ -1 ∧ EC S 7 j = 1 ∧ (mvf S j && !(decide (S 32 j = p j))) = false
          rw [if_pos w]
          have w2 := w
          rw [Bool.and_eq_true] at w2
          have m := mv7 j w2.1
          refine ⟨by decide, by decide, m.2, m.1.2, ?_⟩
          rw [w2.2]
          simp
        · have z : (if (mvf S j && decide (S 32 j = p j)) = true then (0 : Int) else -1) ≠ -1 := z
          rw [if_neg w] at z
          exact absurd rfl z
    have I2 := I
    obtain ⟨i1, i2, i3, i4, i5, i6, i7, i8⟩ := I2
    have I' : VI G S' c := by
      refine ⟨fx_of hf i1, ⟨R.1, fun y => ?_, fun j h1 h2 => ?_⟩, br_of (el 3 (by decide)) (el 36 (by decide)) (el 37 (by decide)) (el 38 (by decide)) i3, se_of hf (el 6 (by decide)) (el 42 (by decide)) (el 43 (by decide)) i4, fb_of (el 7 (by decide)) (el 44 (by decide)) (el 45 (by decide)) (el 46 (by decide)) i5, ⟨Or.inr e81, fun j hj => ?_⟩, c39, by rw [el 49 (by decide)]; exact i8⟩
      · rw [e81] at y
        exact absurd y (by decide)
      · rw [eC] at h1
        rw [e32]
        have o := mrun_out (E := EC S) (pl := p) (cr := cr) h1 16 (fun j => mvf S j && !(decide (S 32 j = p j))) (S 32) (fun j => if (mvf S j && decide (S 32 j = p j)) = true then 0 else -1) 0 0
        exact o.trans (i2.2.2 j h1 h2)
      · rw [e48 j hj]
        have m := (mr j).1
        by_cases y : (mres (EC S) (mvf S) p (S 32) cr).2.1 j = -1
        · rw [y]; decide
        · have := m y; omega
    refine q1 _ S' h' P' I' (by rw [el 3 (by decide)]) zr (by rw [e82]; exact (mr 0).2) (fun j hj y => ?_)
    rw [e48 j (by omega)] at y ⊢
    rw [e32]
    have m := (mr j).1 y
    exact ⟨m.1, m.2.1, m.2.2.1, (vi_p1 I hj).mp m.2.2.2⟩
  · have v := vi_kp5 I k c39
    exact xD_uo (q2 S' h' P' v.1 (by rw [k 3 (fun z => by unfold kp5 at z; omega)]))
theorem Pic.moved (P : Pic G A B S h) (I : VI G S c) (hc : c ≤ 511) (hL : GsL G ≤ 260) {i : Nat} (hi : i ≤ 1000) {x y : Int32} (hx : x = ii (i : Int)) (hy : y = ii (S 3 1)) {bc bs : Nat} (hbc : 100 ≤ bc) (hbs : 700 ≤ bs) (q : ∀ S' h', Pic G A B S' h' → VI G S' c → S' 3 1 = S 3 1 → post 1 h') : wp_L_isMoved G (A 0) (Gsb G) x y h bc bs post := by
  subst hx hy
  refine pick_of (i := i) (m := 4) hL (by omega) ⟨by decide, by decide⟩ rfl il_4 (fun a0 a1 => ?_)
  refine ⟨by omega, by omega, ?_⟩
  refine P.d14 I hc (cr := 1 + pk G i 4) ⟨by omega, by omega⟩ (by rw [il_1, ii_add]) (fun v S1 h1 P1 I1 g3 rv rd gm => ?_) (fun S1 h1 P1 I1 g3 => ?_)
  · intro J35 h35
    intro J30 h30
    have g : J30 := by
      refine h30 (h35 1 ?_)
      intro J40 h40
      have m1 : ∀ k : Nat, k ≤ 6 → ∀ uc us : Nat, uc ≤ 5 + 10 * k → us ≤ 34 + 68 * k → J40 1 (ii (k : Int)) h1 uc us := by
        intro k hk
        refine lp_up (J := fun k : Nat => ∀ uc us : Nat, uc ≤ 5 + 10 * k → us ≤ 34 + 68 * k → J40 1 (ii (k : Int)) h1 uc us) (n := 6) ?_ ?_ hk
        · intro uc us hu hs
          refine h40 _ _ _ _ _ ?_
          intro J123 h123
          have g : J123 := by
            refine h123 ?_
            intro J146 _
            refine ⟨fun z => absurd z (by decide), fun _ => ?_⟩
            intro J142 h142
            have g1 : J142 := h142 ⟨by omega, by omega, q S1 h1 P1 I1 g3⟩
            refine ⟨fun _ => g1, fun _ => ⟨P1.o (k := 0) rfl, P1.c_dark ?_⟩⟩
            rw [iilt (a := v) (b := S1 8 2) rfl rfl ⟨by omega, by omega⟩ ⟨by omega, by omega⟩]
            exact ⟨fun z => absurd z (by omega), fun _ => g1⟩
          exact ⟨fun _ => g, fun z => absurd (by decide) z⟩
        · intro k hk ih uc us hu hs
          refine h40 _ _ _ _ _ ?_
          intro J123 _
          rw [lei (m := 6) (by decide) (by decide) (by omega), ii_inc' k, iilt (a := v) (b := 0) rfl il_0 ⟨by omega, by omega⟩ ⟨by omega, by omega⟩]
          refine ⟨fun z => absurd z (by omega), fun _ => ⟨fun z => absurd z (by decide), fun _ => ⟨fun z => absurd z (by omega), fun _ => ⟨by omega, by omega, ?_⟩⟩⟩⟩
          refine P1.a32 I1 hk rfl (fun u ru ua ub => ?_)
          intro J115 h115 J110 h110
          have g4 : ∀ uc us, uc ≤ 5 + 10 * (k + 1) → us ≤ 34 + 68 * (k + 1) → J110 h1 uc us := fun uc us hu hs => h110 _ _ _ (h115 _ _ _ _ (ih uc us hu hs))
          rw [iieq (a := u) im5 ru ⟨by decide, by decide⟩]
          refine ⟨fun _ => g4 _ _ (by omega) (by omega), fun y => ?_⟩
          have y1 : S1 48 k ≠ -1 := fun z => y (ua z)
          obtain ⟨y2, y3⟩ := ub y1
          obtain ⟨m1, m2, m3, m4⟩ := gm k hk y1
          intro J114 _
          rw [iilt (a := u) (b := 0) rfl il_0 ru ⟨by omega, by omega⟩, iilt (a := v) (b := u) rfl rfl ⟨by omega, by omega⟩ ru]
          refine ⟨fun z => absurd z (by omega), fun _ => ⟨fun z => absurd z (by omega), fun _ => ⟨by omega, by omega, ?_⟩⟩⟩
          refine P1.k25 I1 hc hk rfl (by rw [g3]) ?_
          have r32 := vi_32 I1 k
          rw [iieq (a := S1 32 k) il_m1 ⟨by omega, by omega⟩ ⟨by decide, by decide⟩]
          refine ⟨fun z => absurd z m3, fun _ => ?_⟩
          refine isProt_of hL (by omega) rfl ?_
          rw [m4]
          exact ⟨fun z => absurd z (by decide), fun _ => g4 _ _ (by omega) (by omega)⟩
      exact m1 0 (by decide) _ _ (by omega) (by omega)
    rw [iile (a := 0) (b := v) il_0 rfl ⟨by omega, by omega⟩ ⟨by omega, by omega⟩]
    exact ⟨fun _ => g, fun z => absurd rv.1 z⟩
  · intro J35 h35
    intro J30 h30
    have g : J30 := by
      refine h30 (h35 1 ?_)
      intro J40 h40
      refine h40 _ _ _ _ _ ?_
      intro J123 h123
      have g : J123 := by
        refine h123 ?_
        intro J146 _
        refine ⟨fun z => absurd z (by decide), fun _ => ?_⟩
        intro J142 h142
        have g1 : J142 := h142 ⟨by omega, by omega, q S1 h1 P1 I1 g3⟩
        exact ⟨fun _ => g1, fun z => absurd (by decide) z⟩
      exact ⟨fun _ => g, fun _ => ⟨fun _ => g, fun _ => ⟨fun _ => g, fun z => absurd (by decide) z⟩⟩⟩
    exact ⟨fun _ => g, fun _ => ⟨fun z => absurd rfl z, fun _ => g⟩⟩
end MOV
