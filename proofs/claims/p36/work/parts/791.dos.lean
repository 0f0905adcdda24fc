/-! what the law does, and what stands then -/
theorem cnt_z {f : Nat → Bool} {n : Nat} (h : ∀ i, i < n → f i = false) : cnt f n = 0 := by
  induction n with
  | zero => rfl
  | succ n ih =>
    show cnt f n + bI (f n) = 0
    rw [ih (fun i hi => h i (by omega)), h n (by omega)]
    rfl
theorem tog_mono {a b x : Int} (h : a ≤ b) : tog a x ≤ tog b x := by unfold tog mx ab; split <;> split <;> split <;> split <;> split <;> split <;> omega
theorem tog_ge (b x : Int) : b ≤ tog b x ∧ x ≤ tog b x := by unfold tog mx ab; split <;> split <;> split <;> omega
/-- who goes off harms nobody any more -/
theorem hs_offs {E : Nat → Nat → Int} {i : Nat} {ch ch' : Nat → Int} (hi : ch' i = ch i) {n : Nat} (h : ∀ j, j < n → ch' j = ch j ∨ ch' j = -1) : ∀ a, hs E i ch' n = some a → ∃ b, hs E i ch n = some b ∧ a ≤ b := by
  induction n with
  | zero => intro a ha; cases ha
  | succ n ih =>
    have ih := ih (fun j hj => h j (by omega))
    intro a ha
    unfold hs at ha ⊢
    by_cases y : nrm ch' i n = true
    · have e : ch' n = ch n := by
        rcases h n (by omega) with z | z
        · exact z
        · unfold nrm at y; rw [decide_eq_true_eq] at y; exact absurd z y.2.1
      have y2 : nrm ch i n = true := by rw [← y]; unfold nrm; rw [e, hi]
      rw [if_pos y] at ha
      rw [if_pos y2]
      rw [e, hi] at ha
      cases e1 : hs E i ch' n with
      | none =>
        rw [e1] at ha
        have ha : some (hmE E n i (ab (ch n - ch i))) = some a := ha
        cases ha
        cases e2 : hs E i ch n with
        | none => exact ⟨_, rfl, Int.le_refl _⟩
        | some b => exact ⟨_, rfl, (tog_ge b _).2⟩
      | some w =>
        rw [e1] at ha
        have ha : some (tog w (hmE E n i (ab (ch n - ch i)))) = some a := ha
        cases ha
        obtain ⟨b, hb, hle⟩ := ih w e1
        rw [hb]
        exact ⟨_, rfl, tog_mono hle⟩
    · rw [if_neg y] at ha
      obtain ⟨b, hb, hle⟩ := ih a ha
      by_cases y2 : nrm ch i n = true
      · rw [if_pos y2, hb]
        exact ⟨_, rfl, Int.le_trans hle (tog_ge b _).1⟩
      · rw [if_neg y2]; exact ⟨b, hb, hle⟩
theorem alk_offs {E : Nat → Nat → Int} {ch ch' : Nat → Int} (h : ∀ j, j < nt E → ch' j = ch j ∨ ch' j = -1) (q : alk E ch) : alk E ch' := fun i hi h7 hc => by
  have e : ch' i = ch i := (h i hi).resolve_right hc
  have k := q i hi h7 (by rw [← e]; exact hc)
  unfold kp at k ⊢
  cases e1 : hs E i ch' (nt E) with
  | none => rfl
  | some a =>
    obtain ⟨b, hb, hle⟩ := hs_offs e h a e1
    rw [hb] at k
    have k : decide (E 8 0 ≤ lvE E i - b) = true := k
    show decide (E 8 0 ≤ lvE E i - a) = true
    rw [decide_eq_true_eq] at k ⊢
    omega
/-- a single one harms no more than all -/
theorem hs_one {E : Nat → Nat → Int} {s o : Nat} {ch : Nat → Int} {n : Nat} (ho : o < n) (hn : nrm ch s o = true) : ∃ a, hs E s ch n = some a ∧ hmE E o s (ab (ch o - ch s)) ≤ a := by
  induction n with
  | zero => omega
  | succ n ih =>
    unfold hs
    by_cases y : o = n
    · subst y
      rw [if_pos hn]
      cases e1 : hs E s ch o with
      | none => exact ⟨_, rfl, Int.le_refl _⟩
      | some b => exact ⟨_, rfl, (tog_ge b _).2⟩
    · obtain ⟨a, ha, hle⟩ := ih (by omega)
      by_cases y2 : nrm ch s n = true
      · rw [if_pos y2, ha]
        exact ⟨_, rfl, Int.le_trans hle (tog_ge a _).1⟩
      · rw [if_neg y2]
        exact ⟨a, ha, hle⟩
/-- where all keep their level, no two that are on bar each other -/
theorem alk_br {E : Nat → Nat → Int} {ch : Nat → Int} (q : alk E ch) {a b : Nat} (ha : a < nt E) (hb : b < nt E) (hab : a ≠ b) (ca : ch a ≠ -1) (cb : ch b ≠ -1) : br2 E a (ch a) b (ch b) = false := by
  have one : ∀ s o : Nat, s < nt E → o < nt E → o ≠ s → ch s ≠ -1 → ch o ≠ -1 → ab (ch o - ch s) < 3 → sf1 E s o (ab (ch o - ch s)) = false := by
    intro s o hs1 ho1 hne cs co h3
    unfold sf1
    by_cases e : E 7 s = 1
    · have k := q s hs1 e cs
      obtain ⟨a, h1, h2⟩ := hs_one (E := E) (s := s) (o := o) (ch := ch) ho1 (by unfold nrm; exact decide_eq_true ⟨hne, co, h3⟩)
      unfold kp at k
      rw [h1] at k
      have k : decide (E 8 0 ≤ lvE E s - a) = true := k
      rw [decide_eq_true_eq] at k
      rw [decide_eq_false (p := lvE E s - hmE E o s (ab (ch o - ch s)) < E 8 0) (by omega), Bool.and_false]
    · rw [decide_eq_false e, Bool.false_and]
  unfold br2 brA
  by_cases h3 : ab (ch a - ch b) < 3
  · have h3' : ab (ch b - ch a) < 3 := by rw [ab_sym]; exact h3
    have x1 := one a b ha hb (Ne.symm hab) ca cb h3'
    have x2 := one b a hb ha hab cb ca h3
    rw [ab_sym] at x1
    rw [x1, x2, Bool.or_false, Bool.and_false]
  · rw [decide_eq_false h3, Bool.false_and]
section DOS
variable {G : Gx} {A : Nat → Nat} {B : Nat → Nat → Nat} {S : Nat → Nat → Int} {h : hw} {c : Nat} {post : Int32 → hw → Prop}
/-- behind a change of who is on -/
theorem vi_rg (I : VI G S c) {S' : Nat → Nat → Int} (R : RC S S' c) (k : ∀ k, ¬ kr k → k ≠ 49 → S' k = S k) (c49 : chs (S' 49)) (al : S 8 1 = 0 → alk (EC S) (S' 32)) (off : ∀ j, 6 ≤ j → j < 8 → S' 32 j = -1) : VI G S' c := by
  have el : ∀ i, (i < 32 ∨ 35 < i) ∧ i ≠ 49 → S' i = S i := fun i hi => k i (fun z => by unfold kr at z; omega) hi.2
  have hf : ∀ i, fxk i → S' i = S i := fun i hi => el i (by unfold fxk at hi; omega)
  have eC : EC S' = EC S := EC_of (fx_kl hf)
  have n6 := vi_nt I
  obtain ⟨i1, i2, i3, i4, i5, i6, i7, i8⟩ := I
  refine ⟨fx_of hf i1, ⟨R.1, ?_, ?_⟩, br_of (el 3 (by decide)) (el 36 (by decide)) (el 37 (by decide)) (el 38 (by decide)) i3, se_of hf (el 6 (by decide)) (el 42 (by decide)) (el 43 (by decide)) i4, fb_of (el 7 (by decide)) (el 44 (by decide)) (el 45 (by decide)) (el 46 (by decide)) i5, mv_of (el 8 (by decide)) (el 48 (by decide)) i6, by rw [el 39 (by decide)]; exact i7, c49⟩
  · rw [el 8 (by decide), eC]; exact al
  · rw [eC, n6]; exact off
theorem vi_bo (I : VI G S c) {S' : Nat → Nat → Int} (k : ∀ k, k ≠ 37 → k ≠ 38 → S' k = S k) (b : BR S') : VI G S' c := by
  have hf : ∀ i, fxk i → S' i = S i := fun i hi => k i (by unfold fxk at hi; omega) (by unfold fxk at hi; omega)
  have hg : ∀ i, kg i → S' i = S i := fun i hi => k i (by unfold kg at hi; omega) (by unfold kg at hi; omega)
  obtain ⟨i1, i2, -, i4, i5, i6, i7, i8⟩ := I
  exact ⟨fx_of hf i1, rx_of hf hg (k 8 (by decide) (by decide)) i2, b, se_of hf (k 6 (by decide) (by decide)) (k 42 (by decide) (by decide)) (k 43 (by decide) (by decide)) i4, fb_of (k 7 (by decide) (by decide)) (k 44 (by decide) (by decide)) (k 45 (by decide) (by decide)) (k 46 (by decide) (by decide)) i5, mv_of (k 8 (by decide) (by decide)) (k 48 (by decide) (by decide)) i6, by rw [k 39 (by decide) (by decide)]; exact i7, by rw [k 49 (by decide) (by decide)]; exact i8⟩
theorem vi_go (I : VI G S c) (hc : c ≤ 500) {S' : Nat → Nat → Int} {d : Int} (hd : 1 ≤ d ∧ d ≤ 99) (k : ∀ k, k ≠ 3 → S' k = S k) (h31 : S' 3 1 = S 3 1 + d) : VI G S' (c + 2) := by
  have hf : ∀ i, fxk i → S' i = S i := fun i hi => k i (by unfold fxk at hi; omega)
  have eC : EC S' = EC S := EC_of (fx_kl hf)
  have eL : ∀ s e, LC S' s e = LC S s e := fun s e => by unfold LC; rw [k 33 (by decide), k 34 (by decide), k 35 (by decide)]
  have dy := vi_day I (by omega)
  obtain ⟨i1, ⟨⟨r1, r2, r3, r4, r5, r6, r7⟩, ra, rb⟩, ⟨b1, b2, b3, b4⟩, i4, i5, i6, i7, i8⟩ := I
  refine ⟨fx_of hf i1, ⟨⟨fun s hs => ?_, fun i => ?_, ?_, ?_, fun s hs e he => ?_, by omega, ?_⟩, ?_, ?_⟩, ⟨?_, fun i hi => ?_, ?_, ?_⟩, se_of hf (k 6 (by decide)) (k 42 (by decide)) (k 43 (by decide)) i4, fb_of (k 7 (by decide)) (k 44 (by decide)) (k 45 (by decide)) (k 46 (by decide)) i5, mv_of (k 8 (by decide)) (k 48 (by decide)) i6, by rw [k 39 (by decide)]; exact i7, by rw [k 49 (by decide)]; exact i8⟩
  · have := r1 s hs
    rw [k 33 (by decide)]
    exact ⟨this.1, by omega, fun _ _ => by omega⟩
  · have := r2 i
    rw [k 34 (by decide), h31]; omega
  · rw [k 35 (by decide)]; exact r3
  · rw [k 32 (by decide)]; exact r4
  · rw [eL, k 32 (by decide)]; exact r5 s hs e (by omega)
  · rw [k 32 (by decide)]; exact r7
  · rw [k 8 (by decide), eC, k 32 (by decide)]; exact ra
  · rw [eC, k 32 (by decide)]; exact rb
  · rw [k 36 (by decide)]; exact b1
  · have := b2 i hi
    rw [k 37 (by decide), h31]; omega
  · rw [k 38 (by decide)]; exact b3
  · rw [h31]; omega
theorem vi_nx (I : VI G S c) : VI G S (c + 2) := by
  obtain ⟨i1, ⟨⟨r1, r2, r3, r4, r5, r6, r7⟩, ra, rb⟩, i3⟩ := I
  refine ⟨i1, ⟨⟨fun s hs => ?_, r2, r3, r4, r5, by omega, r7⟩, ra, rb⟩, i3⟩
  have := r1 s hs
  exact ⟨this.1, by omega, fun _ _ => by omega⟩
theorem Pic.d4 (P : Pic G A B S h) (I : VI G S c) (hc : c ≤ 511) {j u : Nat} (hj : j < 6) (hu : u < 8) {x y : Int32} (hx : x = ii (j : Int)) (hy : y = ii (u : Int)) (q1 : ∀ (v : Int) S' h', Pic G A B S' h' → VI G S' c → S' 3 1 = S 3 1 → S' 8 = S 8 → S' 32 j = u → (0 ≤ v ∧ v ≤ 8) → (v = 0 ∨ prt G j = true) → post (ii v) h') (q2 : ∀ (v : Int32) S' h', v = -20004 ∨ v = -20003 → Pic G A B S' h' → VI G S' c → S' 3 1 = S 3 1 → S' 8 = S 8 → S' 32 = S 32 → post v h') : wp_L_ask G (A 0) 4 x y h post := by
  subst hx hy
  have n6 := vi_nt I
  refine deed_4 (P.o (k := 0) rfl) ?_
  refine P.c_putOn (vi_ki I) (vi_br I) hc (vi_ri I) (vi_49 I) (rg_n (by omega)) (rg_n (by omega)) (fun _ _ _ al S' h' P' R c49 k e32 => ?_) (fun z => absurd (vi_st I hj) z) (fun _ z => absurd ⟨by omega, by omega⟩ z) (fun _ _ _ _ _ => xD_is (q2 _ S h (Or.inr rfl) P I rfl rfl rfl)) (fun _ _ _ _ S' h' P' c49 k => xD_uo (q2 _ S' h' (Or.inl rfl) P' (vi_scr I (fun i hi => k i (fun z => hi (by unfold scr; omega))) (by rw [k 39 (by decide)]; exact vi_39 I) c49) (by rw [k 3 (by decide)]) (k 8 (by decide)) (k 32 (by decide))))
  have kk : ∀ i, (i < 32 ∨ 35 < i) ∧ i ≠ 49 → S' i = S i := fun i hi => k i (fun z => by unfold kr at z; omega) hi.2
  have ct := cnt_in (pnx (EC S) (j : Int).toNat u (S 32)) (nt (EC S))
  rw [n6] at ct
  refine q1 _ S' h' P' (vi_rg I R k c49 (fun _ => alk_of (fun i hi => ?_) al) (fun i h1 h2 => ?_)) (by rw [kk 3 (by decide)]) (kk 8 (by decide)) ?_ (by rw [n6]; exact ⟨ct.1, by have := ct.2; omega⟩) ?_
  · rw [e32 i, if_pos hi]
  · rw [e32 i, if_neg (by omega)]
    exact vi_of I i (by omega) h2
  · rw [e32 j, if_pos (by omega)]
    exact if_pos rfl
  · by_cases y : prt G j = true
    · exact Or.inr y
    · refine Or.inl (cnt_z (fun i _ => ?_))
      show (decide (EC S 7 j = 1) && sil (EC S) j u (S 32) i) = false
      rw [decide_eq_false (fun z => y ((vi_p1 I hj).mp z)), Bool.false_and]
theorem Pic.d5 (P : Pic G A B S h) (I : VI G S c) (hc : c ≤ 511) {j : Nat} (hj : j < 6) {x y : Int32} (hx : x = ii (j : Int)) (q : ∀ S' h', Pic G A B S' h' → VI G S' c → S' 3 1 = S 3 1 → S' 8 = S 8 → S' 32 j = -1 → post (ii (S 32 j)) h') : wp_L_ask G (A 0) 5 x y h post := by
  subst hx
  refine deed_5 (P.o (k := 0) rfl) ?_
  refine P.c_putOff (vi_ki I) hc (vi_ri I) (rg_n (by omega)) (fun _ S' h' P' R k e32 => ?_) (fun z => absurd (vi_st I hj) z)
  have e32 : S' 32 = up (S 32) j (-1) := e32
  have kk : ∀ i, (i < 32 ∨ 35 < i) → S' i = S i := fun i hi => k i (fun z => by unfold kr at z; omega)
  refine q S' h' P' (vi_rg I R (fun i hi _ => k i hi) (by rw [kk 49 (by decide)]; exact vi_49 I) (fun z => alk_offs (fun i _ => ?_) (vi_al I z)) (fun i h1 h2 => ?_)) (by rw [kk 3 (by decide)]) (kk 8 (by decide)) (by rw [e32, up_at])
  · rw [e32]
    by_cases w : i = j
    · subst w; rw [up_at]; exact Or.inr rfl
    · rw [up_ne w]; exact Or.inl rfl
  · rw [e32, up_ne (by omega)]
    exact vi_of I i (by rw [vi_nt I]; exact h1) h2
theorem Pic.d7 (P : Pic G A B S h) (I : VI G S c) (hc : c ≤ 511) {j u : Nat} (hj : j < 6) (hu : u < 8) {x y : Int32} (hx : x = ii (j : Int)) (hy : y = ii (u : Int)) (q : ∀ S' h', Pic G A B S' h' → VI G S' c → S' 3 1 = S 3 1 → S' 8 = S 8 → S' 37 (j * 8 + u) = S 3 1 → post (ii (S 3 1 + 3)) h') : wp_L_ask G (A 0) 7 x y h post := by
  subst hx hy
  have dy := vi_day I hc
  have b := vi_br I
  refine deed_7 (P.o (k := 0) rfl) ?_
  refine P.c_ask (vi_ki I) (rg_n (by omega)) (rg_n (by omega)) (fun _ _ h' P' => ?_) (fun z => absurd (vi_st I hj) z) (fun _ z => absurd ⟨by omega, by omega⟩ z)
  obtain ⟨S', hS'⟩ : ∃ S', S' = su (su S 37 (j * 8 + u) (S 3 1)) 38 (j * 8 + u) 0 := ⟨_, rfl⟩
  have P' : Pic G A B S' h' := by rw [hS']; exact P'
  have k : ∀ i, i ≠ 37 → i ≠ 38 → S' i = S i := fun i a1 a2 => by rw [hS', su_row _ _ a2, su_row _ _ a1]
  have k37 : S' 37 = up (S 37) (j * 8 + u) (S 3 1) := by rw [hS', su_row _ _ (by decide), su_up]
  have k38 : S' 38 = up (S 38) (j * 8 + u) 0 := by rw [hS', su_up, su_row _ _ (by decide)]
  refine q S' h' P' (vi_bo I k ⟨?_, fun i hi => ?_, fun i hi => ?_, ?_⟩) (by rw [k 3 (by decide) (by decide)]) (k 8 (by decide) (by decide)) (by rw [k37, up_at])
  · rw [k 36 (by decide) (by decide)]; exact b.1
  · rw [k37, k 3 (by decide) (by decide)]
    by_cases w : i = j * 8 + u
    · subst w; rw [up_at]; omega
    · rw [up_ne w]; exact b.2.1 i hi
  · rw [k38]
    by_cases w : i = j * 8 + u
    · subst w; rw [up_at]; exact Or.inl rfl
    · rw [up_ne w]; exact b.2.2.1 i hi
  · rw [k 3 (by decide) (by decide)]; exact b.2.2.2
theorem Pic.d8 (P : Pic G A B S h) (I : VI G S c) (hc : c ≤ 511) {j u : Nat} (hj : j < 6) (hu : u < 8) (h37 : S 37 (j * 8 + u) = S 3 1) {x y : Int32} (hx : x = ii (j : Int)) (hy : y = ii (u : Int)) (q : ∀ S' h', Pic G A B S' h' → VI G S' c → S' 3 1 = S 3 1 → S' 8 = S 8 → post 1 h') : wp_L_ask G (A 0) 8 x y h post := by
  subst hx hy
  have dy := vi_day I hc
  have b := vi_br I
  refine deed_8 (P.o (k := 0) rfl) ?_
  refine P.c_object (vi_ki I) b (rg_n (by omega)) (rg_n (by omega)) (fun _ _ _ _ h' P' => ?_) (fun _ _ _ z => ?_) (fun z => absurd (vi_st I hj) z) (fun _ z => absurd ⟨by omega, by omega⟩ z) (fun _ _ z => ?_)
  · obtain ⟨S', hS'⟩ : ∃ S', S' = su S 38 (j * 8 + u) 1 := ⟨_, rfl⟩
    have P' : Pic G A B S' h' := by rw [hS']; exact P'
    have k : ∀ i, i ≠ 37 → i ≠ 38 → S' i = S i := fun i a1 a2 => by rw [hS', su_row _ _ a2]
    have k37 : S' 37 = S 37 := by rw [hS', su_row _ _ (by decide)]
    have k38 : S' 38 = up (S 38) (j * 8 + u) 1 := by rw [hS', su_up]
    refine told_of (b := true) rfl (q S' h' P' (vi_bo I k ⟨?_, fun i hi => ?_, fun i hi => ?_, ?_⟩) (by rw [k 3 (by decide) (by decide)]) (k 8 (by decide) (by decide)))
    · rw [k 36 (by decide) (by decide)]; exact b.1
    · rw [k37, k 3 (by decide) (by decide)]; exact b.2.1 i hi
    · rw [k38]
      by_cases w : i = j * 8 + u
      · subst w; rw [up_at]; exact Or.inr rfl
      · rw [up_ne w]; exact b.2.2.1 i hi
    · rw [k 3 (by decide) (by decide)]; exact b.2.2.2
  · have z : ¬ S 3 1 < S 37 (j * 8 + u) + 3 := z
    omega
  · have z : S 37 (j * 8 + u) = -1 := z
    omega
theorem Pic.d9 (P : Pic G A B S h) (I : VI G S c) (hc : c ≤ 500) {d : Int} (hd : 1 ≤ d ∧ d ≤ 99) {x y : Int32} (hx : x = ii d) (q : ∀ S' h', Pic G A B S' h' → VI G S' (c + 2) → S' 3 1 = S 3 1 + d → S' 8 = S 8 → S' 32 = S 32 → (∀ s e, LC S' s e = LC S s e) → post (ii (S 3 1 + d)) h') : wp_L_ask G (A 0) 9 x y h post := by
  subst hx
  refine deed_9 (P.o (k := 0) rfl) ?_
  refine P.c_goOn ⟨by omega, by omega⟩ (fun _ h' P' => ?_) (fun z => absurd hd z)
  obtain ⟨S', hS'⟩ : ∃ S', S' = su S 3 1 (S 3 1 + d) := ⟨_, rfl⟩
  rw [← hS'] at P'
  have k : ∀ i, i ≠ 3 → S' i = S i := fun i a1 => by rw [hS', su_row _ _ a1]
  have e : S' 3 1 = S 3 1 + d := by rw [hS', su_at]
  exact q S' h' P' (vi_go I hc hd k e) e (k 8 (by decide)) (k 32 (by decide)) (fun s e => by unfold LC; rw [k 33 (by decide), k 34 (by decide), k 35 (by decide)])
theorem Pic.d10 (P : Pic G A B S h) (I : VI G S c) {j : Nat} (hj : j < 6) {x y : Int32} (hx : x = ii (j : Int)) (hy : y = ii (pk G (170 + j) 60)) (q : ∀ h', Pic G A B S h' → post (ii (pk G (170 + j) 60)) h') : wp_L_ask G (A 0) 10 x y h post := by
  subst hx hy
  have pp := pkk_in G (170 + j) (m := 60) (by decide)
  have ea := vi_aj I j hj
  refine deed_10 (P.o (k := 0) rfl) ?_
  refine P.c_setAsked (vi_ki I) (rg_n (by omega)) ⟨by omega, by omega⟩ (fun _ _ h' P' => ?_) (fun z => absurd (vi_st I hj) z) (fun _ z => absurd ⟨by omega, by omega⟩ z)
  have P' : Pic G A B (su S (70 + j) 5 (pk G (170 + j) 60)) h' := P'
  rw [su_self ea] at P'
  show post (ii (S (70 + j) 5)) h'
  rw [ea]
  exact q h' P'
end DOS
