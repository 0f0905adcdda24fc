/-! the start: the walk -/
def iniv (k : Nat) : Int := cond (Nat.beq k 32 || Nat.beq k 35 || Nat.beq k 37 || Nat.beq k 39 || Nat.beq k 42 || Nat.beq k 48 || Nat.beq k 49) (-1) 0
def S0i (k i : Nat) : Int := cond (Nat.ble 30 k && Nat.blt k 50) (if i < rl (k - 20) then iniv k else 0) (cond (Nat.beq k 113 || Nat.beq k 122 || Nat.beq k 129) (if i < 8 then -1 else 0) (cond (Nat.beq k 117) (if i < 64 then -1 else 0) (cond (Nat.beq k 1 || Nat.beq k 80) (cond (Nat.beq i 2) 170 0) 0)))
def AllN (P : Nat → Prop) : Nat → Prop
  | 0 => True
  | n + 1 => AllN P n ∧ P n
theorem AllN_lt {P : Nat → Prop} {n : Nat} (h : AllN P n) {k : Nat} (hk : k < n) : P k := by
  induction n with
  | zero => omega
  | succ n ih =>
    by_cases y : k = n
    · rw [y]; exact h.2
    · exact ih h.1 (by omega)
section IN2
variable {G : Gx} {A : Nat → Nat} {B : Nat → Nat → Nat} {T : Nat → Option va_E} {h : hw}
theorem IP.pic (P : IP A T h) (e : ∀ k, k < 136 → T k = ctn G A B S0i k) : Pic G A B S0i h := by
  have e81 : S0i 81 2 = 0 := rfl
  have f : ∀ k x, ctn G A B S0i k = some x → T k = some x := fun k x hx => by
    by_cases y : k < 136
    · rw [e k y]; exact hx
    · exfalso
      unfold ctn at hx
      rw [if_neg (by omega), if_neg (by omega), if_neg (by omega), if_neg (by omega), if_neg (by omega), if_neg (by omega), if_neg (by omega), if_neg (by omega), if_neg (by omega), if_neg (by omega), if_neg (by omega), if_neg (by omega), if_neg (by omega), if_neg (by omega), if_neg (by omega), if_neg (by omega), if_neg (by omega)] at hx
      rw [e81] at hx
      by_cases a : k < 170
      · rw [if_pos a] at hx; cases hx
      · rw [if_neg a, if_neg (show ¬ (k : Int) < 170 + 0 by omega)] at hx
        by_cases b : k < 180
        · rw [if_pos b] at hx; cases hx
        · rw [if_neg b] at hx
          by_cases c : k < 190
          · rw [if_pos c, if_neg (by omega)] at hx; cases hx
          · rw [if_neg c] at hx; cases hx
  exact ⟨fun k x hx => P.1 k x (f k x hx), fun k k' x x' hx hx' hA => P.2 k k' x x' (f k x hx) (f k' x' hx') hA, fun j i hj => by rw [e81] at hj; omega⟩
theorem IP.pic2 (P : IP A T h) (e : AllN (fun k => T k = ctn G A B S0i k) 136) : Pic G A B S0i h := P.pic (fun k hk => AllN_lt e hk)
end IN2
theorem IP.wFl {A : Nat → Nat} {T : Nat → Option va_E} {h : hw} (P : IP A T h) (k : Nat) {ci j : Nat} (fs fs' : List Value) {v : Value} {K : hw → Prop} (hk : T k = some (.inr (ci, fs))) (he : fs.set j v = fs') (hj : j < fs.length) (q : ∀ h', IP A (upT T k (.inr (ci, fs'))) h' → K h') : wrF h (A k) ci j v K := ⟨fs, P.1 k _ hk, hj, by rw [he]; exact q _ (P.put hk)⟩
section IN3
variable {G : Gx} {A : Nat → Nat} {T : Nat → Option va_E} {h : hw}
theorem IP.fin12 (P : IP A T h) {fs : List Value} (e80 : T 80 = some (.inr (12, fs))) (f17 : fs[17]? = some (.ref (A 117))) (f22 : fs[22]? = some (.ref (A 122))) (f29 : fs[29]? = some (.ref (A 129))) (f13 : fs[13]? = some (.ref (A 113))) (e117 : T 117 = some (.inl (G.2.2.1.1, 64, .inl (fun _ => ii 0)))) (e122 : T 122 = some (.inl (G.2.2.1.1, 8, .inl (fun _ => ii 0)))) (e129 : T 129 = some (.inl (G.2.2.1.1, 8, .inl (fun _ => ii 0)))) (e113 : T 113 = some (.inl (G.2.2.1.1, 8, .inl (fun _ => ii 0)))) {post : hw → Prop} (q : ∀ h', IP A (upT (upT (upT (upT T 117 (.inl (G.2.2.1.1, 64, .inl (pf 64 (-1))))) 122 (.inl (G.2.2.1.1, 8, .inl (pf 8 (-1))))) 129 (.inl (G.2.2.1.1, 8, .inl (pf 8 (-1))))) 113 (.inl (G.2.2.1.1, 8, .inl (pf 8 (-1))))) h' → post h') : ∀ J223 : Int32 → hw → Prop, (∀ (x1_81 : Int32) (h82 : hw), (((64 ≤ x1_81 → ∀ J244 : Int32 → hw → Prop, (∀ (x1_83 : Int32) (h84 : hw), (((8 ≤ x1_83 → post h84) ∧ (¬ 8 ≤ x1_83 → rdR h84 (A 80) 12 22 (fun v85 => stI G h84 v85 x1_83 (-1) (fun h86 => rdR h86 (A 80) 12 29 (fun v87 => stI G h86 v87 x1_83 (-1) (fun h88 => rdR h88 (A 80) 12 13 (fun v89 => stI G h88 v89 x1_83 (-1) (fun h90 => J244 (x1_83 + 1) h90))))))))) → J244 x1_83 h84) → J244 0 h82) ∧ (¬ 64 ≤ x1_81 → rdR h82 (A 80) 12 17 (fun v91 => stI G h82 v91 x1_81 (-1) (fun h92 => J223 (x1_81 + 1) h92))))) → J223 x1_81 h82) → J223 0 h := by
  have z0 := pf_0 (v := -1)
  rw [← z0] at e117 e122 e129 e113
  intro J hJ
  obtain ⟨r, hr⟩ : ∃ r : Nat → Nat → va_E, r = fun n m => .inl (G.2.2.1.1, n, .inl (pf m (-1))) := ⟨_, rfl⟩
  have main : ∀ i : Nat, i ≤ 64 → ∀ h', IP A (upT T 117 (.inl (G.2.2.1.1, 64, .inl (pf i (-1))))) h' → J (ii (i : Int)) h' := by
    intro i hi
    refine lp_up (J := fun i : Nat => ∀ h', IP A (upT T 117 (.inl (G.2.2.1.1, 64, .inl (pf i (-1))))) h' → J (ii (i : Int)) h') (n := 64) ?_ ?_ hi
    · intro h1 P1
      apply hJ
      rw [il_64, ii_le ⟨by omega, by omega⟩ ⟨by omega, by omega⟩]
      refine ⟨fun _ => ?_, fun z => absurd (Int.le_refl _) z⟩
      obtain ⟨T1, hT1⟩ : ∃ T1, T1 = upT T 117 (.inl (G.2.2.1.1, 64, .inl (pf 64 (-1)))) := ⟨_, rfl⟩
      rw [← hT1] at P1 q
      have g : ∀ k, k ≠ 117 → T1 k = T k := fun k hk => by rw [hT1, upT_ne hk]
      intro J2 hJ2
      have lp : ∀ i : Nat, i ≤ 8 → ∀ h', IP A (upT (upT (upT T1 122 (.inl (G.2.2.1.1, 8, .inl (pf i (-1))))) 129 (.inl (G.2.2.1.1, 8, .inl (pf i (-1))))) 113 (.inl (G.2.2.1.1, 8, .inl (pf i (-1))))) h' → J2 (ii (i : Int)) h' := by
        intro i hi
        refine lp_up (J := fun i : Nat => ∀ h', IP A (upT (upT (upT T1 122 (.inl (G.2.2.1.1, 8, .inl (pf i (-1))))) 129 (.inl (G.2.2.1.1, 8, .inl (pf i (-1))))) 113 (.inl (G.2.2.1.1, 8, .inl (pf i (-1))))) h' → J2 (ii (i : Int)) h') (n := 8) ?_ ?_ hi
        · intro h2 P2
          apply hJ2
          rw [il_8, ii_le ⟨by omega, by omega⟩ ⟨by omega, by omega⟩]
          exact ⟨fun _ => q h2 P2, fun z => absurd (Int.le_refl _) z⟩
        · intro i hi ih h2 P2
          apply hJ2
          rw [il_8, ii_le ⟨by omega, by omega⟩ ⟨by omega, by omega⟩]
          refine ⟨fun z => absurd z (by omega), fun _ => ?_⟩
          have a2 : (upT (upT (upT T1 122 (.inl (G.2.2.1.1, 8, .inl (pf i (-1))))) 129 (.inl (G.2.2.1.1, 8, .inl (pf i (-1))))) 113 (.inl (G.2.2.1.1, 8, .inl (pf i (-1))))) 80 = some (.inr (12, fs)) := by rw [upT_ne (by decide), upT_ne (by decide), upT_ne (by decide), g 80 (by decide)]; exact e80
          refine rdR_of (P2.1 80 _ a2) f22 ?_
          refine P2.sI (G := G) 122 (n := 8) (i := i) (f := pf i (-1)) (by rw [upT_ne (by decide), upT_ne (by decide), upT_at]) rfl hi (by decide) (fun h3 P3 => ?_)
          rw [il_m1, pf_s, upT_swap (k := 113) (k' := 122) (by decide), upT_swap (k := 129) (k' := 122) (by decide), upT_same] at P3
          refine rdR_of (P3.1 80 (.inr (12, fs)) (by rw [upT_ne (by decide), upT_ne (by decide), upT_ne (by decide), g 80 (by decide)]; exact e80)) f29 ?_
          refine P3.sI (G := G) 129 (n := 8) (i := i) (f := pf i (-1)) (by rw [upT_ne (by decide), upT_at]) rfl hi (by decide) (fun h4 P4 => ?_)
          rw [il_m1, pf_s, upT_swap (k := 113) (k' := 129) (by decide), upT_same] at P4
          refine rdR_of (P4.1 80 (.inr (12, fs)) (by rw [upT_ne (by decide), upT_ne (by decide), upT_ne (by decide), g 80 (by decide)]; exact e80)) f13 ?_
          refine P4.sI (G := G) 113 (n := 8) (i := i) (f := pf i (-1)) (by rw [upT_at]) rfl hi (by decide) (fun h5 P5 => ?_)
          rw [il_m1, pf_s, upT_same] at P5
          rw [ii_inc']
          exact ih h5 P5
      have same : ∀ (k : Nat) (e : va_E), T1 k = some e → upT T1 k e = T1 := fun k e he => by
        funext j
        by_cases y : j = k
        · subst y; rw [upT_at, he]
        · rw [upT_ne y]
      refine lp 0 (Nat.zero_le _) h1 ?_
      rw [same 122 _ (by rw [g 122 (by decide)]; exact e122), same 129 _ (by rw [g 129 (by decide)]; exact e129), same 113 _ (by rw [g 113 (by decide)]; exact e113)]
      exact P1
    · intro i hi ih h1 P1
      apply hJ
      rw [il_64, ii_le ⟨by omega, by omega⟩ ⟨by omega, by omega⟩]
      refine ⟨fun z => absurd z (by omega), fun _ => ?_⟩
      refine rdR_of (P1.1 80 (.inr (12, fs)) (by rw [upT_ne (by decide)]; exact e80)) f17 ?_
      refine P1.sI (G := G) 117 (n := 64) (i := i) (f := pf i (-1)) (by rw [upT_at]) rfl hi (by decide) (fun h2 P2 => ?_)
      rw [il_m1, pf_s, upT_same] at P2
      rw [ii_inc']
      exact ih h2 P2
  refine main 0 (Nat.zero_le _) h ?_
  have : upT T 117 (.inl (G.2.2.1.1, 64, .inl (pf 0 (-1)))) = T := by
    funext j
    by_cases y : j = 117
    · subst y; rw [upT_at, e117]
    · rw [upT_ne y]
  rw [this]; exact P
end IN3
