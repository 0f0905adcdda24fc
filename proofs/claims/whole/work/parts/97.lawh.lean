/-! the law: the land changes -/
theorem hs_cgE {E E' : Nat → Nat → Int} {ch : Nat → Int} {s : Nat} (hs8 : s < nt E) (e6 : ∀ j, j < nt E → E' 4 j = E 4 j ∧ E' 5 j = E 5 j ∧ E' 6 j = E 6 j) (hl : ∀ i j, i < nt E → j < nt E → lossE E' (E 4 i).toNat (E 5 j).toNat = lossE E (E 4 i).toNat (E 5 j).toNat) : ∀ n, n ≤ nt E → hs E' s ch n = hs E s ch n := by
  intro n
  induction n with
  | zero => intro _; rfl
  | succ n ih =>
    intro hn
    have q := e6 n (by omega)
    have q2 := e6 s hs8
    have hm : hmE E' n s (ab (ch n - ch s)) = hmE E n s (ab (ch n - ch s)) := by
      unfold hmE
      rw [q.1, q2.2.1, q.2.2, hl n s (by omega) hs8]
    unfold hs
    rw [ih (by omega), hm]
theorem hs_offE {E : Nat → Nat → Int} {ch : Nat → Int} {s n : Nat} : ∀ k, (∀ j, n ≤ j → j < n + k → ch j = -1) → hs E s ch (n + k) = hs E s ch n := by
  intro k
  induction k with
  | zero => intro _; rfl
  | succ k ih =>
    intro ho
    show hs E s ch (n + k + 1) = _
    have hf : nrm ch s (n + k) = false := by
      unfold nrm
      exact decide_eq_false (fun z => z.2.1 (ho (n + k) (by omega) (by omega)))
    refine Eq.trans ?_ (ih (fun j a b => ho j a (by omega)))
    show (if nrm ch s (n + k) = true then (match hs E s ch (n + k) with | none => some (hmE E (n + k) s (ab (ch (n + k) - ch s))) | some a => some (tog a (hmE E (n + k) s (ab (ch (n + k) - ch s))))) else hs E s ch (n + k)) = hs E s ch (n + k)
    rw [hf, if_neg (by decide)]
/-- a land with more in it: who kept its level keeps it -/
theorem alk_cgE {E E' : Nat → Nat → Int} {ch : Nat → Int} (hn : nt E ≤ nt E') (hoff : ∀ j, nt E ≤ j → j < nt E' → ch j = -1) (e0 : E' 8 0 = E 8 0) (e6 : ∀ j, j < nt E → E' 4 j = E 4 j ∧ E' 5 j = E 5 j ∧ E' 6 j = E 6 j) (e7 : ∀ j, j < nt E → E' 7 j = E 7 j) (hl : ∀ i j, i < nt E → j < nt E → lossE E' (E 4 i).toNat (E 5 j).toNat = lossE E (E 4 i).toNat (E 5 j).toNat) (q : alk E ch) : alk E' ch := fun i hi h7 hc => by
  by_cases w : i < nt E
  · have r := q i w (by rw [← e7 i w]; exact h7) hc
    have h1 : hs E' i ch (nt E') = hs E i ch (nt E) := by
      obtain ⟨k, hk⟩ : ∃ k, nt E' = nt E + k := ⟨nt E' - nt E, by omega⟩
      rw [hk, hs_offE k (fun j a b => hoff j a (by omega)), hs_cgE w e6 hl _ (Nat.le_refl _)]
    have h2 : lvE E' i = lvE E i := by
      have q1 := e6 i w
      unfold lvE
      rw [q1.1, q1.2.1, q1.2.2, hl i i w w]
    unfold kp at r ⊢
    rw [h1, h2, e0]; exact r
  · exact absurd (hoff i (by omega) hi) hc
/-- what the land's calls may write -/
def lk (k : Nat) : Prop := k = 30 ∨ k = 31 ∨ (50 ≤ k ∧ k < 80) ∨ k = 81 ∨ (105 ≤ k ∧ k < 113) ∨ 170 ≤ k
theorem ivLand {S S' : Nat → Nat → Int} {c : Nat} (I : IV S c) (h : ∀ k, ¬ lk k → ¬ scr k → S' k = S k) (h80 : ∀ i, i ≠ 0 → i ≠ 3 → i ≠ 4 → S' 80 i = S 80 i) (pl : PL S') (c39 : chs (S' 39)) (c49 : chs (S' 49)) (ki : KI S') (dg' : dg S') (l3 : L3 S') (eE : EM S' = EC S') (n1 : nt (EC S) ≤ nt (EC S')) (e7 : ∀ j, j < nt (EC S) → EC S' 7 j = EC S 7 j) (reg' : ∀ j : Nat, j < ntM S → ∀ d, LM S' j d = LM S j d) (reg2 : ∀ j : Nat, ntM S ≤ j → j < ntM S' → ∀ d, LM S' j d = -1) (rgm : RG S') (sz : ∀ s, s < 8 → S' (170 + s) 2 = S (170 + s) 2 ∧ S' (170 + s) 3 = S (170 + s) 3 ∨ S' (170 + s) 2 = 0 ∧ S' (170 + s) 3 = 0) (ask : ∀ j, j < 8 → S' (70 + j) 5 = S (70 + j) 5 ∨ nt (EC S) ≤ j ∧ S' (70 + j) 5 = 0) (al : S 8 1 = 0 → alk (EC S') (S 32)) : IV S' c := by
  have e : ∀ k, k < 39 → (k ≠ 5 ∧ k ≠ 30 ∧ k ≠ 31) → S' k = S k := fun k a b => h k (fun z => by unfold lk at z; omega) (fun z => by unfold scr at z; omega)
  have e4 : ∀ k, 42 ≤ k → k < 50 → k ≠ 49 → S' k = S k := fun k a b d => h k (fun z => by unfold lk at z; omega) (fun z => by unfold scr at z; omega)
  have e8 : ∀ k, 92 ≤ k → (k < 105 ∨ 113 ≤ k ∧ k < 130 ∨ 136 ≤ k ∧ k < 170) → S' k = S k := fun k a b => h k (fun z => by unfold lk at z; omega) (fun z => by unfold scr at z; omega)
  have mo' : MO S' := ⟨by rw [eE]; exact ki.1.2.1, fun j hj => by rw [e8 113 (by decide) (by decide), I.now j hj]; exact I.ri.2.2.2.1 j⟩
  have n8' := (ntM_8 mo').1
  have nM' : ntM S' = nt (EC S') := by rw [← (ntM_8 mo').2.2, eE]
  have nM : ntM S = nt (EC S) := by rw [← (ntM_8 I.mo).2.2, I.eE]
  have kgE : ∀ k, kg k → S' k = S k := fun k hk => e k (by unfold kg at hk; omega) (by unfold kg at hk; omega)
  exact mkIV
    (xki := ki)
    (xdg := dg')
    (xl3 := l3)
    (xri := I.ri.of kgE)
    (xrsz := fun s hs => by rw [e 33 (by decide) (by decide)]; exact I.rsz s hs)
    (xeE := eE)
    (xday := by rw [h80 1 (by decide) (by decide) (by decide), e 3 (by decide) (by decide)]; exact I.day)
    (xnow := fun j hj => by rw [e8 113 (by decide) (by decide), e 32 (by decide) (by decide)]; exact I.now j hj)
    (xreg := fun j hj d => by
      by_cases w : j < ntM S
      · rw [reg' j w d, LC_of kgE]; exact I.reg j w d
      · rw [reg2 j (by omega) hj d, LC_of kgE]; exact ((I.ofx j (by omega) (by omega)).2.2 d).symm)
    (xrgm := rgm)
    (xsz := fun s hs => by
      have := I.sz s hs
      rcases sz s hs with w | w <;> omega)
    (xask := fun j hj => by
      have := I.ask j hj
      rw [e8 114 (by decide) (by decide)]
      rcases ask j hj with w | ⟨w1, w2⟩
      · omega
      · have := (I.ofx j w1 hj).2.1
        omega)
    (xbr := by unfold BR; rw [e 36 (by decide) (by decide), e 37 (by decide) (by decide), e 38 (by decide) (by decide), e 3 (by decide) (by decide)]; exact I.br)
    (xbm := by unfold BM; rw [e8 116 (by decide) (by decide), e8 117 (by decide) (by decide), e8 118 (by decide) (by decide), h80 1 (by decide) (by decide) (by decide)]; exact I.bm)
    (xb36 := fun i hi => by rw [e8 116 (by decide) (by decide), e 36 (by decide) (by decide)]; exact I.b36 i hi)
    (xb37 := fun i hi => by rw [e8 117 (by decide) (by decide), e 37 (by decide) (by decide)]; exact I.b37 i hi)
    (xb38 := fun i hi => by rw [e8 118 (by decide) (by decide), e 38 (by decide) (by decide)]; exact I.b38 i hi)
    (xfa := by unfold FA; rw [e4 42 (by decide) (by decide) (by decide), e4 43 (by decide) (by decide) (by decide)]; exact I.fa)
    (xpr := fun j hj => by rw [e8 122 (by decide) (by decide), e4 42 (by decide) (by decide) (by decide)]; exact I.pr j hj)
    (xs61 := by rw [e 6 (by decide) (by decide)]; exact I.s61)
    (xs62 := by rw [e 6 (by decide) (by decide)]; exact I.s62)
    (xs63 := fun j hj => by
      rw [e 6 (by decide) (by decide)] at hj
      have := I.s63 j hj
      exact ⟨by omega, by rw [e7 j this.1]; exact this.2⟩)
    (xst := fun j hj => by rw [e8 123 (by decide) (by decide), e 6 (by decide) (by decide)]; exact I.st j hj)
    (xs19 := by rw [h80 19 (by decide) (by decide) (by decide), e 6 (by decide) (by decide)]; exact I.s19)
    (xs20 := by rw [h80 20 (by decide) (by decide) (by decide), e 6 (by decide) (by decide)]; exact I.s20)
    (xs21 := by rw [h80 21 (by decide) (by decide) (by decide), e 6 (by decide) (by decide)]; exact I.s21)
    (xbd := by unfold BD; rw [e 7 (by decide) (by decide), e4 46 (by decide) (by decide) (by decide)]; exact I.bd)
    (xfb := by unfold FB nB; rw [e4 44 (by decide) (by decide) (by decide), e4 45 (by decide) (by decide) (by decide), e4 46 (by decide) (by decide) (by decide), e 7 (by decide) (by decide)]; exact I.fb)
    (xwr := by rw [e8 125 (by decide) (by decide), e4 46 (by decide) (by decide) (by decide)]; exact I.wr)
    (xgot := fun i hi => by rw [e8 126 (by decide) (by decide), e4 44 (by decide) (by decide) (by decide)]; exact I.got i hi)
    (xpay := fun i hi => by rw [e8 127 (by decide) (by decide), e4 45 (by decide) (by decide) (by decide)]; exact I.pay i hi)
    (xnb := by rw [h80 24 (by decide) (by decide) (by decide), e 7 (by decide) (by decide)]; exact I.nb)
    (xm1 := by rw [e 8 (by decide) (by decide)]; exact I.m1)
    (xph := fun j hj => by rw [e8 129 (by decide) (by decide), e4 48 (by decide) (by decide) (by decide)]; exact I.ph j hj)
    (xdk := by rw [h80 28 (by decide) (by decide) (by decide), e 8 (by decide) (by decide)]; exact I.dk)
    (xal := by rw [e 8 (by decide) (by decide), e 32 (by decide) (by decide)]; exact al)
    (xoff := fun j a b => by
      have w := I.ofx j (by omega) b
      exact ⟨by rw [e 32 (by decide) (by decide)]; exact w.1, by rw [e8 114 (by decide) (by decide)]; exact w.2.1, fun d => by rw [LC_of kgE]; exact w.2.2 d⟩)
    (xpl := pl)
    (xc39 := c39)
    (xc49 := c49)
