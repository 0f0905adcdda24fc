/-! the start: everything that the two constructors make, key by key -/
def upA (A : Nat → Nat) (k a : Nat) : Nat → Nat := fun j => cond (Nat.beq j k) a (A j)
def upT (T : Nat → Option va_E) (k : Nat) (e : va_E) : Nat → Option va_E := fun j => cond (Nat.beq j k) (some e) (T j)
theorem upA_at {A : Nat → Nat} {k a : Nat} : upA A k a k = a := by unfold upA; rw [Nat.beq_refl]; rfl
theorem upA_ne {A : Nat → Nat} {k a j : Nat} (h : j ≠ k) : upA A k a j = A j := by
  unfold upA
  cases e : Nat.beq j k with
  | false => rfl
  | true => exact absurd (Nat.eq_of_beq_eq_true e) h
theorem upT_at {T : Nat → Option va_E} {k : Nat} {e : va_E} : upT T k e k = some e := by unfold upT; rw [Nat.beq_refl]; rfl
theorem upT_ne {T : Nat → Option va_E} {k j : Nat} {e : va_E} (h : j ≠ k) : upT T k e j = T j := by
  unfold upT
  cases e2 : Nat.beq j k with
  | false => rfl
  | true => exact absurd (Nat.eq_of_beq_eq_true e2) h
theorem upT_same {T : Nat → Option va_E} {k : Nat} {e e' : va_E} : upT (upT T k e) k e' = upT T k e' := by
  funext j
  by_cases y : j = k
  · subst y; rw [upT_at, upT_at]
  · rw [upT_ne y, upT_ne y, upT_ne y]
theorem upT_swap {T : Nat → Option va_E} {k k' : Nat} {e e' : va_E} (h : k ≠ k') : upT (upT T k e) k' e' = upT (upT T k' e') k e := by
  funext j
  by_cases y : j = k
  · subst y; rw [upT_ne h, upT_at, upT_at]
  · by_cases z : j = k'
    · subst z; rw [upT_at, upT_ne y, upT_at]
    · rw [upT_ne z, upT_ne y, upT_ne y, upT_ne z]
def IP (A : Nat → Nat) (T : Nat → Option va_E) (h : hw) : Prop := (∀ (k : Nat) (e : va_E), T k = some e → h (A k) = some e) ∧ ∀ (k k' : Nat) (e e' : va_E), T k = some e → T k' = some e' → A k = A k' → k = k'
theorem IP_0 {h : hw} : IP (fun _ => 0) (fun _ => none) h := ⟨(fun k e z => by cases z), (fun k k' e e' z => by cases z)⟩
def pf (m : Nat) (v : Int) : Nat → Int32 := fun i => ii (if i < m then v else 0)
theorem pf_0 {v : Int} : pf 0 v = fun _ => ii 0 := by
  funext i; unfold pf; rw [if_neg (by omega)]
theorem pf_s {v : Int} (m : Nat) : upd (pf m v) m (ii v) = pf (m + 1) v := by
  funext i
  show (if i = m then ii v else pf m v i) = _
  unfold pf
  by_cases y : i = m
  · rw [if_pos y, if_pos (by omega)]
  · rw [if_neg y]; exact congrArg ii (ite_iff (by omega))
section INI
variable {G : Gx} {A : Nat → Nat} {T : Nat → Option va_E} {h : hw}
theorem IP.new (P : IP A T h) {k a : Nat} {e : va_E} (hk : T k = none) (ha : h a = none) : IP (upA A k a) (upT T k e) (hwu h a e) := by
  have fr : ∀ j x, T j = some x → A j ≠ a := fun j x hj z => by
    have := P.1 j x hj; rw [z, ha] at this; cases this
  have nk : ∀ j x, T j = some x → j ≠ k := fun j x hj z => by rw [z, hk] at hj; cases hj
  refine ⟨fun j x hj => ?_, fun j j' x x' hj hj' hA => ?_⟩
  · unfold hwu
    by_cases y : j = k
    · subst y; rw [upA_at, if_pos rfl]; rw [upT_at] at hj; exact hj
    · rw [upT_ne y] at hj; rw [upA_ne y, if_neg (fr j x hj)]; exact P.1 j x hj
  · by_cases y : j = k
    · by_cases y' : j' = k
      · rw [y, y']
      · rw [upT_ne y'] at hj'
        rw [y, upA_at, upA_ne y'] at hA
        exact absurd hA.symm (fr j' x' hj')
    · rw [upT_ne y] at hj
      by_cases y' : j' = k
      · rw [y', upA_at, upA_ne y] at hA
        exact absurd hA (fr j x hj)
      · rw [upT_ne y'] at hj'
        rw [upA_ne y, upA_ne y'] at hA
        exact P.2 j j' x x' hj hj' hA
theorem IP.put (P : IP A T h) {k : Nat} {e0 e : va_E} (hk : T k = some e0) : IP A (upT T k e) (hwu h (A k) e) := by
  refine ⟨fun j x hj => ?_, fun j j' x x' hj hj' hA => ?_⟩
  · unfold hwu
    by_cases y : j = k
    · subst y; rw [if_pos rfl]; rw [upT_at] at hj; exact hj
    · rw [upT_ne y] at hj
      rw [if_neg (fun z => y (P.2 j k _ _ hj hk z))]; exact P.1 j x hj
  · have f : ∀ j x, upT T k e j = some x → ∃ y, T j = some y := fun j x hj => by
      by_cases y : j = k
      · subst y; exact ⟨_, hk⟩
      · rw [upT_ne y] at hj; exact ⟨_, hj⟩
    obtain ⟨y, hy⟩ := f j x hj
    obtain ⟨y', hy'⟩ := f j' x' hj'
    exact P.2 j j' _ _ hy hy' hA
theorem IP.nO (P : IP A T h) (k : Nat) {ci : Nat} {fs : List Value} {K : Nat → hw → Prop} (hk : T k = none) (q : ∀ a h', IP (upA A k a) (upT T k (.inr (ci, fs))) h' → K a h') : nwO G h ci fs K := fun a ha _ => q a _ (P.new hk ha)
theorem IP.wF (P : IP A T h) (k : Nat) {ci j : Nat} {fs : List Value} {v : Value} {K : hw → Prop} (hk : T k = some (.inr (ci, fs))) (hj : j < fs.length) (q : ∀ h', IP A (upT T k (.inr (ci, fs.set j v))) h' → K h') : wrF h (A k) ci j v K := ⟨fs, P.1 k _ hk, hj, q _ (P.put hk)⟩
theorem IP.nI (P : IP A T h) (k n : Nat) {x : Int32} {room : Nat} {K : Nat → hw → Prop} (hk : T k = none) (hx : ¬ x < 0 ∧ x.toNatClampNeg = n ∧ n ≤ room ∧ n * 4 ≤ 536870912) (q : ∀ a h', IP (upA A k a) (upT T k (.inl (G.2.2.1.1, n, .inl (fun _ => ii 0)))) h' → K a h') : nwI G h x room K := ⟨hx.1, by rw [hx.2.1]; exact hx.2.2.1, by rw [hx.2.1]; exact hx.2.2.2, fun a ha _ => by rw [hx.2.1]; exact q a _ (P.new hk ha)⟩
theorem IP.sI (P : IP A T h) (k : Nat) {n i : Nat} {f : Nat → Int32} {x v : Int32} {K : hw → Prop} (hk : T k = some (.inl (G.2.2.1.1, n, .inl f))) (hx : x = ii (i : Int)) (hi : i < n) (hn : n < 2147483648) (q : ∀ h', IP A (upT T k (.inl (G.2.2.1.1, n, .inl (upd f i v)))) h' → K h') : stI G h (A k) x v K := by
  subst hx
  refine ⟨n, f, P.1 k _ hk, vp_ii (by omega) (by omega) (by omega), ?_⟩
  rw [ii_natN (by omega)]
  exact q _ (P.put hk)
/-- a row -/
theorem IP.row (P : IP A T h) (k n : Nat) (v : Int) {x y : Int32} {K : Nat → hw → Prop} (h1 : T k = none) (h2 : T (k + 20) = none) (hn : n ≤ 2048) (hx : x = ii (n : Int)) (hy : y = ii v) (q : ∀ a r h', IP (upA (upA A k a) (k + 20) r) (upT (upT T k (.inr (7, [.ref r]))) (k + 20) (.inl (G.2.2.1.1, n, .inl (pf n v)))) h' → K a h') : nwO G h 7 [.null] (fun a1 h2 => wp_X7_init G a1 x y h2 1 n (K a1)) := by
  subst hx hy
  refine P.nO k h1 (fun a h3 P3 => ?_)
  intro J14 hJ14
  have go : J14 a (ii (n : Int)) := by
    apply hJ14
    refine ⟨by decide, Nat.zero_le _, ?_⟩
    refine P3.nI (k + 20) n (by rw [upT_ne (by omega)]; exact h2) ⟨by rw [il_0, ii_lt ⟨by omega, by omega⟩ ⟨by decide, by decide⟩]; omega, ii_natN (by omega), by omega, by omega⟩ (fun r h4 P4 => ?_)
    have ka : upA (upA A k a) (k + 20) r k = a := by rw [upA_ne (by omega), upA_at]
    have kr : upA (upA A k a) (k + 20) r (k + 20) = r := upA_at
    have w := P4.wF k (ci := 7) (j := 0) (fs := [.null]) (v := .ref r) (K := fun h5 => ∀ J21 : Int32 → hw → Prop, (∀ (x3_6 : Int32) (h7 : hw), (rdR h7 a 7 0 (fun v8 => lnI G h7 v8 (fun v9 => ((v9 ≤ x3_6 → ((0 + 1) ≤ 1 ∧ (0 + (n - 0)) ≤ n ∧ K a h7)) ∧ (¬ v9 ≤ x3_6 → rdR h7 a 7 0 (fun v10 => stI G h7 v10 x3_6 (ii v) (fun h11 => J21 (x3_6 + 1) h11))))))) → J21 x3_6 h7) → J21 0 h5) (by rw [upT_ne (by omega), upT_at]) (by decide) (fun h5 P5 => ?_)
    · rw [ka] at w; exact w
    · rw [upT_swap (by omega), upT_same, ← pf_0 (v := v)] at P5
      intro J21 hJ21
      have main : ∀ i : Nat, i ≤ n → ∀ h', IP (upA (upA A k a) (k + 20) r) (upT (upT T k (.inr (7, [.ref r]))) (k + 20) (.inl (G.2.2.1.1, n, .inl (pf i v)))) h' → J21 (ii (i : Int)) h' := by
        intro i hi
        refine lp_up (J := fun i : Nat => ∀ h', IP (upA (upA A k a) (k + 20) r) (upT (upT T k (.inr (7, [.ref r]))) (k + 20) (.inl (G.2.2.1.1, n, .inl (pf i v)))) h' → J21 (ii (i : Int)) h') (n := n) ?_ ?_ hi
        · intro h' P'
          have ek := P'.1 k (.inr (7, [.ref r])) (by rw [upT_ne (by omega), upT_at])
          have er := P'.1 (k + 20) _ upT_at
          rw [ka] at ek; rw [kr] at er
          apply hJ21
          refine rdR_of ek rfl ⟨_, er, ?_⟩
          show ((Int32.ofNat n ≤ ii (n : Int) → _) ∧ _)
          rw [ii_ofNat]
          exact ⟨fun _ => ⟨by decide, by omega, q a r h' P'⟩, fun z => absurd ((ii_le ⟨by omega, by omega⟩ ⟨by omega, by omega⟩).mpr (Int.le_refl _)) z⟩
        · intro i hi ih h' P'
          have ek := P'.1 k (.inr (7, [.ref r])) (by rw [upT_ne (by omega), upT_at])
          have er := P'.1 (k + 20) _ upT_at
          rw [ka] at ek; rw [kr] at er
          apply hJ21
          refine rdR_of ek rfl ⟨_, er, ?_⟩
          show ((Int32.ofNat n ≤ ii (i : Int) → _) ∧ _)
          rw [ii_ofNat]
          refine ⟨fun z => absurd ((ii_le ⟨by omega, by omega⟩ ⟨by omega, by omega⟩).mp z) (by omega), fun _ => ?_⟩
          refine rdR_of ek rfl ?_
          have s := P'.sI (G := G) (k + 20) (n := n) (i := i) (f := pf i v) (x := ii (i : Int)) (v := ii v) (K := fun h11 => J21 (ii (i : Int) + 1) h11) upT_at rfl hi (by omega) (fun h6 P6 => ?_)
          · rw [kr] at s; exact s
          · rw [upT_same, pf_s] at P6
            rw [ii_inc']; exact ih h6 P6
      exact main 0 (Nat.zero_le _) h5 P5
  have z0 : (0 : Int32) = ii 0 := il_0
  rw [z0, ii_le ⟨by decide, by decide⟩ ⟨by omega, by omega⟩]
  exact ⟨fun _ => go, fun z => absurd (by omega) z⟩
/-- an empty list -/
theorem IP.lst (P : IP A T h) (k : Nat) {K : Nat → hw → Prop} (h1 : T k = none) (q : ∀ a h', IP (upA A k a) (upT T k (ctL G (fun _ => 0) 0)) h' → K a h') : nwO G h 14 [.int 0, .null, .int 0] (fun a h2 => wp_Jx4a65c_init_da8c8 G a h2 (K a)) := by
  refine P.nO k h1 (fun a h3 P3 => ?_)
  have ka : upA A k a k = a := upA_at
  have w := P3.wF k (ci := 14) (j := 0) (fs := [.int 0, .null, .int 0]) (v := .int 0) (K := fun h1 => wrF h1 a 14 1 (.ref (Gt0 G)) (fun h2 => K a h2)) upT_at (by decide) (fun h5 P5 => ?_)
  · rw [ka] at w; exact w
  · rw [upT_same] at P5
    have w := P5.wF k (ci := 14) (j := 1) (fs := [.int 0, .null, .int 0]) (v := .ref (Gt0 G)) (K := fun h2 => K a h2) upT_at (by decide) (fun h6 P6 => ?_)
    · rw [ka] at w; exact w
    · rw [upT_same] at P6
      exact q a h6 P6
end INI
