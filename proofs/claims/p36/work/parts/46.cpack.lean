/-! packings: what both sides look for -/
def fitp (E : Nat → Nat → Int) (mem : Nat → Bool) (t : Nat) (p : Nat → Int) : Prop := ∀ k, k < t → mem k = true → br2 E t (p t) k (p k) = false
def okp (E : Nat → Nat → Int) (mem : Nat → Bool) (C : Int) (s : Nat) (p : Nat → Int) : Prop := ∃ p' : Nat → Int, (∀ i, i < s → p' i = p i) ∧ ∀ t, s ≤ t → t < 8 → mem t = true → (0 ≤ p' t ∧ p' t < C) ∧ fitp E mem t p'
/-- the first packing from s on -/
def fst (E : Nat → Nat → Int) (mem : Nat → Bool) (C : Int) (s : Nat) (p p' : Nat → Int) : Prop := (∀ i, i < s → p' i = p i) ∧ ∀ t, s ≤ t → t < 8 → mem t = true → (0 ≤ p' t ∧ p' t < C) ∧ fitp E mem t p' ∧ ∀ c, 0 ≤ c → c < p' t → ¬ (fitp E mem t (up p' t c) ∧ okp E mem C (t + 1) (up p' t c))
section PK
variable {E : Nat → Nat → Int} {mem : Nat → Bool} {C : Int}
theorem fitp_of {t : Nat} {p q : Nat → Int} (h : ∀ i, i ≤ t → (mem i = true ∨ i = t) → p i = q i) (f : fitp E mem t p) : fitp E mem t q := fun k hk hm => by rw [← h k (by omega) (Or.inl hm), ← h t (Nat.le_refl _) (Or.inr rfl)]; exact f k hk hm
theorem okp_of {s : Nat} {p q : Nat → Int} (h : ∀ i, i < s → mem i = true → p i = q i) (f : okp E mem C s p) : okp E mem C s q := by
  obtain ⟨p', h1, h2⟩ := f
  refine ⟨fun i => if i < s then q i else p' i, fun i hi => if_pos hi, fun t ht ht8 hm => ?_⟩
  have e : (fun i => if i < s then q i else p' i) t = p' t := if_neg (by omega)
  obtain ⟨g1, g2⟩ := h2 t ht ht8 hm
  refine ⟨by rw [e]; exact g1, fitp_of (p := p') (fun i hi w => ?_) g2⟩
  by_cases c : i < s
  · rw [if_pos c, h1 i c]
    exact h i c (w.elim id (fun z => by omega))
  · rw [if_neg c]
theorem fst_ok {s : Nat} {p p' : Nat → Int} (h : fst E mem C s p p') : okp E mem C s p := ⟨p', h.1, fun t h1 h2 h3 => ⟨(h.2 t h1 h2 h3).1, (h.2 t h1 h2 h3).2.1⟩⟩
theorem fst_at {s : Nat} {p p' : Nat → Int} (h : fst E mem C s p p') {t : Nat} (ht : s ≤ t) : okp E mem C t p' := ⟨p', fun _ _ => rfl, fun u h1 h2 h3 => ⟨(h.2 u (by omega) h2 h3).1, (h.2 u (by omega) h2 h3).2.1⟩⟩
/-- there is but one first packing -/
theorem fst_one {s : Nat} {p q p' q' : Nat → Int} (hpq : ∀ i, i < s → mem i = true → p i = q i) (h : fst E mem C s p p') (h2 : fst E mem C s q q') : ∀ t, t < 8 → mem t = true → p' t = q' t := by
  intro t
  induction t using Nat.strongRecOn with
  | _ t ih =>
    intro ht hm
    by_cases c : t < s
    · rw [h.1 t c, h2.1 t c]; exact hpq t c hm
    · have one : ∀ {a b a' b' : Nat → Int}, fst E mem C s a a' → fst E mem C s b b' → (∀ i, i < t → mem i = true → a' i = b' i) → b' t ≤ a' t := by
        intro a b a' b' f g e
        obtain ⟨f1, f2, -⟩ := f.2 t (by omega) ht hm
        obtain ⟨-, -, g3⟩ := g.2 t (by omega) ht hm
        apply Int.not_lt.mp
        intro w
        refine g3 (a' t) f1.1 w ⟨?_, ?_⟩
        · refine fitp_of (p := a') (fun i hi z => ?_) f2
          by_cases c2 : i = t
          · rw [c2, up_at]
          · rw [up_ne c2]; exact e i (by omega) (z.elim id (fun z => absurd z c2))
        · refine okp_of (p := a') (fun i hi z => ?_) (fst_at f (by omega))
          by_cases c2 : i = t
          · rw [c2, up_at]
          · rw [up_ne c2]; exact e i (by omega) z
      have e := fun i hi hmi => ih i hi (by omega) hmi
      exact Int.le_antisymm (one h2 h (fun i hi z => (e i hi z).symm)) (one h h2 e)
theorem fst_end {p : Nat → Int} : fst E mem C 8 p p := ⟨fun _ _ => rfl, fun t h1 h2 => by omega⟩
theorem fst_skip {s : Nat} {p p' : Nat → Int} (hs : mem s = false) (h : fst E mem C (s + 1) p p') : fst E mem C s p p' := ⟨fun i hi => h.1 i (by omega), fun t h1 h2 h3 => h.2 t (by
  rcases Nat.lt_or_ge s t with z | z
  · exact z
  · have : t = s := by omega
    subst this; rw [hs] at h3; cases h3) h2 h3⟩
theorem okp_skip {s : Nat} {p : Nat → Int} (hs : mem s = false) (h : okp E mem C s p) : okp E mem C (s + 1) p := by
  obtain ⟨p', h1, h2⟩ := h
  refine ⟨up p' s (p s), fun i hi => ?_, fun t ht ht8 hm => ?_⟩
  · by_cases c : i = s
    · rw [c, up_at]
    · rw [up_ne c, h1 i (by omega)]
  · obtain ⟨g1, g2⟩ := h2 t (by omega) ht8 hm
    refine ⟨by rw [up_ne (by omega)]; exact g1, fitp_of (p := p') (fun i hi w => ?_) g2⟩
    have : i ≠ s := fun z => by
      subst z
      rcases w with w | w
      · rw [hs] at w; cases w
      · omega
    rw [up_ne this]
theorem okp_step {s : Nat} {q : Nat → Int} (hs8 : s < 8) (hm : mem s = true) (h : okp E mem C s q) : ∃ c, (0 ≤ c ∧ c < C) ∧ fitp E mem s (up q s c) ∧ okp E mem C (s + 1) (up q s c) := by
  obtain ⟨p', h1, h2⟩ := h
  obtain ⟨g1, g2⟩ := h2 s (Nat.le_refl _) hs8 hm
  refine ⟨p' s, g1, fitp_of (p := p') (fun i hi w => ?_) g2, p', fun i hi => ?_, fun t ht ht8 hmt => h2 t (by omega) ht8 hmt⟩
  · by_cases c : i = s
    · rw [c, up_at]
    · rw [up_ne c, h1 i (by omega)]
  · by_cases c : i = s
    · rw [c, up_at]
    · rw [up_ne c, h1 i (by omega)]
theorem fst_cons {s : Nat} {p p' : Nat → Int} {c : Int} (hc : 0 ≤ c ∧ c < C) (hf : fitp E mem s (up p s c)) (h : fst E mem C (s + 1) (up p s c) p') (hl : ∀ c', 0 ≤ c' → c' < c → ¬ (fitp E mem s (up p s c') ∧ okp E mem C (s + 1) (up p s c'))) : fst E mem C s p p' := by
  have e : ∀ i, i < s → p' i = p i := fun i hi => by rw [h.1 i (by omega), up_ne (by omega)]
  have es : p' s = c := by rw [h.1 s (by omega), up_at]
  refine ⟨e, fun t h1 h2 h3 => ?_⟩
  by_cases z : t = s
  · subst z
    refine ⟨by rw [es]; exact hc, fitp_of (fun i hi _ => (h.1 i (by omega)).symm) hf, fun c' c0 c1 w => ?_⟩
    rw [es] at c1
    have k : ∀ i, i ≤ t → up p' t c' i = up p t c' i := fun i hi => by
      by_cases y : i = t
      · rw [y, up_at, up_at]
      · rw [up_ne y, up_ne y, e i (by omega)]
    exact hl c' c0 c1 ⟨fitp_of (fun i hi _ => k i hi) w.1, okp_of (fun i hi _ => k i (by omega)) w.2⟩
  · exact h.2 t (by omega) h2 h3
end PK
/-- less far apart bars what is further apart bars -/
theorem sf1_mono {E : Nat → Nat → Int} {a b : Nat} {x y : Int} (h0 : 0 ≤ x) (h : x ≤ y) (q : sf1 E a b y = true) : sf1 E a b x = true := by
  unfold sf1 at q ⊢
  rw [Bool.and_eq_true, decide_eq_true_eq, decide_eq_true_eq] at q ⊢
  refine ⟨q.1, ?_⟩
  have : wk x ≤ wk y := by
    unfold wk
    split
    · split
      · omega
      · split <;> omega
    · split
      · rw [if_neg (by omega)]; split <;> omega
      · rw [if_neg (by omega), if_neg (by omega)]; omega
  unfold hmE at q ⊢
  omega
theorem brA_mono {E : Nat → Nat → Int} {a b : Nat} {x y : Int} (h0 : 0 ≤ x) (h : x ≤ y) (q : brA E a b y = true) : brA E a b x = true := by
  unfold brA at q ⊢
  rw [Bool.and_eq_true, decide_eq_true_eq, Bool.or_eq_true] at q ⊢
  refine ⟨by omega, ?_⟩
  rcases q.2 with z | z
  · exact Or.inl (sf1_mono h0 h z)
  · exact Or.inr (sf1_mono h0 h z)
/-- the packer is ready: its spacings, its channels -/
def spOK (E : Nat → Nat → Int) (w : Nat → Int) : Prop := ∀ i j, i < nt E → j < nt E → i ≠ j → (0 ≤ w (i * 8 + j) ∧ w (i * 8 + j) ≤ 3) ∧ ∀ x, 0 ≤ x → (x < w (i * 8 + j) ↔ brA E i j x = true)
section CP
variable {G : Gx} {A : Nat → Nat} {B : Nat → Nat → Nat} {S : Nat → Nat → Int} {h : hw}
theorem nt8 (hK : KI S) : nt (EC S) ≤ 8 ∧ S 51 2 = ((nt (EC S) : Nat) : Int) := by
  have h8 := hK.1.1.2.2.1
  have h0 := hK.1.1.2.1
  show (S 51 2).toNat ≤ 8 ∧ S 51 2 = (((S 51 2).toNat : Nat) : Int)
  omega
theorem Pic.least (P : Pic G A B S h) (hK : KI S) {a b : Nat} (ha : a < nt (EC S)) (hb : b < nt (EC S)) {post : Int32 → Prop} (q : ∀ v : Int, 0 ≤ v ∧ v ≤ 3 → (∀ x, 0 ≤ x → (x < v ↔ brA (EC S) a b x = true)) → post (ii v)) : wp_X5_leastSpacing G (A 1) (A (70 + a)) (A (70 + b)) h post := by
  obtain ⟨h8, hn⟩ := nt8 hK
  intro J hJ
  have main : ∀ i : Nat, i ≤ 3 → (∀ x, 0 ≤ x → x < (i : Int) → brA (EC S) a b x = true) → J (ii (i : Int)) := by
    intro i hi
    refine lp_up (J := fun i : Nat => (∀ x, 0 ≤ x → x < (i : Int) → brA (EC S) a b x = true) → J (ii (i : Int))) (n := 3) ?_ ?_ hi
    · intro g
      apply hJ
      rw [il_3, ii_le ⟨by omega, by omega⟩ ⟨by omega, by omega⟩]
      refine ⟨fun _ => q 3 ⟨by omega, by omega⟩ (fun x hx => ⟨fun w => g x hx w, fun w => ?_⟩), fun z => absurd (Int.le_refl _) z⟩
      unfold brA at w
      rw [Bool.and_eq_true, decide_eq_true_eq] at w
      exact w.1
    · intro i hi ih g
      apply hJ
      rw [il_3, ii_le ⟨by omega, by omega⟩ ⟨by omega, by omega⟩]
      refine ⟨fun z => absurd z (by omega), fun _ => ?_⟩
      refine ⟨P.o (k := 1) rfl, P.bar hK (by omega) (by omega) (ap := (i : Int)) ⟨by omega, by omega⟩ rfl ?_⟩
      rw [bI_1, bI_0]
      refine ⟨fun c => q i ⟨by omega, by omega⟩ (fun x hx => ⟨fun w => g x hx w, fun w => ?_⟩), fun c => ?_⟩
      · apply Int.not_le.mp
        intro z
        rw [brA_mono (by omega) z w] at c
        cases c
      · rw [ii_inc']
        refine ih (fun x hx w => ?_)
        by_cases z : x = (i : Int)
        · rw [z]; exact c
        · exact g x hx (by omega)
  exact main 0 (by omega) (fun x h1 h2 => by omega)
theorem Pic.prepare (P : Pic G A B S h) (hK : KI S) {C : Int} {v : Int32} (hv : v = ii C) {post : hw → Prop} (q : ∀ S' h', Pic G A B S' h' → (∀ k, k ≠ 5 → k ≠ 40 → k ≠ 41 → S' k = S k) → S' 5 3 = C → (∀ i, i < 256 → S' 41 i = 0) → spOK (EC S) (S' 40) → post h') : wp_X5_prepare G (A 5) (A 1) v h post := by
  obtain ⟨h8, hn⟩ := nt8 hK
  subst hv
  refine P.wF (k := 5) (z := C) ⟨by decide, by decide, by decide, by decide⟩ rfl (show 3 < 5 by decide) rfl (fun h1 P1 => ?_)
  refine P1.ofill (k := 5) (r := 21) (rk := 41) (z := 0) rfl rfl ⟨by omega, by omega⟩ il_0 (fun h2 P2 => ?_)
  intro J hJ
  have F : ∀ S' : Nat → Nat → Int, (∀ k, k ≠ 5 → k ≠ 40 → k ≠ 41 → S' k = S k) → KI S' ∧ EC S' = EC S ∧ S' 51 2 = S 51 2 := by
    intro S' e
    have e2 : ∀ k, kl k → S' k = S k := fun k hk => e k (fun z => by subst z; rcases hk with z | z | z <;> omega) (fun z => by subst z; rcases hk with z | z | z <;> omega) (fun z => by subst z; rcases hk with z | z | z <;> omega)
    exact ⟨hK.of e2 (e 31 (by omega) (by omega) (by omega)), EC_of e2, by rw [e 51 (by omega) (by omega) (by omega)]⟩
  have main : ∀ n : Nat, n ≤ nt (EC S) → ∀ (S' : Nat → Nat → Int) (h' : hw), Pic G A B S' h' → (∀ k, k ≠ 5 → k ≠ 40 → k ≠ 41 → S' k = S k) → S' 5 3 = C → (∀ i, i < 256 → S' 41 i = 0) → (∀ i j, i < n → j < n → i ≠ j → (0 ≤ S' 40 (i * 8 + j) ∧ S' 40 (i * 8 + j) ≤ 3) ∧ ∀ x, 0 ≤ x → (x < S' 40 (i * 8 + j) ↔ brA (EC S) i j x = true)) → J (ii (n : Int)) h' := by
    intro n hn1
    refine lp_up (J := fun n : Nat => ∀ (S' : Nat → Nat → Int) (h' : hw), Pic G A B S' h' → (∀ k, k ≠ 5 → k ≠ 40 → k ≠ 41 → S' k = S k) → S' 5 3 = C → (∀ i, i < 256 → S' 41 i = 0) → (∀ i j, i < n → j < n → i ≠ j → (0 ≤ S' 40 (i * 8 + j) ∧ S' 40 (i * 8 + j) ≤ 3) ∧ ∀ x, 0 ≤ x → (x < S' 40 (i * 8 + j) ↔ brA (EC S) i j x = true)) → J (ii (n : Int)) h') (n := nt (EC S)) ?_ ?_ hn1
    · intro S' h' P' e1 e2 e3 e4
      apply hJ
      refine P'.nT ?_
      rw [(F S' e1).2.2, hn, ii_le ⟨by omega, by omega⟩ ⟨by omega, by omega⟩]
      exact ⟨fun _ => q S' h' P' e1 e2 e3 e4, fun z => absurd (Int.le_refl _) z⟩
    · intro n hn1 ih S' h' P' e1 e2 e3 e4
      apply hJ
      refine P'.nT ?_
      rw [(F S' e1).2.2, hn, ii_le ⟨by omega, by omega⟩ ⟨by omega, by omega⟩]
      refine ⟨fun z => absurd z (by omega), fun _ => ?_⟩
      intro J2 hJ2
      have inner : ∀ m : Nat, m ≤ n → ∀ (S' : Nat → Nat → Int) (h' : hw), Pic G A B S' h' → (∀ k, k ≠ 5 → k ≠ 40 → k ≠ 41 → S' k = S k) → S' 5 3 = C → (∀ i, i < 256 → S' 41 i = 0) → (∀ i j, ((i < n ∧ j < n) ∨ (i = n ∧ j < m) ∨ (j = n ∧ i < m)) → i ≠ j → (0 ≤ S' 40 (i * 8 + j) ∧ S' 40 (i * 8 + j) ≤ 3) ∧ ∀ x, 0 ≤ x → (x < S' 40 (i * 8 + j) ↔ brA (EC S) i j x = true)) → J2 (ii (m : Int)) h' := by
        intro m hm
        refine lp_up (J := fun m : Nat => ∀ (S' : Nat → Nat → Int) (h' : hw), Pic G A B S' h' → (∀ k, k ≠ 5 → k ≠ 40 → k ≠ 41 → S' k = S k) → S' 5 3 = C → (∀ i, i < 256 → S' 41 i = 0) → (∀ i j, ((i < n ∧ j < n) ∨ (i = n ∧ j < m) ∨ (j = n ∧ i < m)) → i ≠ j → (0 ≤ S' 40 (i * 8 + j) ∧ S' 40 (i * 8 + j) ≤ 3) ∧ ∀ x, 0 ≤ x → (x < S' 40 (i * 8 + j) ↔ brA (EC S) i j x = true)) → J2 (ii (m : Int)) h') (n := n) ?_ ?_ hm
        · intro S' h' P' e1 e2 e3 e4
          apply hJ2
          rw [ii_le ⟨by omega, by omega⟩ ⟨by omega, by omega⟩]
          refine ⟨fun _ => ?_, fun z => absurd (Int.le_refl _) z⟩
          rw [ii_inc']
          exact ih S' h' P' e1 e2 e3 (fun i j hi hj hne => e4 i j (by omega) hne)
        · intro m hm ih2 S' h' P' e1 e2 e3 e4
          obtain ⟨hK', eE, e51⟩ := F S' e1
          apply hJ2
          rw [ii_le ⟨by omega, by omega⟩ ⟨by omega, by omega⟩]
          refine ⟨fun z => absurd z (by omega), fun _ => ?_⟩
          refine P'.gT hK'.1.1 rfl (by omega) ?_
          refine P'.gT hK'.1.1 rfl (by omega) ?_
          refine P'.least hK' (by rw [eE]; omega) (by rw [eE]; omega) (fun w hw hx => ?_)
          rw [eE] at hx
          refine P'.oput (k := 5) (r := 20) (rk := 40) (i := n * 8 + m) (z := w) rfl rfl ⟨by omega, by omega⟩ ?_ rfl (show _ < 64 by omega) (fun h3 P3 => ?_)
          · rw [il_8, ii_mul, ii_add]; exact congrArg ii (by omega)
          refine P3.oput (k := 5) (r := 20) (rk := 40) (i := m * 8 + n) (z := w) rfl rfl ⟨by omega, by omega⟩ ?_ rfl (show _ < 64 by omega) (fun h4 P4 => ?_)
          · rw [il_8, ii_mul, ii_add]; exact congrArg ii (by omega)
          rw [ii_inc']
          refine ih2 _ _ P4 (fun k k1 k2 k3 => by rw [su_row _ _ k2, su_row _ _ k2, e1 k k1 k2 k3]) (by rw [su_ne _ _ _ (by omega), su_ne _ _ _ (by omega), e2]) (fun i hi => by rw [su_ne _ _ _ (by omega), su_ne _ _ _ (by omega)]; exact e3 i hi) (fun i j hij hne => ?_)
          by_cases c1 : i = m ∧ j = n
          · rw [c1.1, c1.2, su_at]
            refine ⟨hw, fun x h0 => ?_⟩
            rw [brA_sym]; exact hx x h0
          · by_cases c2 : i = n ∧ j = m
            · rw [c2.1, c2.2, su_nei _ _ _ (by omega), su_at]
              exact ⟨hw, hx⟩
            · rw [su_nei _ _ _ (by omega), su_nei _ _ _ (by omega)]
              exact e4 i j (by omega) hne
      exact inner 0 (by omega) S' h' P' e1 e2 e3 (fun i j hij hne => e4 i j (by omega) (by omega) hne)
  refine main 0 (by omega) _ _ P2 (fun k k1 k2 k3 => by rw [sf_ne k3, su_row _ _ k1]) ?_ (fun i hi => sf_at hi) (fun i j hi => by omega)
  rw [sf_ne (by omega), su_at]
theorem Pic.near2 (P : Pic G A B S h) {E : Nat → Nat → Int} (hn8 : nt E ≤ 8) (hsp : spOK E (S 40)) {a b : Nat} (ha : a < nt E) (hb : b < nt E) (hab : a ≠ b) {c d : Int} (hc : -1 ≤ c ∧ c ≤ 7) (hd : -1 ≤ d ∧ d ≤ 7) {x y : Int32} (hx : x = ii (a : Int)) (hy : y = ii (b : Int)) {post : Int32 → Prop} (q : post (ii (bI (br2 E a c b d)))) : wp_X5_areTooNear G (A 5) x (ii c) y (ii d) h post := by
  subst hx hy
  obtain ⟨s1, s2⟩ := hsp a b ha hb hab
  refine P.oat (k := 5) (r := 20) (rk := 40) (i := a * 8 + b) rfl rfl ⟨by omega, by omega⟩ ?_ (show _ < 64 by omega) ?_
  · rw [il_8, ii_mul, ii_add]; exact congrArg ii (by omega)
  have h0 : 0 ≤ ab (c - d) ∧ ab (c - d) ≤ 8 := by unfold ab; omega
  rw [ii_sub, ii_ab ⟨by omega, by omega⟩, ii_le ⟨by omega, by omega⟩ ⟨by omega, by omega⟩]
  have s3 := s2 (ab (c - d)) h0.1
  unfold br2 at q
  refine ⟨fun z => ?_, fun z => ?_⟩
  · have e : brA E a b (ab (c - d)) = false := Bool.eq_false_iff.mpr (fun w => by rw [← s3] at w; omega)
    rw [e] at q; exact q
  · rw [s3.mp (by omega)] at q; exact q
/-- the lowest one that is in the way -/
theorem Pic.lower (P : Pic G A B S h) {E : Nat → Nat → Int} (hn8 : nt E ≤ 8) (hsp : spOK E (S 40)) (hm : ∀ i, bt (ii (S 5 4)) i = true → i < nt E) (hp : chs (S 39)) {s : Nat} (hs : s < nt E) {c : Int} (hc : 0 ≤ c ∧ c ≤ 7) {post : Int32 → Prop} (q1 : fitp E (bt (ii (S 5 4))) s (up (S 39) s c) → post (-1)) (q2 : ∀ i, i < s → bt (ii (S 5 4)) i = true → br2 E s c i (S 39 i) = true → post (ii (i : Int))) : wp_X5_lowerTooNear G (A 5) (ii (s : Int)) (ii c) h post := by
  intro J hJ
  have main : ∀ i : Nat, i ≤ s → (∀ k, k < i → bt (ii (S 5 4)) k = true → br2 E s c k (S 39 k) = false) → J (ii (i : Int)) := by
    intro i hi
    refine lp_up (J := fun i : Nat => (∀ k, k < i → bt (ii (S 5 4)) k = true → br2 E s c k (S 39 k) = false) → J (ii (i : Int))) (n := s) ?_ ?_ hi
    · intro g
      apply hJ
      rw [ii_le ⟨by omega, by omega⟩ ⟨by omega, by omega⟩]
      refine ⟨fun _ => q1 (fun k hk hmk => ?_), fun z => absurd (Int.le_refl _) z⟩
      rw [up_at, up_ne (by omega)]; exact g k hk hmk
    · intro i hi ih g
      apply hJ
      rw [ii_le ⟨by omega, by omega⟩ ⟨by omega, by omega⟩]
      refine ⟨fun z => absurd z (by omega), fun _ => ?_⟩
      refine P.oat (k := 5) (r := 19) (rk := 39) (i := i) rfl rfl ⟨by omega, by omega⟩ rfl (show _ < 8 by omega) ?_
      refine P.rI (k := 5) rfl rfl ?_
      refine isIn_of (i := i) (by omega) rfl ?_
      intro J2 hJ2
      have go : (bt (ii (S 5 4)) i = true → br2 E s c i (S 39 i) = false) → J2 := by
        intro w
        apply hJ2
        rw [ii_inc']
        refine ih (fun k hk hmk => ?_)
        by_cases z : k = i
        · subst z; exact w hmk
        · exact g k (by omega) hmk
      rw [bI_1, bI_0]
      refine ⟨fun z => go (fun w => by rw [z] at w; cases w), fun z => ?_⟩
      have hin := hm i z
      obtain ⟨s1, s2⟩ := hsp s i hs hin (by omega)
      have hd := hp i
      refine P.oat (k := 5) (r := 20) (rk := 40) (i := s * 8 + i) rfl rfl ⟨by omega, by omega⟩ ?_ (show _ < 64 by omega) ?_
      · rw [il_8, ii_mul, ii_add]; exact congrArg ii (by omega)
      have h0 : 0 ≤ ab (c - S 39 i) ∧ ab (c - S 39 i) ≤ 8 := by unfold ab; omega
      rw [ii_sub, ii_ab ⟨by omega, by omega⟩, ii_le ⟨by omega, by omega⟩ ⟨by omega, by omega⟩]
      have s3 := s2 (ab (c - S 39 i)) h0.1
      refine ⟨fun w => go (fun _ => ?_), fun w => q2 i hi z ?_⟩
      · show brA E s i (ab (c - S 39 i)) = false
        exact Bool.eq_false_iff.mpr (fun w2 => by rw [← s3] at w2; omega)
      · exact s3.mp (by omega)
  exact main 0 (by omega) (fun k hk => by omega)
theorem Pic.place : ∀ (m s d : Nat), s + m = 8 → m < d → ∀ {G : Gx} {A : Nat → Nat} {B : Nat → Nat → Nat} {S : Nat → Nat → Int} {h : hw} (_ : Pic G A B S h) {E : Nat → Nat → Int} (_ : nt E ≤ 8) (_ : spOK E (S 40)) (_ : ∀ i, bt (ii (S 5 4)) i = true → i < nt E) (_ : chs (S 39)) (_ : 0 ≤ S 5 3 ∧ S 5 3 ≤ 8) {post : Int32 → hw → Prop} (_ : ∀ S' h', Pic G A B S' h' → (∀ k, k ≠ 39 → S' k = S k) → chs (S' 39) → fst E (bt (ii (S 5 4))) (S 5 3) s (S 39) (S' 39) → post (-1) h') (_ : ∀ (r : Int32) S' h', Pic G A B S' h' → (∀ k, k ≠ 39 → S' k = S k) → chs (S' 39) → (∀ i, i < s → S' 39 i = S 39 i) → (∀ i, bt r i = true → i < s ∧ bt (ii (S 5 4)) i = true) → (∀ p, (∀ i, bt r i = true → p i = S 39 i) → ¬ okp E (bt (ii (S 5 4))) (S 5 3) s p) → post r h'), wp_X5_place G d (A 5) (ii (s : Int)) h post := by
  intro m
  induction m with
  | zero =>
    intro s d hs hd G A B S h P E hn8 hsp hm hp hC post q1 q2
    obtain ⟨d, rfl⟩ : ∃ d', d = d' + 1 := ⟨d - 1, by omega⟩
    have : s = 8 := by omega
    subst this
    unfold wp_X5_place
    rw [il_8, ii_lt ⟨by omega, by omega⟩ ⟨by omega, by omega⟩]
    exact ⟨fun z => absurd z (by omega), fun _ => q1 S h P (fun _ _ => rfl) hp fst_end⟩
  | succ m ihm =>
    intro s d hs hd G A B S h P E hn8 hsp hm hp hC post q1 q2
    obtain ⟨d, rfl⟩ : ∃ d', d = d' + 1 := ⟨d - 1, by omega⟩
    unfold wp_X5_place
    rw [il_8, ii_lt ⟨by omega, by omega⟩ ⟨by omega, by omega⟩]
    refine ⟨fun _ => ?_, fun z => absurd (show (s : Int) < 8 by omega) z⟩
    refine P.rI (k := 5) rfl rfl ?_
    refine isIn_of (i := s) (by omega) rfl ?_
    rw [bI_1, bI_0]
    refine ⟨fun hms => ?_, fun hms => ?_⟩
    · have hsn := hm s hms
      intro J hJ
      have main : ∀ c : Nat, c ≤ (S 5 3).toNat → ∀ (w : Int32) (S' : Nat → Nat → Int) (h' : hw), Pic G A B S' h' → (∀ k, k ≠ 39 → S' k = S k) → chs (S' 39) → (∀ i, i < s → S' 39 i = S 39 i) → (∀ i, bt w i = true → i < s ∧ bt (ii (S 5 4)) i = true) → (∀ (c' : Int) p, 0 ≤ c' → c' < c → (∀ i, bt w i = true → p i = S 39 i) → ¬ (fitp E (bt (ii (S 5 4))) s (up p s c') ∧ okp E (bt (ii (S 5 4))) (S 5 3) (s + 1) (up p s c'))) → J w (ii (c : Int)) h' := by
        intro c hc
        refine lp_up (J := fun c : Nat => ∀ (w : Int32) (S' : Nat → Nat → Int) (h' : hw), Pic G A B S' h' → (∀ k, k ≠ 39 → S' k = S k) → chs (S' 39) → (∀ i, i < s → S' 39 i = S 39 i) → (∀ i, bt w i = true → i < s ∧ bt (ii (S 5 4)) i = true) → (∀ (c' : Int) p, 0 ≤ c' → c' < c → (∀ i, bt w i = true → p i = S 39 i) → ¬ (fitp E (bt (ii (S 5 4))) s (up p s c') ∧ okp E (bt (ii (S 5 4))) (S 5 3) (s + 1) (up p s c'))) → J w (ii (c : Int)) h') (n := (S 5 3).toNat) ?_ ?_ hc
        · intro w S' h' P' e1 e2 e3 e4 e5
          apply hJ
          refine P'.rI (k := 5) rfl rfl ?_
          rw [show S' 5 3 = S 5 3 by rw [e1 5 (by omega)], ii_le ⟨by omega, by omega⟩ ⟨by omega, by omega⟩]
          refine ⟨fun _ => q2 w S' h' P' e1 e2 e3 e4 (fun p hpw hok => ?_), fun z => absurd (show S 5 3 ≤ _ by omega) z⟩
          obtain ⟨c', g1, g2, g3⟩ := okp_step (by omega) hms hok
          exact e5 c' p g1.1 (by omega) hpw ⟨g2, g3⟩
        · intro c hc ih w S' h' P' e1 e2 e3 e4 e5
          have f5 : S' 5 = S 5 := e1 5 (by omega)
          have f40 : S' 40 = S 40 := e1 40 (by omega)
          apply hJ
          refine P'.rI (k := 5) rfl rfl ?_
          rw [show S' 5 3 = S 5 3 by rw [f5], ii_le ⟨by omega, by omega⟩ ⟨by omega, by omega⟩]
          refine ⟨fun z => absurd z (by omega), fun _ => ?_⟩
          refine ⟨P'.o (k := 5) rfl, ?_⟩
          refine P'.lower hn8 (by rw [f40]; exact hsp) (by rw [f5]; exact hm) e2 hsn ⟨by omega, by omega⟩ (fun hfit => ?_) (fun i hi hmi hbr => ?_)
          · intro J2 hJ2
            refine ⟨fun _ => ?_, fun z => absurd rfl z⟩
            rw [f5] at hfit
            refine P'.oput (k := 5) (r := 19) (rk := 39) (i := s) (z := (c : Int)) rfl rfl ⟨by omega, by omega⟩ rfl rfl (show _ < 8 by omega) (fun h2 P2 => ?_)
            rw [ii_inc' s]
            have g39 : su S' 39 s (c : Int) 39 = up (S' 39) s c := su_up _ _ _
            have g5 : su S' 39 s (c : Int) 5 = S 5 := by rw [su_row _ _ (by omega), f5]
            have g40 : su S' 39 s (c : Int) 40 = S 40 := by rw [su_row _ _ (by omega), f40]
            have hp2 : chs (su S' 39 s (c : Int) 39) := by
              intro i
              rw [g39]; unfold up
              split
              · omega
              · exact e2 i
            -- what stood below s stands
            have hup : ∀ i, i < s + 1 → (up (S' 39) s (c : Int)) i = up (S 39) s c i := fun i hi => by
              by_cases z : i = s
              · rw [z, up_at, up_at]
              · rw [up_ne z, up_ne z, e3 i (by omega)]
            have hfit' : fitp E (bt (ii (S 5 4))) s (up (S 39) s c) := fitp_of (fun i hi _ => hup i (by omega)) hfit
            refine ihm (s + 1) d (by omega) (by omega) P2 hn8 (by rw [g40]; exact hsp) (by rw [g5]; exact hm) hp2 (by rw [g5]; exact hC) (fun S3 h3 P3 k1 k2 k3 => ?_) (fun r S3 h3 P3 k1 k2 k3 k4 k5 => ?_)
            · refine ⟨fun _ => ?_, fun z => absurd rfl z⟩
              rw [g39, g5] at k3
              refine q1 S3 h3 P3 (fun k hk => by rw [k1 k hk, su_row _ _ hk, e1 k hk]) k2 ?_
              have k3' : fst E (bt (ii (S 5 4))) (S 5 3) (s + 1) (up (S 39) s c) (S3 39) := ⟨fun i hi => by rw [k3.1 i hi, hup i hi], k3.2⟩
              exact fst_cons ⟨by omega, by omega⟩ hfit' k3' (fun c' c0 c1 => e5 c' (S 39) c0 c1 (fun _ _ => rfl))
            · rw [g5] at k4 k5
              rw [g39] at k3 k5
              have hr : r ≠ -1 := fun z => by
                have := (k4 31 (by rw [z]; exact b_m1 31 (by omega))).1
                omega
              refine ⟨fun z => absurd z hr, fun _ => ?_⟩
              refine isIn_of (i := s) (by omega) rfl ?_
              rw [bI_1, bI_0]
              refine ⟨fun hrs => ?_, fun hrs => ?_⟩
              · apply hJ2
                rw [ii_inc']
                have hb : ∀ i, bt (w ||| (r &&& (((1 : Int32) <<< (ii (s : Int) &&& 31)) ^^^ (-1)))) i = true ↔ (bt w i = true ∨ (bt r i = true ∧ i ≠ s)) := by
                  intro i
                  rw [b_or, b_and, b_xor, b_bit (by omega)]
                  by_cases hi : i < 32
                  · rw [b_m1 i hi]
                    by_cases z : s = i
                    · subst z; simp
                    · simp [z, Ne.symm z]
                  · rw [b_big (x := r) (by omega), b_big (x := w) (by omega)]; simp
                refine ih _ S3 h3 P3 (fun k hk => by rw [k1 k hk, su_row _ _ hk, e1 k hk]) k2 (fun i hi => by rw [k3 i (by omega), hup i (by omega), up_ne (by omega)]) (fun i hi => ?_) (fun c' p c0 c1 hpw hh => ?_)
                · rcases (hb i).mp hi with z | z
                  · exact e4 i z
                  · have := k4 i z.1
                    exact ⟨by omega, this.2⟩
                · by_cases z : c' < (c : Int)
                  · exact e5 c' p c0 z (fun i hi => hpw i ((hb i).mpr (Or.inl hi))) hh
                  · have z : c' = (c : Int) := by omega
                    subst z
                    refine k5 (up p s c) (fun i hi => ?_) hh.2
                    by_cases y : i = s
                    · rw [y, up_at, up_at]
                    · rw [up_ne y, up_ne y, hpw i ((hb i).mpr (Or.inr ⟨hi, y⟩)), e3 i (by have := (k4 i hi).1; omega)]
              · refine q2 r S3 h3 P3 (fun k hk => by rw [k1 k hk, su_row _ _ hk, e1 k hk]) k2 (fun i hi => by rw [k3 i (by omega), hup i (by omega), up_ne (by omega)]) (fun i hi => ?_) (fun p hpw hok => ?_)
                · have := k4 i hi
                  refine ⟨?_, this.2⟩
                  have : i ≠ s := fun z => by rw [z, hrs] at hi; cases hi
                  omega
                · obtain ⟨c', g1, g2, g3⟩ := okp_step (by omega) hms hok
                  refine k5 (up p s c') (fun i hi => ?_) g3
                  have y : i ≠ s := fun z => by rw [z, hrs] at hi; cases hi
                  rw [up_ne y, up_ne y, hpw i hi, e3 i (by have := (k4 i hi).1; omega)]
          · intro J2 hJ2
            have hne : ¬ ii (i : Int) = -1 := by rw [il_m1, ii_eq ⟨by omega, by omega⟩ ⟨by omega, by omega⟩]; omega
            refine ⟨fun z => absurd z hne, fun _ => ?_⟩
            apply hJ2
            rw [ii_inc']
            have hb : ∀ k, bt (w ||| ((1 : Int32) <<< (ii (i : Int) &&& 31))) k = true ↔ (bt w k = true ∨ k = i) := by
              intro k
              rw [b_or, b_bit (by omega)]
              by_cases z : i = k
              · simp [z]
              · simp [z, Ne.symm z]
            rw [f5] at hmi
            refine ih _ S' h' P' e1 e2 e3 (fun k hk => ?_) (fun c' p c0 c1 hpw hh => ?_)
            · rcases (hb k).mp hk with z | z
              · exact e4 k z
              · rw [z]; exact ⟨hi, hmi⟩
            · by_cases z : c' < (c : Int)
              · exact e5 c' p c0 z (fun k hk => hpw k ((hb k).mpr (Or.inl hk))) hh
              · have z : c' = (c : Int) := by omega
                subst z
                have := hh.1 i hi hmi
                rw [up_at, up_ne (by omega), hpw i ((hb i).mpr (Or.inr rfl)), ← e3 i hi, hbr] at this
                cases this
      exact main 0 (by omega) 0 S h P (fun _ _ => rfl) hp (fun _ _ => rfl) (fun i hi => by rw [b_0] at hi; cases hi) (fun c' p c0 c1 => by omega)
    · rw [ii_inc']
      refine ihm (s + 1) d (by omega) (by omega) P hn8 hsp hm hp hC (fun S3 h3 P3 k1 k2 k3 => q1 S3 h3 P3 k1 k2 (fst_skip hms k3)) (fun r S3 h3 P3 k1 k2 k3 k4 k5 => ?_)
      refine q2 r S3 h3 P3 k1 k2 (fun i hi => k3 i (by omega)) (fun i hi => ?_) (fun p hpw hok => k5 p hpw (okp_skip hms hok))
      have := k4 i hi
      refine ⟨?_, this.2⟩
      have : i ≠ s := fun z => by rw [z, hms] at this; exact absurd this.2 (by decide)
      omega
end CP
