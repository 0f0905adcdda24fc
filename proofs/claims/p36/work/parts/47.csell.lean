/-! the class: packings of sets with a memory; selling -/
noncomputable def okb (E : Nat → Nat → Int) (C : Int) (m : Nat → Bool) : Bool := @decide (okp E m C 0 (fun _ => -1)) (Classical.propDecidable _)
theorem okb_t {E : Nat → Nat → Int} {C : Int} {m : Nat → Bool} : okb E C m = true ↔ okp E m C 0 (fun _ => -1) := by unfold okb; exact @decide_eq_true_iff _ (Classical.propDecidable _)
theorem okb_f {E : Nat → Nat → Int} {C : Int} {m : Nat → Bool} : okb E C m = false ↔ ¬ okp E m C 0 (fun _ => -1) := by rw [← okb_t]; cases okb E C m <;> simp
theorem okp_m {E : Nat → Nat → Int} {C : Int} {m m' : Nat → Bool} {s : Nat} {p : Nat → Int} (h : ∀ i, i < 8 → m i = m' i) (q : okp E m C s p) : okp E m' C s p := by
  obtain ⟨p', h1, h2⟩ := q
  refine ⟨p', h1, fun t ht ht8 hm => ?_⟩
  obtain ⟨g1, g2⟩ := h2 t ht ht8 (by rw [h t ht8]; exact hm)
  exact ⟨g1, fun k hk hmk => g2 k hk (by rw [h k (by omega)]; exact hmk)⟩
theorem okb_m {E : Nat → Nat → Int} {C : Int} {m m' : Nat → Bool} (h : ∀ i, i < 8 → m i = m' i) : okb E C m = okb E C m' := by
  cases e : okb E C m' with
  | true => exact okb_t.mpr (okp_m (fun i hi => (h i hi).symm) (okb_t.mp e))
  | false => exact okb_f.mpr (fun z => okb_f.mp e (okp_m h z))
/-- the packer's memory -/
def MK (E : Nat → Nat → Int) (C : Int) (w : Nat → Int) : Prop := ∀ x : Int32, (∀ i, 8 ≤ i → bt x i = false) → w x.toBitVec.toNat = 0 ∨ (w x.toBitVec.toNat = 1 ∧ okb E C (bt x) = true) ∨ (w x.toBitVec.toNat = 2 ∧ okb E C (bt x) = false)
/-- the packer is ready for the land E and C channels -/
def PR (S : Nat → Nat → Int) (E : Nat → Nat → Int) (C : Int) : Prop := nt E ≤ 8 ∧ spOK E (S 40) ∧ S 5 3 = C ∧ (0 ≤ C ∧ C ≤ 8) ∧ MK E C (S 41) ∧ chs (S 39)
theorem PR.of {S S' : Nat → Nat → Int} {E : Nat → Nat → Int} {C : Int} (hR : PR S E C) (h5 : S' 5 3 = S 5 3) (h40 : S' 40 = S 40) (h41 : S' 41 = S 41) (h39 : S' 39 = S 39) : PR S' E C := ⟨hR.1, by rw [h40]; exact hR.2.1, by rw [h5]; exact hR.2.2.1, hR.2.2.2.1, by rw [h41]; exact hR.2.2.2.2.1, by rw [h39]; exact hR.2.2.2.2.2⟩
theorem MK_0 {E : Nat → Nat → Int} {C : Int} {w : Nat → Int} (hw : ∀ i, i < 256 → w i = 0) : MK E C w := fun x hx => Or.inl (hw _ (b_lt256 hx).2)
section CF
variable {G : Gx} {A : Nat → Nat} {B : Nat → Nat → Nat} {S : Nat → Nat → Int} {h : hw}
theorem Pic.findFirst (P : Pic G A B S h) {E : Nat → Nat → Int} {C : Int} (hR : PR S E C) {x : Int32} (hx : ∀ i, bt x i = true → i < nt E) {post : Int32 → hw → Prop} (q1 : ∀ S' h', Pic G A B S' h' → (∀ k, k ≠ 5 → k ≠ 39 → S' k = S k) → PR S' E C → fst E (bt x) C 0 (fun _ => -1) (S' 39) → post 1 h') (q0 : ∀ S' h', Pic G A B S' h' → (∀ k, k ≠ 5 → k ≠ 39 → S' k = S k) → PR S' E C → ¬ okp E (bt x) C 0 (fun _ => -1) → post 0 h') : wp_X5_findFirst G (A 5) x h post := by
  obtain ⟨r1, r2, r3, r4, r5, r6⟩ := hR
  refine P.wF (k := 5) (z := x.toInt) ⟨by decide, by decide, by decide, by decide⟩ rfl (show 4 < 5 by decide) (congrArg (fun v => some (Sum.inr (5, [Value.ref (A 19), Value.ref (A 20), Value.ref (A 21), Value.int (ii (S 5 3)), Value.int v]))) (ii_of x)) (fun h1 P1 => ?_)
  refine P1.ofill (k := 5) (r := 19) (rk := 39) (z := -1) rfl rfl ⟨by omega, by omega⟩ il_m1 (fun h2 P2 => ?_)
  obtain ⟨S2, hS2⟩ : ∃ S2, S2 = sf (su S 5 4 x.toInt) 39 (rl 19) (fun _ => -1) := ⟨_, rfl⟩
  rw [← hS2] at P2
  have e54 : ii (S2 5 4) = x := by rw [hS2, sf_ne (by omega), su_at, ii_of]
  have e53 : S2 5 3 = C := by rw [hS2, sf_ne (by omega), su_nei _ _ _ (by omega), r3]
  have ek : ∀ k, k ≠ 5 → k ≠ 39 → S2 k = S k := fun k k1 k2 => by rw [hS2, sf_ne k2, su_row _ _ k1]
  have e39 : chs (S2 39) := fun i => by
    rw [hS2]; unfold sf
    by_cases c : i < rl 19
    · rw [if_pos ⟨rfl, c⟩]; show (-1 : Int) ≤ -1 ∧ (-1 : Int) ≤ 7; omega
    · rw [if_neg (fun z => c z.2), su_row _ _ (by omega)]; exact r6 i
  have pr : ∀ S' : Nat → Nat → Int, (∀ k, k ≠ 39 → S' k = S2 k) → chs (S' 39) → (∀ k, k ≠ 5 → k ≠ 39 → S' k = S k) ∧ PR S' E C := fun S' k1 k2 => by
    have w : ∀ k, k ≠ 5 → k ≠ 39 → S' k = S k := fun k z1 z2 => by rw [k1 k z2, ek k z1 z2]
    exact ⟨w, r1, by rw [w 40 (by omega) (by omega)]; exact r2, by rw [k1 5 (by omega), e53], r4, by rw [w 41 (by omega) (by omega)]; exact r5, k2⟩
  refine P2.place 8 0 10 (by omega) (by omega) (E := E) r1 (by rw [ek 40 (by omega) (by omega)]; exact r2) (by rw [e54]; exact hx) e39 (by rw [e53]; exact r4) (fun S' h' P' k1 k2 k3 => ?_) (fun r S' h' P' k1 k2 k3 k4 k5 => ?_)
  · rw [e54, e53] at k3
    obtain ⟨w1, w2⟩ := pr S' k1 k2
    exact ⟨fun z => absurd rfl z, fun _ => q1 S' h' P' w1 w2 ⟨fun i hi => by omega, k3.2⟩⟩
  · rw [e54, e53] at k5
    obtain ⟨w1, w2⟩ := pr S' k1 k2
    have hr : r ≠ -1 := fun z => by
      have := (k4 31 (by rw [z]; exact b_m1 31 (by omega))).1
      omega
    refine ⟨fun _ => q0 S' h' P' w1 w2 (k5 _ (fun i hi => ?_)), fun z => absurd z hr⟩
    have := (k4 i hi).1
    omega
theorem Pic.fits (P : Pic G A B S h) {E : Nat → Nat → Int} {C : Int} (hR : PR S E C) {x : Int32} (hx : ∀ i, bt x i = true → i < nt E) {post : Int32 → hw → Prop} (q : ∀ S' h', Pic G A B S' h' → (∀ k, k ≠ 5 → k ≠ 39 → k ≠ 41 → S' k = S k) → PR S' E C → post (ii (bI (okb E C (bt x)))) h') : wp_X5_fits G (A 5) x h post := by
  have hR0 := hR
  obtain ⟨r1, r2, r3, r4, r5, r6⟩ := hR
  have hx8 : ∀ i, 8 ≤ i → bt x i = false := fun i hi => by
    cases e : bt x i with
    | false => rfl
    | true => have := hx i e; omega
  obtain ⟨x1, x2⟩ := b_lt256 hx8
  obtain ⟨z, hz⟩ : ∃ z, z = x.toBitVec.toNat := ⟨_, rfl⟩
  rw [← hz] at x1 x2
  have hm := r5 x hx8
  rw [← hz] at hm
  refine P.oat (k := 5) (r := 21) (rk := 41) (i := z) rfl rfl ⟨by omega, by omega⟩ x1 (show _ < 256 by omega) ?_
  intro J hJ
  -- the answer, out of the memory
  have fin : ∀ (S' : Nat → Nat → Int) (h' : hw), Pic G A B S' h' → (∀ k, k ≠ 5 → k ≠ 39 → k ≠ 41 → S' k = S k) → PR S' E C → S' 41 z ≠ 0 → J h' := by
    intro S' h' P' k1 k2 k3
    apply hJ
    refine P'.oat (k := 5) (r := 21) (rk := 41) (i := z) rfl rfl ⟨by omega, by omega⟩ x1 (show _ < 256 by omega) ?_
    have q := q S' h' P' k1 k2
    have hm' := k2.2.2.2.2.1 x hx8
    rw [← hz] at hm'
    rcases hm' with m | ⟨m1, m2⟩ | ⟨m1, m2⟩
    · exact absurd m k3
    · rw [m2] at q
      rw [m1]
      exact ⟨fun c => absurd rfl c, fun _ => q⟩
    · rw [m2] at q
      rw [m1]
      exact ⟨fun _ => q, fun c => absurd c (by decide)⟩
  -- a memory with one more
  have wr : ∀ (v : Int) (S' : Nat → Nat → Int), PR S' E C → ((v = 1 ∧ okb E C (bt x) = true) ∨ (v = 2 ∧ okb E C (bt x) = false)) → PR (su S' 41 z v) E C := by
    intro v S' k2 hv
    obtain ⟨g1, g2, g3, g4, g5, g6⟩ := k2
    refine ⟨g1, by rw [su_row _ _ (by omega)]; exact g2, by rw [su_ne _ _ _ (by omega)]; exact g3, g4, fun y hy => ?_, by rw [su_row _ _ (by omega)]; exact g6⟩
    by_cases c : y.toBitVec.toNat = z
    · have : y = x := by rw [(b_lt256 hy).1, c]; exact x1.symm
      subst this
      rw [c, su_at]
      rcases hv with ⟨rfl, w⟩ | ⟨rfl, w⟩
      · exact Or.inr (Or.inl ⟨rfl, w⟩)
      · exact Or.inr (Or.inr ⟨rfl, w⟩)
    · rw [su_nei _ _ _ c]; exact g5 y hy
  have hrg : -1 ≤ S 41 z ∧ S 41 z ≤ 7 := by rcases hm with m | ⟨m, -⟩ | ⟨m, -⟩ <;> omega
  rw [il_0, ii_eq ⟨by omega, by omega⟩ ⟨by decide, by decide⟩]
  refine ⟨fun c => fin S h P (fun _ _ _ _ => rfl) hR0 c, fun c => ?_⟩
  refine P.rR (k := 5) rfl rfl ?_
  refine ⟨P.o (k := 5) rfl, ?_⟩
  refine P.findFirst hR0 hx (fun S' h' P' k1 k2 k3 => ?_) (fun S' h' P' k1 k2 k3 => ?_)
  · intro J29 hJ29
    refine ⟨fun w => absurd w (by decide), fun _ => ?_⟩
    apply hJ29
    refine ⟨P'.o (k := 21) rfl, ?_⟩
    refine P'.put (k := 21) (rk := 41) (i := z) (z := 1) (by omega) (by omega) x1 il_1 (show _ < 256 by omega) (fun h2 P2 => ?_)
    exact fin _ h2 P2 (fun k z1 z2 z3 => by rw [su_row _ _ z3, k1 k z1 z2]) (wr 1 S' k2 (Or.inl ⟨rfl, okb_t.mpr (fst_ok k3)⟩)) (by rw [su_at]; omega)
  · intro J29 hJ29
    refine ⟨fun _ => ?_, fun w => absurd rfl w⟩
    apply hJ29
    refine ⟨P'.o (k := 21) rfl, ?_⟩
    refine P'.put (k := 21) (rk := 41) (i := z) (z := 2) (by omega) (by omega) x1 il_2 (show _ < 256 by omega) (fun h2 P2 => ?_)
    exact fin _ h2 P2 (fun k z1 z2 z3 => by rw [su_row _ _ z3, k1 k z1 z2]) (wr 2 S' k2 (Or.inr ⟨rfl, okb_f.mpr k3⟩)) (by rw [su_at]; omega)
end CF
/-! a selling, by who stays, who is still in, what was paid -/
abbrev Sst : Type := (Nat → Bool) × (Nat → Bool) × (Nat → Int)
def bu (f : Nat → Bool) (i : Nat) (v : Bool) : Nat → Bool := fun j => if j = i then v else f j
theorem bu_at {f : Nat → Bool} {i : Nat} {v : Bool} : bu f i v i = v := if_pos rfl
theorem bu_ne {f : Nat → Bool} {i j : Nat} {v : Bool} (h : j ≠ i) : bu f i v j = f j := if_neg h
noncomputable def sstep (E : Nat → Nat → Int) (C : Int) (asks : Nat → Int) (at_ nx : Int) (k : Nat) (q : Sst) : Sst :=
  if q.2.1 k = true then (if okb E C (bu q.1 k true) = true then (if nx < asks k then (bu q.1 k true, bu q.2.1 k false, q.2.2) else q) else (q.1, bu q.2.1 k false, up q.2.2 k at_)) else q
noncomputable def srnd (E : Nat → Nat → Int) (C : Int) (asks : Nat → Int) (at_ nx : Int) (q : Sst) : Nat → Sst
  | 0 => q
  | k + 1 => sstep E C asks at_ nx k (srnd E C asks at_ nx q k)
def anyb (f : Nat → Bool) : Nat → Bool
  | 0 => false
  | n + 1 => anyb f n || f n
theorem anyb_t {f : Nat → Bool} {n : Nat} : anyb f n = true ↔ ∃ i, i < n ∧ f i = true := by
  induction n with
  | zero => exact ⟨(fun z => by cases z), (fun ⟨i, hi, _⟩ => by omega)⟩
  | succ n ih =>
    unfold anyb
    rw [Bool.or_eq_true, ih]
    constructor
    · rintro (⟨i, hi, hf⟩ | hf)
      · exact ⟨i, by omega, hf⟩
      · exact ⟨n, by omega, hf⟩
    · rintro ⟨i, hi, hf⟩
      by_cases c : i = n
      · rw [c] at hf; exact Or.inr hf
      · exact Or.inl ⟨i, by omega, hf⟩
noncomputable def srun (E : Nat → Nat → Int) (C : Int) (asks : Nat → Int) (stp : Int) (n : Nat) : Nat → Sst → Int → Int → Sst × Int × Int
  | 0, q, at_, c => (q, at_, c)
  | f + 1, q, at_, c => if (anyb q.2.1 n && decide (stp ≤ at_)) = true then srun E C asks stp n f (srnd E C asks at_ (at_ - stp) q n) (at_ - stp) (c + 1) else (q, at_, c)
section SM
variable {E : Nat → Nat → Int} {C : Int} {asks : Nat → Int} {at_ nx : Int}
theorem srnd_si (q : Sst) (i k : Nat) (hk : i ≤ k) : (srnd E C asks at_ nx q i).2.1 k = q.2.1 k := by
  induction i with
  | zero => rfl
  | succ i ih =>
    have ih := ih (by omega)
    unfold srnd sstep
    split
    · split
      · split
        · show bu _ i false k = _
          rw [bu_ne (by omega)]; exact ih
        · exact ih
      · show bu _ i false k = _
        rw [bu_ne (by omega)]; exact ih
    · exact ih
/-- who is still in behind a round asks for no more than the next price -/
theorem srnd_nx (q : Sst) (i : Nat) : ∀ k, k < i → (srnd E C asks at_ nx q i).2.1 k = true → asks k ≤ nx := by
  induction i with
  | zero => intro k hk; omega
  | succ i ih =>
    intro k hk
    unfold srnd sstep
    by_cases c : k = i
    · subst c
      split
      · split
        · split
          · show bu _ k false k = true → _
            rw [bu_at]; intro z; cases z
          · intro _; omega
        · show bu _ k false k = true → _
          rw [bu_at]; intro z; cases z
      · rename_i z; intro w; exact absurd w z
    · have ih := ih k (by omega)
      split
      · split
        · split
          · show bu _ i false k = true → _
            rw [bu_ne c]; exact ih
          · exact ih
        · show bu _ i false k = true → _
          rw [bu_ne c]; exact ih
      · exact ih
end SM
/-- a selling's state, in the class's cells -/
def SR (S : Nat → Nat → Int) (x : Int32) (q : Sst) : Prop := (∀ j, bt (ii (S 6 3)) j = q.1 j) ∧ (∀ j, bt x j = q.2.1 j) ∧ ∀ j, j < 8 → S 42 j = q.2.2 j
/-- nobody is paid less than he asked then -/
def FA (S : Nat → Nat → Int) : Prop := ∀ j, j < 8 → (0 ≤ S 43 j ∧ S 43 j ≤ 9999) ∧ (S 42 j ≠ -1 → S 43 j ≤ S 42 j)
section CS
variable {G : Gx} {A : Nat → Nat} {B : Nat → Nat → Nat} {S : Nat → Nat → Int} {h : hw}
theorem Pic.take (P : Pic G A B S h) (hK : KI S) {k : Nat} (hk : (k : Int) < S 51 2) {pr : Int} {x : Int32} (hx : x = ii pr) {post : hw → Prop} (q : ∀ h', Pic G A B (su (su S 42 k pr) 43 k (S (70 + k) 5)) h' → post h') : wp_X8_take G (A 6) (A (70 + k)) x h post := by
  have h8 := hK.1.1.2.2.1
  have num := (hK.ends hk).2.2.2.2.1
  have kj := ctn_st (G := G) (A := A) (B := B) hk (by omega)
  refine P.rR (k := 6) rfl rfl ?_
  refine P.rI kj rfl ?_
  refine ⟨P.o (k := 22) rfl, ?_⟩
  refine P.put (k := 22) (rk := 42) (i := k) (z := pr) (by omega) (by omega) (by rw [num]) hx (show _ < 8 by omega) (fun h1 P1 => ?_)
  have kj1 := ctn_st (G := G) (A := A) (B := B) (S := su S 42 k pr) (j := k) (by rw [su_ne _ _ _ (by omega)]; exact hk) (by rw [su_ne _ _ _ (by omega)]; omega)
  refine P1.rR (k := 6) rfl rfl ?_
  refine P1.rI kj1 rfl ?_
  refine P1.rI kj1 rfl ?_
  refine ⟨P1.o (k := 23) rfl, ?_⟩
  refine P1.put (k := 23) (rk := 43) (i := k) (z := S (70 + k) 5) (by omega) (by omega) (by rw [su_ne _ _ _ (by omega), num]) (by rw [su_ne _ _ _ (by omega)]) (show _ < 8 by omega) (fun h2 P2 => q h2 P2)
/-- the keys that a selling writes -/
def ks (k : Nat) : Prop := k = 5 ∨ k = 6 ∨ k = 39 ∨ k = 41 ∨ k = 42 ∨ k = 43
theorem ks_K {S S' : Nat → Nat → Int} (h : ∀ k, ¬ ks k → S' k = S k) (hK : KI S) : KI S' ∧ EC S' = EC S ∧ S' 51 2 = S 51 2 ∧ ∀ j, j < 10 → S' (70 + j) = S (70 + j) := by
  have e2 : ∀ k, kl k → S' k = S k := fun k hk => h k (fun z => by rcases z with z | z | z | z | z | z <;> subst z <;> rcases hk with z | z | z <;> omega)
  have nk : ∀ k, (k ≠ 5 ∧ k ≠ 6 ∧ k ≠ 39 ∧ k ≠ 41 ∧ k ≠ 42 ∧ k ≠ 43) → ¬ ks k := fun k q z => by rcases z with z | z | z | z | z | z <;> omega
  exact ⟨hK.of e2 (h 31 (nk 31 (by omega))), EC_of e2, by rw [h 51 (nk 51 (by omega))], fun j hj => h _ (nk _ (by omega))⟩
theorem bt_andn {x : Int32} {k : Nat} (hk : k < 32) (j : Nat) : bt (x &&& (((1 : Int32) <<< (ii (k : Int) &&& 31)) ^^^ (-1))) j = (if j = k then false else bt x j) := by
  rw [b_and, b_xor, b_bit hk]
  by_cases hj : j < 32
  · rw [b_m1 j hj]
    by_cases z : k = j
    · subst z; simp
    · simp [z, Ne.symm z]
  · rw [b_big (x := x) (by omega)]; simp
theorem bt_or1 {x : Int32} {k : Nat} (hk : k < 32) (j : Nat) : bt (x ||| ((1 : Int32) <<< (ii (k : Int) &&& 31))) j = (if j = k then true else bt x j) := by
  rw [b_or, b_bit hk]
  by_cases z : k = j
  · subst z; simp
  · simp [z, Ne.symm z]
theorem Pic.holdRound (P : Pic G A B S h) (hK : KI S) {C : Int} (hR : PR S (EC S) C) {at_ nx : Int} (hat : 0 ≤ at_ ∧ at_ ≤ 9999) (hnx : 0 ≤ nx ∧ nx ≤ 9999) {x : Int32} {q0 : Sst} (hq : SR S x q0) (hst : ∀ j, q0.1 j = true → j < nt (EC S)) (hsi : ∀ j, q0.2.1 j = true → j < nt (EC S)) (has : ∀ j, j < 8 → 0 ≤ S (70 + j) 5 ∧ S (70 + j) 5 ≤ 9999) (hle : ∀ j, q0.2.1 j = true → S (70 + j) 5 ≤ at_) (hf : FA S) {post : Int32 → hw → Prop} (q : ∀ S' h' x', Pic G A B S' h' → (∀ k, ¬ ks k → S' k = S k) → (∀ i, i ≠ 3 → S' 6 i = S 6 i) → PR S' (EC S) C → SR S' x' (srnd (EC S) C (fun j => S (70 + j) 5) at_ nx q0 (nt (EC S))) → (∀ j, (srnd (EC S) C (fun j => S (70 + j) 5) at_ nx q0 (nt (EC S))).1 j = true → j < nt (EC S)) → (∀ j, (srnd (EC S) C (fun j => S (70 + j) 5) at_ nx q0 (nt (EC S))).2.1 j = true → j < nt (EC S)) → FA S' → post x' h') : wp_X8_holdRound G (A 6) (A 1) (A 5) x (ii at_) (ii nx) h post := by
  obtain ⟨h8, hn⟩ := nt8 hK
  intro J hJ
  have main : ∀ i : Nat, i ≤ nt (EC S) → ∀ (S' : Nat → Nat → Int) (h' : hw) (x' : Int32), Pic G A B S' h' → (∀ k, ¬ ks k → S' k = S k) → (∀ i, i ≠ 3 → S' 6 i = S 6 i) → PR S' (EC S) C → SR S' x' (srnd (EC S) C (fun j => S (70 + j) 5) at_ nx q0 i) → (∀ j, (srnd (EC S) C (fun j => S (70 + j) 5) at_ nx q0 i).1 j = true → j < nt (EC S)) → (∀ j, (srnd (EC S) C (fun j => S (70 + j) 5) at_ nx q0 i).2.1 j = true → j < nt (EC S)) → FA S' → J x' (ii (i : Int)) h' := by
    intro i hi
    refine lp_up (J := fun i : Nat => ∀ (S' : Nat → Nat → Int) (h' : hw) (x' : Int32), Pic G A B S' h' → (∀ k, ¬ ks k → S' k = S k) → (∀ i, i ≠ 3 → S' 6 i = S 6 i) → PR S' (EC S) C → SR S' x' (srnd (EC S) C (fun j => S (70 + j) 5) at_ nx q0 i) → (∀ j, (srnd (EC S) C (fun j => S (70 + j) 5) at_ nx q0 i).1 j = true → j < nt (EC S)) → (∀ j, (srnd (EC S) C (fun j => S (70 + j) 5) at_ nx q0 i).2.1 j = true → j < nt (EC S)) → FA S' → J x' (ii (i : Int)) h') (n := nt (EC S)) ?_ ?_ hi
    · intro S' h' x' P' k1 k2 k3 k4 k5 k6 k7
      obtain ⟨hK', eE, e51, e7⟩ := ks_K k1 hK
      apply hJ
      refine P'.nT ?_
      rw [e51, hn, ii_le ⟨by omega, by omega⟩ ⟨by omega, by omega⟩]
      exact ⟨fun _ => q S' h' x' P' k1 k2 k3 k4 k5 k6 k7, fun z => absurd (Int.le_refl _) z⟩
    · intro i hi ih S' h' x' P' k1 k2 k3 k4 k5 k6 k7
      obtain ⟨hK', eE, e51, e7⟩ := ks_K k1 hK
      have ki := ctn_st (G := G) (A := A) (B := B) (j := i) (S := S') (by omega) (by omega)
      apply hJ
      refine P'.nT ?_
      rw [e51, hn, ii_le ⟨by omega, by omega⟩ ⟨by omega, by omega⟩]
      refine ⟨fun z => absurd z (by omega), fun _ => ?_⟩
      refine isIn_of (i := i) (by omega) rfl ?_
      intro J2 hJ2
      have eb : bt x i = (srnd (EC S) C (fun j => S (70 + j) 5) at_ nx q0 i).2.1 i := by rw [srnd_si _ i i (by omega)]; exact hq.2.1 i
      obtain ⟨Q, hQ⟩ : ∃ Q, Q = srnd (EC S) C (fun j => S (70 + j) 5) at_ nx q0 i := ⟨_, rfl⟩
      have es : srnd (EC S) C (fun j => S (70 + j) 5) at_ nx q0 (i + 1) = sstep (EC S) C (fun j => S (70 + j) 5) at_ nx i Q := by rw [hQ]; rfl
      rw [← hQ] at k4 k5 k6 eb
      rw [es] at ih
      unfold sstep at ih
      rw [bI_1, bI_0, eb]
      refine ⟨fun c => ?_, fun c => ?_⟩
      · rw [if_pos c] at ih
        refine P'.gT hK'.1.1 rfl (by omega) ?_
        refine P'.rI (k := 6) rfl rfl ?_
        refine ⟨P'.o (k := 5) rfl, ?_⟩
        have hbits : ∀ j, bt (ii (S' 6 3) ||| ((1 : Int32) <<< (ii (i : Int) &&& 31))) j = bu Q.1 i true j := fun j => by
          rw [bt_or1 (by omega)]; unfold bu; rw [k4.1 j]
        refine P'.fits k3 (fun j hj => ?_) (fun S2 h2 P2 m1 m2 => ?_)
        · rw [hbits j] at hj
          unfold bu at hj
          by_cases y : j = i
          · omega
          · rw [if_neg y] at hj; exact k5 j hj
        have hok : okb (EC S) C (bt (ii (S' 6 3) ||| ((1 : Int32) <<< (ii (i : Int) &&& 31)))) = okb (EC S) C (bu Q.1 i true) := okb_m (fun j _ => hbits j)
        have k1' : ∀ k, ¬ ks k → S2 k = S k := fun k hk => by rw [m1 k (fun z => hk (Or.inl z)) (fun z => hk (Or.inr (Or.inr (Or.inl z)))) (fun z => hk (Or.inr (Or.inr (Or.inr (Or.inl z))))), k1 k hk]
        obtain ⟨hK2, eE2, e51', e72⟩ := ks_K k1' hK
        have f6 : S2 6 = S' 6 := m1 6 (by omega) (by omega) (by omega)
        have f42 : S2 42 = S' 42 := m1 42 (by omega) (by omega) (by omega)
        have f43 : S2 43 = S' 43 := m1 43 (by omega) (by omega) (by omega)
        have ki2 := ctn_st (G := G) (A := A) (B := B) (j := i) (S := S2) (by omega) (by omega)
        have ask := has i (by omega)
        have hx2 : ∀ j, bt (x' &&& (((1 : Int32) <<< (ii (i : Int) &&& 31)) ^^^ (-1))) j = bu Q.2.1 i false j := fun j => by
          rw [bt_andn (by omega)]; unfold bu; rw [k4.2.1 j]
        rw [hok, bI_1, bI_0]
        refine ⟨fun c2 => ?_, fun c2 => ?_⟩
        · rw [if_pos c2] at ih
          refine P2.rI ki2 rfl ?_
          rw [e72 i (by omega), ii_le ⟨by omega, by omega⟩ ⟨by omega, by omega⟩]
          refine ⟨fun c3 => ?_, fun c3 => ?_⟩
          · rw [if_neg (show ¬ nx < (fun j => S (70 + j) 5) i from (show ¬ nx < S (70 + i) 5 by omega))] at ih
            apply hJ2
            rw [ii_inc']
            exact ih S2 h2 x' P2 k1' (fun j hj => by rw [f6]; exact k2 j hj) m2 ⟨by rw [f6]; exact k4.1, k4.2.1, by rw [f42]; exact k4.2.2⟩ k5 k6 (by unfold FA; rw [f42, f43]; exact k7)
          · rw [if_pos (show nx < (fun j => S (70 + j) 5) i from (show nx < S (70 + i) 5 by omega))] at ih
            refine P2.rI (k := 6) rfl rfl ?_
            refine P2.wF (k := 6) (z := (ii (S2 6 3) ||| ((1 : Int32) <<< (ii (i : Int) &&& 31))).toInt) ⟨by decide, by decide, by decide, by decide⟩ rfl (show 3 < 6 by decide) (congrArg (fun v => some (Sum.inr (8, [Value.ref (A 22), Value.int (ii (S2 6 1)), Value.int (ii (S2 6 2)), Value.int v, Value.int (ii (S2 6 4)), Value.ref (A 23)]))) (ii_of _)) (fun h3 P3 => ?_)
            apply hJ2
            rw [ii_inc']
            refine ih _ h3 _ P3 (fun k hk => by rw [su_row _ _ (fun z => hk (Or.inr (Or.inl z))), k1' k hk]) (fun j hj => by rw [su_nei _ _ _ hj, f6]; exact k2 j hj) (m2.of (su_ne _ _ _ (by omega)) (su_row _ _ (by omega)) (su_row _ _ (by omega)) (su_row _ _ (by omega))) ⟨fun j => ?_, hx2, fun j hj => ?_⟩ (fun j hj => ?_) (fun j hj => ?_) ?_
            · rw [su_at, ii_of, f6]; exact hbits j
            · rw [su_ne _ _ _ (by omega), f42]; exact k4.2.2 j hj
            · have hj : bu Q.1 i true j = true := hj
              unfold bu at hj
              by_cases y : j = i
              · omega
              · rw [if_neg y] at hj; exact k5 j hj
            · have hj : bu Q.2.1 i false j = true := hj
              unfold bu at hj
              by_cases y : j = i
              · omega
              · rw [if_neg y] at hj; exact k6 j hj
            · unfold FA; rw [su_row _ _ (by omega), su_row _ _ (by omega), f42, f43]; exact k7
        · rw [if_neg (by rw [c2]; decide)] at ih
          refine ⟨P2.o (k := 6) rfl, ?_⟩
          refine P2.take hK2 (by omega) rfl (fun h3 P3 => ?_)
          apply hJ2
          rw [ii_inc']
          refine ih _ h3 _ P3 (fun k hk => by rw [su_row _ _ (fun z => hk (Or.inr (Or.inr (Or.inr (Or.inr (Or.inr z)))))), su_row _ _ (fun z => hk (Or.inr (Or.inr (Or.inr (Or.inr (Or.inl z)))))), k1' k hk]) (fun j hj => by rw [su_ne _ _ _ (by omega), su_ne _ _ _ (by omega), f6]; exact k2 j hj) (m2.of (by rw [su_ne _ _ _ (by omega), su_ne _ _ _ (by omega)]) (by rw [su_row _ _ (by omega), su_row _ _ (by omega)]) (by rw [su_row _ _ (by omega), su_row _ _ (by omega)]) (by rw [su_row _ _ (by omega), su_row _ _ (by omega)])) ⟨fun j => ?_, hx2, fun j hj => ?_⟩ k5 (fun j hj => ?_) ?_
          · rw [su_ne _ _ _ (by omega), su_ne _ _ _ (by omega), f6]; exact k4.1 j
          · rw [su_ne _ _ _ (by omega), su_up]
            show up (S2 42) i at_ j = up Q.2.2 i at_ j
            unfold up
            rw [f42, k4.2.2 j hj]
          · have hj : bu Q.2.1 i false j = true := hj
            unfold bu at hj
            by_cases y : j = i
            · omega
            · rw [if_neg y] at hj; exact k6 j hj
          · intro j hj
            rw [su_row (k := 43) (k' := 42) _ _ (by omega), su_up, su_up, su_row (k := 42) (k' := 43) _ _ (by omega), f42, f43]
            unfold up
            by_cases y : j = i
            · subst y
              rw [if_pos rfl, if_pos rfl, e72 j (by omega)]
              refine ⟨has j hj, fun _ => hle j ?_⟩
              rw [← hq.2.1 j, eb]; exact c
            · rw [if_neg y, if_neg y]; exact k7 j hj
      · rw [if_neg (by rw [c]; decide)] at ih
        apply hJ2
        rw [ii_inc']
        exact ih S' h' x' P' k1 k2 k3 k4 k5 k6 k7
  exact main 0 (by omega) S h x P (fun _ _ => rfl) (fun _ _ => rfl) hR hq hst hsi hf
end CS
