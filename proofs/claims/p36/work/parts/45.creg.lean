/-! the class: sets by bits, the register, the border -/
def bset (x : Int32) (n : Nat) (f : Nat → Bool) : Prop := ∀ j, bt x j = (decide (j < n) && f j)
theorem bset_0 (f : Nat → Bool) : bset (ii 0) 0 f := fun j => by rw [← il_0, b_0]; simp
theorem bset_1 {x : Int32} {n : Nat} {f : Nat → Bool} (hn : n < 32) (h : bset x n f) (hf : f n = true) : bset (x ||| ((1 : Int32) <<< (ii (n : Int) &&& 31))) (n + 1) f := by
  intro j
  rw [b_or, h j, b_bit hn]
  by_cases c : n = j
  · subst c; simp [hf]
  · by_cases c2 : j < n
    · simp [c, c2, show j < n + 1 by omega]
    · simp [c, c2, show ¬ j < n + 1 by omega]
theorem bset_s {x : Int32} {n : Nat} {f : Nat → Bool} (h : bset x n f) (hf : f n = false) : bset x (n + 1) f := by
  intro j
  rw [h j]
  by_cases c : n = j
  · subst c; simp [hf]
  · by_cases c2 : j < n
    · simp [c2, show j < n + 1 by omega]
    · simp [c2, show ¬ j < n + 1 by omega]
theorem bset_eq {x y : Int32} {n : Nat} {f : Nat → Bool} (h : bset x n f) (h2 : bset y n f) : x = y := b_ext fun i _ => by rw [h i, h2 i]
def lkf (dy ch : Nat → Int) (d : Int) : Nat → Int
  | 0 => -1
  | n + 1 => if dy n ≤ d then ch n else lkf dy ch d n
theorem lkf_s {dy ch : Nat → Int} {d : Int} {n : Nat} : lkf dy ch d (n + 1) = if dy n ≤ d then ch n else lkf dy ch d n := rfl
theorem lkf_of {dy dy' ch ch' : Nat → Int} {d : Int} {n : Nat} (h1 : ∀ i, i < n → dy i = dy' i) (h2 : ∀ i, i < n → ch i = ch' i) : lkf dy ch d n = lkf dy' ch' d n := by
  induction n with
  | zero => rfl
  | succ n ih =>
    unfold lkf
    rw [h1 n (by omega), h2 n (by omega), ih (fun i hi => h1 i (by omega)) (fun i hi => h2 i (by omega))]
def up (f : Nat → Int) (i : Nat) (v : Int) : Nat → Int := fun j => if j = i then v else f j
theorem su_up {S : Nat → Nat → Int} (k i : Nat) (v : Int) : su S k i v k = up (S k) i v := by
  funext j
  unfold su up
  by_cases c : j = i <;> simp [c]
theorem up_at {f : Nat → Int} {i : Nat} {v : Int} : up f i v i = v := if_pos rfl
theorem up_ne {f : Nat → Int} {i j : Nat} {v : Int} (h : j ≠ i) : up f i v j = f j := if_neg h
theorem up_self {f : Nat → Int} {i : Nat} {v : Int} (h : f i = v) : up f i v = f := by
  funext j
  unfold up
  by_cases c : j = i
  · rw [if_pos c, c, h]
  · rw [if_neg c]
/-- who is on which channel at a day's end, by the class's register -/
def LC (S : Nat → Nat → Int) (s : Nat) (d : Int) : Int := lkf (fun e => S 34 (s * 256 + e)) (fun e => S 35 (s * 256 + e)) d (S 33 s).toNat
/-- the register, behind c calls -/
def RI (S : Nat → Nat → Int) (c : Nat) : Prop := (∀ s, s < 8 → 0 ≤ S 33 s ∧ 2 * S 33 s ≤ c + 2 ∧ (0 < S 33 s → S 34 (s * 256 + (S 33 s - 1).toNat) < S 3 1 → 2 * S 33 s ≤ c)) ∧ (∀ i, 0 ≤ S 34 i ∧ S 34 i ≤ S 3 1) ∧ (∀ i, -1 ≤ S 35 i ∧ S 35 i ≤ 7) ∧ chs (S 32) ∧ (∀ s, s < 8 → ∀ d, S 3 1 ≤ d → LC S s d = S 32 s) ∧ S 3 1 ≤ 99 * c ∧ (∀ i, 8 ≤ i → S 32 i = 0)
section CR
variable {G : Gx} {A : Nat → Nat} {B : Nat → Nat → Nat} {S : Nat → Nat → Int} {h : hw}
theorem isIn_of {i : Nat} (hi : i < 32) {x y : Int32} (hy : y = ii (i : Int)) {post : Int32 → Prop} (q : post (ii (bI (bt x i)))) : wp_X11_isIn G y x h post := by
  subst hy
  unfold wp_X11_isIn
  rw [b_is hi]
  refine ⟨fun c => ?_, fun c => ?_⟩
  · rw [Bool.eq_false_iff.mpr c] at q; exact q
  · rw [c] at q; exact q
theorem Pic.beyond (P : Pic G A B S h) (hK : KI S) {a : Nat} {x : Int32} (hx : x = ii (a : Int)) (ha : (a : Int) < S 50 2) {post : Int32 → Prop} (q : post (ii (bI (decide (15 ≤ EC S 0 a))))) : wp_X0_isBeyond G (A 1) x h post := by
  have h10 := hK.1.1.1.2.1
  have ka := ctn_si (G := G) (A := A) (B := B) ha h10
  have r := hK.1.2.1.1 a
  have e0 := EC_0 (S := S) (i := a) (by omega)
  subst hx
  intro J hJ
  rw [il_0, ii_lt ⟨by omega, by omega⟩ ⟨by decide, by decide⟩]
  refine ⟨fun c => by omega, fun _ => ?_⟩
  refine P.rR (k := 1) rfl rfl ?_
  refine P.nS ?_
  rw [ii_le ⟨by omega, by omega⟩ ⟨by omega, by omega⟩]
  refine ⟨fun c => by omega, fun _ => ?_⟩
  refine P.rR (k := 1) rfl rfl ?_
  refine P.gS hK.1.1 rfl ha ?_
  refine P.rI ka rfl ?_
  rw [← e0, il_15, ii_lt ⟨by omega, by omega⟩ ⟨by decide, by decide⟩]
  refine ⟨fun c => ?_, fun c => ?_⟩
  · apply hJ
    rw [decide_eq_false (by omega)] at q; exact q
  · rw [decide_eq_true (by omega)] at q; exact q
def nrb (E : Nat → Nat → Int) (j : Nat) : Bool := decide (15 ≤ E 0 (E 4 j).toNat) || decide (15 ≤ E 0 (E 5 j).toNat)
theorem Pic.near (P : Pic G A B S h) (hK : KI S) {j : Nat} (hj : (j : Int) < S 51 2) {post : Int32 → Prop} (q : post (ii (bI (nrb (EC S) j)))) : wp_X0_isNearBorder G (A 1) (A (70 + j)) h post := by
  have h8 := hK.1.1.2.2.1
  have kj := ctn_st (G := G) (A := A) (B := B) hj (by omega)
  obtain ⟨⟨a1, a2, a3⟩, ⟨b1, b2, b3⟩, -⟩ := hK.ends hj
  refine P.rI kj rfl ?_
  refine ⟨P.o (k := 1) rfl, ?_⟩
  refine P.beyond hK (a := (S (70 + j) 1).toNat) (by rw [Int.toNat_of_nonneg a1]) (by omega) ?_
  intro J hJ
  rw [bI_1, bI_0]
  unfold nrb at q
  rw [← a3, ← b3] at q
  refine ⟨fun c => ?_, fun c => ?_⟩
  · apply hJ; rw [c] at q; exact q
  · refine P.rI kj rfl ?_
    refine ⟨P.o (k := 1) rfl, ?_⟩
    refine P.beyond hK (a := (S (70 + j) 2).toNat) (by rw [Int.toNat_of_nonneg b1]) (by omega) ?_
    rw [bI_1, bI_0]
    rw [c, Bool.false_or] at q
    refine ⟨fun c2 => ?_, fun c2 => ?_⟩
    · rw [c2] at q; exact q
    · apply hJ; rw [c2] at q; exact q
theorem Pic.protOnes (P : Pic G A B S h) (hK : KI S) {post : Int32 → Prop} (q : ∀ x, bset x (nt (EC S)) (fun j => decide (EC S 7 j = 1)) → post x) : wp_X0_protectedOnes G (A 1) h post := by
  have h8 := hK.1.1.2.2.1
  have h0 := hK.1.1.2.1
  have hn : S 51 2 = ((nt (EC S) : Nat) : Int) := by show S 51 2 = (((S 51 2).toNat : Nat) : Int); omega
  intro J hJ
  have main : ∀ i : Nat, i ≤ nt (EC S) → ∀ x, bset x i (fun j => decide (EC S 7 j = 1)) → J x (ii (i : Int)) := by
    intro i hi
    refine lp_up (J := fun i : Nat => ∀ x, bset x i (fun j => decide (EC S 7 j = 1)) → J x (ii (i : Int))) (n := nt (EC S)) ?_ ?_ hi
    · intro x hx
      apply hJ
      refine P.nT ?_
      rw [hn, ii_le ⟨by omega, by omega⟩ ⟨by omega, by omega⟩]
      exact ⟨fun _ => q x hx, fun c => absurd (Int.le_refl _) c⟩
    · intro i hi ih x hx
      apply hJ
      refine P.nT ?_
      rw [hn, ii_le ⟨by omega, by omega⟩ ⟨by omega, by omega⟩]
      refine ⟨fun c => absurd c (by omega), fun _ => ?_⟩
      have ki := ctn_st (G := G) (A := A) (B := B) (j := i) (S := S) (by omega) (by omega)
      obtain ⟨-, -, -, e7, -, hi8⟩ := hK.ends (j := i) (by omega)
      refine P.gT hK.1.1 rfl (by omega) ?_
      refine P.rI ki rfl ?_
      have p01 := hK.1.2.1.2.2.2.2.2.2.2.1 i
      intro J2 hJ2
      rw [e7, il_0, ii_eq ⟨by omega, by omega⟩ ⟨by decide, by decide⟩]
      refine ⟨fun c => ?_, fun c => ?_⟩
      · apply hJ2; rw [ii_inc']; exact ih _ (bset_s hx (decide_eq_false (by omega)))
      · apply hJ2; rw [ii_inc']; exact ih _ (bset_1 (by omega) hx (decide_eq_true (by omega)))
  exact main 0 (by omega) _ (bset_0 _)
theorem Pic.asking (P : Pic G A B S h) (hK : KI S) {pr : Int} (hp : rg pr) (ha : ∀ j : Nat, j < 8 → rg (S (70 + j) 5)) {post : Int32 → Prop} (q : ∀ x, bset x (nt (EC S)) (fun j => decide (pr < S (70 + j) 5)) → post x) : wp_X0_askingMoreThan G (A 1) (ii pr) h post := by
  have h8 := hK.1.1.2.2.1
  have h0 := hK.1.1.2.1
  have hn : S 51 2 = ((nt (EC S) : Nat) : Int) := by show S 51 2 = (((S 51 2).toNat : Nat) : Int); omega
  intro J hJ
  have main : ∀ i : Nat, i ≤ nt (EC S) → ∀ x, bset x i (fun j => decide (pr < S (70 + j) 5)) → J x (ii (i : Int)) := by
    intro i hi
    refine lp_up (J := fun i : Nat => ∀ x, bset x i (fun j => decide (pr < S (70 + j) 5)) → J x (ii (i : Int))) (n := nt (EC S)) ?_ ?_ hi
    · intro x hx
      apply hJ
      refine P.nT ?_
      rw [hn, ii_le ⟨by omega, by omega⟩ ⟨by omega, by omega⟩]
      exact ⟨fun _ => q x hx, fun c => absurd (Int.le_refl _) c⟩
    · intro i hi ih x hx
      apply hJ
      refine P.nT ?_
      rw [hn, ii_le ⟨by omega, by omega⟩ ⟨by omega, by omega⟩]
      refine ⟨fun c => absurd c (by omega), fun _ => ?_⟩
      have ki := ctn_st (G := G) (A := A) (B := B) (j := i) (S := S) (by omega) (by omega)
      refine P.gT hK.1.1 rfl (by omega) ?_
      refine P.rI ki rfl ?_
      intro J2 hJ2
      rw [ii_le (ha i (by omega)) hp]
      refine ⟨fun c => ?_, fun c => ?_⟩
      · apply hJ2; rw [ii_inc']; exact ih _ (bset_s hx (decide_eq_false (by omega)))
      · apply hJ2; rw [ii_inc']; exact ih _ (bset_1 (by omega) hx (decide_eq_true (by omega)))
  exact main 0 (by omega) _ (bset_0 _)
theorem Pic.onesOn (P : Pic G A B S h) (hc : chs (S 32)) {post : Int32 → Prop} (q : ∀ x, bset x 8 (fun j => decide (S 32 j ≠ -1)) → post x) : wp_X6_onesOn G (A 3) h post := by
  intro J hJ
  have main : ∀ i : Nat, i ≤ 8 → ∀ x, bset x i (fun j => decide (S 32 j ≠ -1)) → J x (ii (i : Int)) := by
    intro i hi
    refine lp_up (J := fun i : Nat => ∀ x, bset x i (fun j => decide (S 32 j ≠ -1)) → J x (ii (i : Int))) (n := 8) ?_ ?_ hi
    · intro x hx
      apply hJ
      rw [il_8, ii_le ⟨by omega, by omega⟩ ⟨by omega, by omega⟩]
      exact ⟨fun _ => q x hx, fun c => absurd (Int.le_refl _) c⟩
    · intro i hi ih x hx
      apply hJ
      rw [il_8, ii_le ⟨by omega, by omega⟩ ⟨by omega, by omega⟩]
      refine ⟨fun c => absurd c (by omega), fun _ => ?_⟩
      refine P.oat (i := i) (k := 3) (r := 12) (rk := 32) rfl rfl ⟨by omega, by omega⟩ rfl (show _ < 8 by omega) ?_
      intro J2 hJ2
      have := hc i
      rw [il_m1, ii_eq ⟨by omega, by omega⟩ ⟨by omega, by omega⟩]
      refine ⟨fun c => ?_, fun c => ?_⟩
      · apply hJ2; rw [ii_inc']; exact ih _ (bset_s hx (decide_eq_false (fun z => z c)))
      · apply hJ2; rw [ii_inc']; exact ih _ (bset_1 (by omega) hx (decide_eq_true c))
  exact main 0 (by omega) _ (bset_0 _)
theorem Pic.lineAt (P : Pic G A B S h) {s e r j : Nat} (hs : s < 8) (he : e < 256) (hr : (r = 34 ∧ j = 3) ∨ (r = 35 ∧ j = 4)) {x y : Int32} (hx : x = ii (s : Int)) (hy : y = ii (e : Int)) {K : Int32 → Prop} (q : K (ii (S r (s * 256 + e)))) : rdR h (A 3) 6 j (fun v => wp_X6_lineOf G x y h (fun l => (isO h v 7 ∧ wp_X7_at G v l h K))) := by
  subst hx hy
  rcases hr with ⟨rfl, rfl⟩ | ⟨rfl, rfl⟩
  · refine P.rR (k := 3) rfl rfl ?_
    refine ⟨P.o (k := 14) rfl, P.at (k := 14) (rk := 34) (i := s * 256 + e) (by omega) (by omega) ?_ (show _ < 2048 by omega) q⟩
    rw [il_256, ii_mul, ii_add]; exact congrArg ii (by omega)
  · refine P.rR (k := 3) rfl rfl ?_
    refine ⟨P.o (k := 15) rfl, P.at (k := 15) (rk := 35) (i := s * 256 + e) (by omega) (by omega) ?_ (show _ < 2048 by omega) q⟩
    rw [il_256, ii_mul, ii_add]; exact congrArg ii (by omega)
theorem Pic.channelAt (P : Pic G A B S h) {c : Nat} (hc : c ≤ 511) (R : RI S c) {s : Nat} (hs : s < 8) {x : Int32} (hx : x = ii (s : Int)) {d : Int} (hd : rg d) {post : Int32 → Prop} (q : post (ii (LC S s d))) : wp_X6_channelAt G (A 3) x (ii d) h post := by
  obtain ⟨R1, R2, R3, R4, R5, R6, R7⟩ := R
  have r1 := R1 s hs
  subst hx
  refine P.oat (i := s) (k := 3) (r := 13) (rk := 33) rfl rfl ⟨by omega, by omega⟩ rfl (show _ < 8 by omega) ?_
  intro J hJ
  have main : ∀ n : Nat, n ≤ 256 → post (ii (lkf (fun e => S 34 (s * 256 + e)) (fun e => S 35 (s * 256 + e)) d n)) → J (ii ((n : Int) - 1)) := by
    intro n
    induction n with
    | zero =>
      intro _ g
      apply hJ
      rw [il_0, ii_lt ⟨by omega, by omega⟩ ⟨by omega, by omega⟩]
      exact ⟨fun _ => by rw [il_m1]; exact g, fun z => absurd (show ((0 : Nat) : Int) - 1 < 0 by omega) z⟩
    | succ n ih =>
      intro hn g
      apply hJ
      rw [il_0, ii_lt ⟨by omega, by omega⟩ ⟨by omega, by omega⟩]
      refine ⟨fun z => absurd z (by omega), fun _ => ?_⟩
      have en : ii (((n + 1 : Nat) : Int) - 1) = ii (n : Int) := congrArg ii (by omega)
      rw [en]
      refine P.lineAt (r := 34) hs (by omega) (Or.inl ⟨rfl, rfl⟩) rfl rfl ?_
      have r2 := R2 (s * 256 + n)
      rw [ii_lt hd ⟨by omega, by omega⟩]
      unfold lkf at g
      refine ⟨fun z => ?_, fun z => ?_⟩
      · rw [if_neg (by omega)] at g
        rw [il_m1, ii_add]
        exact ih (by omega) g
      · rw [if_pos (by omega)] at g
        exact P.lineAt (r := 35) hs (by omega) (Or.inr ⟨rfl, rfl⟩) rfl rfl g
  have e : ii (S 33 s) - 1 = ii ((((S 33 s).toNat : Nat) : Int) - 1) := by rw [il_1, ii_sub]; exact congrArg ii (by show S 33 s - 1 = _; omega)
  rw [e]
  exact main (S 33 s).toNat (by omega) q
theorem RI.holds {c : Nat} (R : RI S c) {s : Nat} (hs : s < 8) : LC S s (S 3 1) = S 32 s := R.2.2.2.2.1 s hs _ (Int.le_refl _)
theorem RI.today {c : Nat} (R : RI S c) : 0 ≤ S 3 1 ∧ S 3 1 ≤ 99 * c := ⟨by have := R.2.1 0; omega, R.2.2.2.2.2.1⟩
theorem Pic.holdsToday (P : Pic G A B S h) {c : Nat} (hc : c ≤ 511) (R : RI S c) {post : Int32 → Prop} (q : post 1) : wp_X6_holdsToday G (A 3) h post := by
  have ht := R.today
  intro J hJ
  have main : ∀ i : Nat, i ≤ 8 → J (ii (i : Int)) := by
    intro i hi
    refine lp_up (J := fun i : Nat => J (ii (i : Int))) (n := 8) ?_ ?_ hi
    · apply hJ
      rw [il_8, ii_le ⟨by omega, by omega⟩ ⟨by omega, by omega⟩]
      exact ⟨fun _ => q, fun z => absurd (Int.le_refl _) z⟩
    · intro i hi ih
      apply hJ
      rw [il_8, ii_le ⟨by omega, by omega⟩ ⟨by omega, by omega⟩]
      refine ⟨fun z => absurd z (by omega), fun _ => ?_⟩
      refine P.rI (k := 3) rfl rfl ?_
      refine ⟨P.o (k := 3) rfl, ?_⟩
      refine P.channelAt hc R hi rfl ⟨by omega, by omega⟩ ?_
      refine P.oat (i := i) (k := 3) (r := 12) (rk := 32) rfl rfl ⟨by omega, by omega⟩ rfl (show _ < 8 by omega) ?_
      rw [R.holds hi]
      refine ⟨fun _ => ?_, fun z => absurd rfl z⟩
      rw [ii_inc']; exact ih
  exact main 0 (by omega)
/-- the keys that the register writes -/
def kr (k : Nat) : Prop := k = 32 ∨ k = 33 ∨ k = 34 ∨ k = 35
theorem Pic.change (P : Pic G A B S h) {c : Nat} (hc : c ≤ 511) (R : RI S c) {s : Nat} (hs : s < 8) {x v : Int32} (hx : x = ii (s : Int)) {ch : Int} (hv : v = ii ch) (hch : -1 ≤ ch ∧ ch ≤ 7) {post : hw → Prop} (q : ∀ S' h', Pic G A B S' h' → RI S' c → (∀ k, ¬ kr k → S' k = S k) → S' 32 = up (S 32) s ch → (∀ t, t < 8 → ∀ d, LC S' t d = if t = s ∧ S 3 1 ≤ d then ch else LC S t d) → post h') : wp_X6_change G (A 3) x v h post := by
  have R0 := R
  obtain ⟨R1, R2, R3, R4, R5, R6, R7⟩ := R
  have ht := R0.today
  have r1 := R1 s hs
  subst hx hv
  refine P.oat (i := s) (k := 3) (r := 12) (rk := 32) rfl rfl ⟨by omega, by omega⟩ rfl (show _ < 8 by omega) ?_
  have r4 := R4 s
  show (ii (S 32 s) = ii ch → _) ∧ _
  rw [ii_eq ⟨by omega, by omega⟩ ⟨by omega, by omega⟩]
  refine ⟨fun z => ?_, fun z => ?_⟩
  · refine q S h P R0 (fun _ _ => rfl) (up_self z).symm (fun t ht2 d => ?_)
    by_cases w : t = s ∧ S 3 1 ≤ d
    · rw [if_pos w, w.1, R5 s hs d w.2, z]
    · rw [if_neg w]
  · refine P.oput (i := s) (z := ch) (k := 3) (r := 12) (rk := 32) rfl rfl ⟨by omega, by omega⟩ rfl rfl (show _ < 8 by omega) (fun h1 P1 => ?_)
    refine ⟨P1.o (k := 3) rfl, ?_⟩
    refine P1.oat (i := s) (k := 3) (r := 13) (rk := 33) rfl rfl ⟨by omega, by omega⟩ rfl (show _ < 8 by omega) ?_
    have e33 : su S 32 s ch 33 = S 33 := su_row _ _ (by omega)
    have e34 : su S 32 s ch 34 = S 34 := su_row _ _ (by omega)
    have e35 : su S 32 s ch 35 = S 35 := su_row _ _ (by omega)
    have e3 : su S 32 s ch 3 = S 3 := su_row _ _ (by omega)
    rw [show su S 32 s ch 33 s = S 33 s by rw [e33]]
    -- the end: line n - 1 is written
    have tail : ∀ (n : Nat) (S2 : Nat → Nat → Int) (h2 : hw), 0 < n → n ≤ 256 → Pic G A B S2 h2 → (∀ k, k ≠ 32 → k ≠ 33 → S2 k = S k) → S2 32 = up (S 32) s ch → S2 33 = up (S 33) s n → ((S 33 s = n ∧ S 34 (s * 256 + (n - 1)) = S 3 1) ∨ (S 33 s + 1 = n ∧ 2 * n ≤ (c : Int) + 2)) → rdR h2 (A 3) 6 3 (fun v6 => wp_X6_lineOf G (ii (s : Int)) (ii (n : Int) - 1) h2 (fun r7 => rdI h2 (A 3) 6 1 (fun v8 => (isO h2 v6 7 ∧ wp_X7_put G v6 r7 v8 h2 (fun h9 => rdR h9 (A 3) 6 4 (fun v10 => wp_X6_lineOf G (ii (s : Int)) (ii (n : Int) - 1) h9 (fun r11 => (isO h9 v10 7 ∧ wp_X7_put G v10 r11 (ii ch) h9 (fun h12 => post h12))))))))) := by
      intro n S2 h2 hn0 hn P2 g1 g2 g3 g4
      have el : ((ii (s : Int)) * 256) + (ii (n : Int) - 1) = ii ((s * 256 + (n - 1) : Nat) : Int) := by rw [il_256, il_1, ii_mul, ii_sub, ii_add]; exact congrArg ii (by omega)
      refine P2.rR (k := 3) rfl rfl ?_
      refine P2.rI (k := 3) rfl rfl ?_
      refine ⟨P2.o (k := 14) rfl, ?_⟩
      rw [el]
      refine P2.put (k := 14) (rk := 34) (i := s * 256 + (n - 1)) (z := S2 3 1) (by omega) (by omega) rfl rfl (show _ < 2048 by omega) (fun h9 P9 => ?_)
      refine P9.rR (k := 3) rfl rfl ?_
      refine ⟨P9.o (k := 15) rfl, ?_⟩
      rw [el]
      refine P9.put (k := 15) (rk := 35) (i := s * 256 + (n - 1)) (z := ch) (by omega) (by omega) rfl rfl (show _ < 2048 by omega) (fun h12 P12 => ?_)
      have f31 : S2 3 1 = S 3 1 := by rw [g1 3 (by omega) (by omega)]
      have f34 : S2 34 = S 34 := g1 34 (by omega) (by omega)
      have f35 : S2 35 = S 35 := g1 35 (by omega) (by omega)
      obtain ⟨S3, hS3⟩ : ∃ S3, S3 = su (su S2 34 (s * 256 + (n - 1)) (S2 3 1)) 35 (s * 256 + (n - 1)) ch := ⟨_, rfl⟩
      rw [← hS3] at P12
      have k34 : S3 34 = up (S 34) (s * 256 + (n - 1)) (S 3 1) := by rw [hS3, su_row _ _ (by omega), su_up, f34, f31]
      have k35 : S3 35 = up (S 35) (s * 256 + (n - 1)) ch := by rw [hS3, su_up, su_row _ _ (by omega), f35]
      have k33 : S3 33 = up (S 33) s n := by rw [hS3, su_row _ _ (by omega), su_row _ _ (by omega), g3]
      have k32 : S3 32 = up (S 32) s ch := by rw [hS3, su_row _ _ (by omega), su_row _ _ (by omega), g2]
      have k31 : S3 3 = S 3 := by rw [hS3, su_row _ _ (by omega), su_row _ _ (by omega), g1 3 (by omega) (by omega)]
      have hl : ∀ t, t < 8 → ∀ d, LC S3 t d = if t = s ∧ S 3 1 ≤ d then ch else LC S t d := by
        intro t ht8 d
        unfold LC
        rw [k33, k34, k35]
        by_cases ts : t = s
        · subst ts
          rw [up_at, show ((n : Int)).toNat = (n - 1) + 1 by omega, lkf_s, up_at, up_at]
          by_cases w : S 3 1 ≤ d
          · rw [if_pos w, if_pos ⟨rfl, w⟩]
          · rw [if_neg w, if_neg (fun z => w z.2)]
            have e1 : lkf (fun e => up (S 34) (t * 256 + (n - 1)) (S 3 1) (t * 256 + e)) (fun e => up (S 35) (t * 256 + (n - 1)) ch (t * 256 + e)) d (n - 1) = lkf (fun e => S 34 (t * 256 + e)) (fun e => S 35 (t * 256 + e)) d (n - 1) := lkf_of (fun i hi => up_ne (by omega)) (fun i hi => up_ne (by omega))
            rw [e1]
            rcases g4 with ⟨g5, g6⟩ | ⟨g5, g6⟩
            · rw [g5, show ((n : Int)).toNat = (n - 1) + 1 by omega]
              show _ = (if S 34 (t * 256 + (n - 1)) ≤ d then _ else _)
              rw [if_neg (by omega)]
            · rw [show (S 33 t).toNat = n - 1 by omega]
        · rw [up_ne ts, if_neg (fun z => ts z.1)]
          have hu : (S 33 t).toNat ≤ 256 := by have := R1 t ht8; omega
          exact lkf_of (fun i hi => up_ne (by omega)) (fun i hi => up_ne (by omega))
      refine q S3 h12 P12 ⟨fun t ht8 => ?_, fun i => ?_, fun i => ?_, fun i => ?_, fun t ht8 d hd => ?_, ?_, fun i hi => ?_⟩ (fun k hk => ?_) k32 hl
      · rw [k33, k34, show S3 3 1 = S 3 1 by rw [k31]]
        by_cases ts : t = s
        · subst ts
          rw [up_at]
          refine ⟨by omega, by omega, fun _ z => ?_⟩
          rw [show ((n : Int) - 1).toNat = n - 1 by omega, up_at] at z
          omega
        · rw [up_ne ts]
          have := R1 t ht8
          refine ⟨this.1, this.2.1, fun w z => ?_⟩
          rw [up_ne (by omega)] at z
          exact this.2.2 w z
      · rw [k34, show S3 3 1 = S 3 1 by rw [k31]]
        unfold up
        split
        · omega
        · exact R2 i
      · rw [k35]
        unfold up
        split
        · exact hch
        · exact R3 i
      · rw [k32]
        unfold up
        split
        · exact hch
        · exact R4 i
      · rw [show S3 3 1 = S 3 1 by rw [k31]] at hd
        rw [hl t ht8 d, k32]
        by_cases ts : t = s
        · rw [if_pos ⟨ts, hd⟩, ts, up_at]
        · rw [if_neg (fun z => ts z.1), up_ne ts]; exact R5 t ht8 d hd
      · rw [show S3 3 1 = S 3 1 by rw [k31]]; exact R6
      · rw [k32, up_ne (by omega)]; exact R7 i hi
      · have : k ≠ 32 ∧ k ≠ 33 ∧ k ≠ 34 ∧ k ≠ 35 := ⟨fun z => hk (Or.inl z), fun z => hk (Or.inr (Or.inl z)), fun z => hk (Or.inr (Or.inr (Or.inl z))), fun z => hk (Or.inr (Or.inr (Or.inr z)))⟩
        rw [hS3, su_row _ _ (by omega), su_row _ _ (by omega)]
        exact g1 k this.1 this.2.1
    have k32 : su S 32 s ch 32 = up (S 32) s ch := su_up _ _ _
    intro J39 hJ39
    have old : 0 < S 33 s → S 34 (s * 256 + (S 33 s - 1).toNat) = S 3 1 → J39 1 := by
      intro w1 w2
      apply hJ39
      intro J65 hJ65
      refine ⟨fun _ => ?_, fun w => absurd w (by decide)⟩
      apply hJ65
      rw [show ii (S 33 s) = ii (((S 33 s).toNat : Nat) : Int) from congrArg ii (by omega)]
      refine tail (S 33 s).toNat _ _ (by omega) (by omega) P1 (fun k w3 w4 => su_row _ _ w3) k32 ?_ (Or.inl ⟨by omega, ?_⟩)
      · rw [e33]; exact (up_self (by omega)).symm
      · rw [← w2]; exact congrArg (S 34) (by omega)
    have new : (0 < S 33 s → S 34 (s * 256 + (S 33 s - 1).toNat) ≠ S 3 1) → J39 0 := by
      intro w1
      have w2 : 2 * S 33 s ≤ c := by
        by_cases w : 0 < S 33 s
        · have := R2 (s * 256 + (S 33 s - 1).toNat)
          have := w1 w
          exact r1.2.2 w (by omega)
        · omega
      apply hJ39
      intro J65 hJ65
      refine ⟨fun w => absurd rfl w, fun _ => ?_⟩
      rw [il_256, ii_le ⟨by omega, by omega⟩ ⟨by omega, by omega⟩]
      refine ⟨fun w => by omega, fun _ => ?_⟩
      refine P1.oput (i := s) (z := S 33 s + 1) (k := 3) (r := 13) (rk := 33) rfl rfl ⟨by omega, by omega⟩ rfl ?_ (show _ < 8 by omega) (fun h14 P14 => ?_)
      · rw [il_1, ii_add]
      apply hJ65
      rw [show ii (S 33 s) + 1 = ii (((S 33 s).toNat + 1 : Nat) : Int) by rw [il_1, ii_add]; exact congrArg ii (by omega)]
      refine tail ((S 33 s).toNat + 1) _ _ (by omega) (by omega) P14 (fun k w3 w4 => by rw [su_row _ _ w4, su_row _ _ w3]) ?_ ?_ (Or.inr ⟨by omega, by omega⟩)
      · rw [su_row _ _ (by omega)]; exact k32
      · rw [su_up, show su S 32 s ch 33 = S 33 from e33]; exact congrArg (up (S 33) s) (by omega)
    intro J38 hJ38
    rw [il_0, ii_le ⟨by omega, by omega⟩ ⟨by omega, by omega⟩]
    refine ⟨fun w => hJ38 (new (fun z => by omega)), fun w => ?_⟩
    refine P1.lineAt (r := 34) (e := (S 33 s - 1).toNat) hs (by omega) (Or.inl ⟨rfl, rfl⟩) rfl ?_ ?_
    · rw [il_1, ii_sub]; exact congrArg ii (by omega)
    refine P1.rI (k := 3) rfl rfl ?_
    have r2 := R2 (s * 256 + (S 33 s - 1).toNat)
    rw [show su S 32 s ch 34 = S 34 from e34, show su S 32 s ch 3 1 = S 3 1 by rw [e3], ii_eq ⟨by omega, by omega⟩ ⟨by omega, by omega⟩]
    exact ⟨fun w2 => hJ38 (new (fun _ => w2)), fun w2 => old (by omega) w2⟩
end CR
