/-! the start: the walk -/
def iniv (k : Nat) : Int := cond (Nat.beq k 32 || Nat.beq k 35 || Nat.beq k 37 || Nat.beq k 39 || Nat.beq k 42 || Nat.beq k 48 || Nat.beq k 49) (-1) 0
def S0i (k i : Nat) : Int := cond (Nat.ble 30 k && Nat.blt k 50) (if i < rl (k - 20) then iniv k else 0) (cond (Nat.beq k 1) (cond (Nat.beq i 2) 170 0) 0)
def AllN (P : Nat → Prop) : Nat → Prop
  | 0 => True
  | n + 1 => AllN P n ∧ P n
theorem AllN_lt {P : Nat → Prop} {n : Nat} (h : AllN P n) {k : Nat} (hk : k < n) : P k := by
  induction n with
  | zero => omega
  | succ n ih =>
    by_cases y : k = n
    · rw [y]; exact h.2
    · exact ih h.1 (by omega)
section IN2
variable {G : Gx} {A : Nat → Nat} {B : Nat → Nat → Nat} {T : Nat → Option va_E} {h : hw}
theorem IP.pic (P : IP A T h) (e : ∀ k, k < 80 → T k = ctn G A B S0i k) : Pic G A B S0i h := by
  have e81 : S0i 81 2 = 0 := rfl
  have e90 : S0i 90 6 = 0 := rfl
  have f : ∀ k x, ctn G A B S0i k = some x → T k = some x := fun k x hx => by
    by_cases y : k < 80
    · rw [e k y]; exact hx
    · exfalso
      unfold ctn at hx
      rw [if_neg (by omega), if_neg (by omega), if_neg (by omega), if_neg (by omega), if_neg (by omega), if_neg (by omega), if_neg (by omega), if_neg (by omega), if_neg (by omega), if_neg (by omega)] at hx
      by_cases a : k = 90
      · rw [if_pos a, if_pos e90] at hx; cases hx
      · rw [if_neg a] at hx; cases hx
  exact ⟨fun k x hx => P.1 k x (f k x hx), fun k k' x x' hx hx' hA => P.2 k k' x x' (f k x hx) (f k' x' hx') hA, fun j i hj => by rw [e81] at hj; omega⟩
theorem IP.pic2 (P : IP A T h) (e : AllN (fun k => T k = ctn G A B S0i k) 80) : Pic G A B S0i h := P.pic (fun k hk => AllN_lt e hk)
end IN2
theorem IP.wFl {A : Nat → Nat} {T : Nat → Option va_E} {h : hw} (P : IP A T h) (k : Nat) {ci j : Nat} (fs fs' : List Value) {v : Value} {K : hw → Prop} (hk : T k = some (.inr (ci, fs))) (he : fs.set j v = fs') (hj : j < fs.length) (q : ∀ h', IP A (upT T k (.inr (ci, fs'))) h' → K h') : wrF h (A k) ci j v K := ⟨fs, P.1 k _ hk, hj, by rw [he]; exact q _ (P.put hk)⟩
