/-! the picture: what stands at each key, out of the numbers S, the addresses A of the keys, the boxes B -/
def su (S : Nat → Nat → Int) (k i : Nat) (v : Int) : Nat → Nat → Int := fun k' i' => if k' = k ∧ i' = i then v else S k' i'
def rl (k : Nat) : Nat := if k = 10 then 400 else if k = 11 then 100 else if k = 14 ∨ k = 15 then 2048 else if k = 17 ∨ k = 18 ∨ k = 20 then 64 else if k = 21 then 256 else if k = 26 then 12 else if k = 24 ∨ k = 25 ∨ k = 27 then 4 else 8
def ctO (A : Nat → Nat) (s : Nat → Int) (k : Nat) : Option va_E :=
  if k = 0 then some (.inr (11, [.ref (A 1), .ref (A 3), .ref (A 4), .ref (A 5), .ref (A 6), .ref (A 7), .ref (A 8), .ref (A 29)]))
  else if k = 1 then some (.inr (0, [.ref (A 2), .ref (A 51), .int (ii (s 2))]))
  else if k = 2 then some (.inr (3, [.ref (A 50), .ref (A 10), .ref (A 11)]))
  else if k = 3 then some (.inr (6, [.ref (A 12), .int (ii (s 1)), .ref (A 13), .ref (A 14), .ref (A 15)]))
  else if k = 4 then some (.inr (1, [.ref (A 16), .ref (A 17), .ref (A 18)]))
  else if k = 5 then some (.inr (5, [.ref (A 19), .ref (A 20), .ref (A 21), .int (ii (s 3)), .int (ii (s 4))]))
  else if k = 6 then some (.inr (8, [.ref (A 22), .int (ii (s 1)), .int (ii (s 2)), .int (ii (s 3)), .int (ii (s 4)), .ref (A 23)]))
  else if k = 7 then some (.inr (2, [.ref (A 24), .ref (A 25), .int (ii (s 2)), .ref (A 26), .ref (A 27)]))
  else if k = 8 then some (.inr (4, [.ref (A 28), .int (ii (s 1)), .int (ii (s 2)), .int (ii (s 3))]))
  else none
noncomputable def ctL (G : Gx) (s : Nat → Int) (a : Nat) : va_E := .inr (14, [.int (ii (s 0)), .ref (if s 3 = 0 then Gt0 G else a), .int (ii (s 2))])
def ctLA (G : Gx) (A : Nat → Nat) (s : Nat → Int) (b : Nat) : Option va_E := if s 3 = 0 then none else some (.inl (G.2.2.1.2.2.2.2, 10, .inr (.inr (.inr (.inr (fun i => if (i : Int) < s 2 then some (A (b + i)) else none))))))
noncomputable def ctn (G : Gx) (A : Nat → Nat) (B : Nat → Nat → Nat) (S : Nat → Nat → Int) (k : Nat) : Option va_E :=
  if k < 10 then ctO A (S k) k
  else if k < 30 then some (.inr (7, [.ref (A (k + 20))]))
  else if k < 50 then some (.inl (G.2.2.1.1, rl (k - 20), .inl (fun i => ii (S k i))))
  else if k = 50 then some (ctL G (S 50) (A 52))
  else if k = 51 then some (ctL G (S 51) (A 53))
  else if k = 52 then ctLA G A (S 50) 60
  else if k = 53 then ctLA G A (S 51) 70
  else if k < 60 then none
  else if k < 70 then (if (k : Int) < 60 + S 50 2 then some (.inr (9, [.int (ii (S k 0)), .int (ii (S k 1)), .int (ii (S k 2))])) else none)
  else if k < 80 then (if (k : Int) < 70 + S 51 2 then some (.inr (10, [.int (ii (S k 0)), .int (ii (S k 1)), .int (ii (S k 2)), .int (ii (S k 3)), .int (ii (S k 4)), .int (ii (S k 5))])) else none)
  else if k = 90 then (if S 90 6 = 0 then none else some (.inl (G.2.2.1.1, 6, .inl (fun i => ii (S 90 i)))))
  else none
def Pic (G : Gx) (A : Nat → Nat) (B : Nat → Nat → Nat) (S : Nat → Nat → Int) (h : hw) : Prop := (∀ (k : Nat) (e : va_E), ctn G A B S k = some e → h (A k) = some e) ∧ (∀ (k k' : Nat) (e e' : va_E), ctn G A B S k = some e → ctn G A B S k' = some e' → A k = A k' → k = k') ∧ ∀ j i : Nat, (j : Int) < S 81 2 → (i : Int) < S (170 + j) 2 → h (B j i) = some (.inr (13, [.int (ii (S (190 + j) i))]))
/-- the keys that say nothing of what other keys hold -/
def ns (k : Nat) : Prop := k ≠ 50 ∧ k ≠ 51 ∧ k ≠ 81 ∧ ¬ 170 ≤ k
def n13 (e : va_E) : Prop := ∀ fs : List Value, e ≠ .inr (13, fs)
section PIC
variable {G : Gx} {A : Nat → Nat} {B : Nat → Nat → Nat} {S : Nat → Nat → Int} {h : hw}
theorem su_at (k i : Nat) (v : Int) : su S k i v k i = v := by unfold su; rw [if_pos ⟨rfl, rfl⟩]
theorem su_ne {k k' : Nat} (i i' : Nat) (v : Int) (q : k' ≠ k) : su S k i v k' i' = S k' i' := by unfold su; rw [if_neg (fun z => q z.1)]
theorem su_nei {i i' : Nat} (k k' : Nat) (v : Int) (q : i' ≠ i) : su S k i v k' i' = S k' i' := by unfold su; rw [if_neg (fun z => q z.2)]
theorem su_row {k k' : Nat} (i : Nat) (v : Int) (q : k' ≠ k) : su S k i v k' = S k' := funext fun i' => su_ne i i' v q
theorem su_self {k i : Nat} {v : Int} (q : S k i = v) : su S k i v = S := by
  funext k' i'
  unfold su
  by_cases z : k' = k ∧ i' = i
  · rw [if_pos z, z.1, z.2, q]
  · rw [if_neg z]
theorem ctn_row {S' : Nat → Nat → Int} {k0 k : Nat} (hs : ns k0) (e : ∀ j, j ≠ k0 → S' j = S j) (hk : k ≠ k0) : ctn G A B S' k = ctn G A B S k := by
  unfold ctn
  rw [e k hk, e 50 (Ne.symm hs.1), e 51 (Ne.symm hs.2.1)]
  by_cases c : k = 90
  · rw [← c, e k hk]
  · rw [if_neg c, if_neg c]
def no13 (o : Option va_E) : Prop := ∀ fs : List Value, o ≠ some (.inr (13, fs))
theorem no13_ite {c : Prop} [Decidable c] {a b : Option va_E} (h1 : no13 a) (h2 : no13 b) : no13 (if c then a else b) := by
  by_cases q : c
  · rw [if_pos q]; exact h1
  · rw [if_neg q]; exact h2
theorem no13_L {G : Gx} {s : Nat → Int} {a : Nat} : no13 (some (ctL G s a)) := fun fs q => by unfold ctL at q; cases q
theorem no13_of {n : Nat} {l : List Value} (hn : n ≠ 13) : no13 (some (.inr (n, l))) := fun fs q => by cases q; exact hn rfl
theorem no13_a {x : ClassId × vp_A} : no13 (some (.inl x)) := fun fs q => by cases q
theorem no13_n : no13 none := fun fs q => by cases q
theorem ctn_no13 {k : Nat} : no13 (ctn G A B S k) := by
  unfold ctn ctO ctLA
  repeat' first | exact no13_L | exact no13_a | exact no13_n | exact no13_of (by decide) | apply no13_ite
theorem ctn_13 {k : Nat} {e : va_E} (q : ctn G A B S k = some e) : n13 e := fun fs hf => ctn_no13 fs (hf ▸ q)
/-- what a write keeps, when what it writes is a key's -/
theorem Pic.wr (P : Pic G A B S h) {S' : Nat → Nat → Int} {k0 : Nat} {e0 e' : va_E} (hs : ns k0) (he : ctn G A B S k0 = some e0) (hS : ∀ j, j ≠ k0 → S' j = S j) (he' : ctn G A B S' k0 = some e') : Pic G A B S' (hwu h (A k0) e') := by
  have h0 := P.1 k0 e0 he
  refine ⟨fun k e hk => ?_, fun k k' e e1 hk hk' hA => ?_, fun j i hj hi => ?_⟩
  · unfold hwu
    by_cases q : k = k0
    · subst q
      rw [if_pos rfl, ← hk, he']
    · rw [ctn_row hs hS q] at hk
      rw [if_neg (fun z => q (P.2.1 k k0 _ _ hk he z))]
      exact P.1 k e hk
  · have f : ∀ (j : Nat) (x : va_E), ctn G A B S' j = some x → ∃ y, ctn G A B S j = some y := by
      intro j x hj
      by_cases q : j = k0
      · subst q; exact ⟨_, he⟩
      · rw [ctn_row hs hS q] at hj; exact ⟨_, hj⟩
    obtain ⟨y, hy⟩ := f k e hk
    obtain ⟨y', hy'⟩ := f k' e1 hk'
    exact P.2.1 k k' _ _ hy hy' hA
  · have e1 : S' 81 = S 81 := hS 81 (Ne.symm hs.2.2.1)
    have e2 : S' (170 + j) = S (170 + j) := hS _ (fun z => hs.2.2.2 (by omega))
    have e3 : S' (190 + j) = S (190 + j) := hS _ (fun z => hs.2.2.2 (by omega))
    rw [e1] at hj
    rw [e2] at hi
    rw [e3]
    have hb := P.2.2 j i hj hi
    unfold hwu
    rw [if_neg (fun z => by rw [z, h0] at hb; exact ctn_13 he _ (Option.some.inj hb))]
    exact hb
theorem rdI_of {a ci k : Nat} {K : Int32 → Prop} {fs : List Value} {v : Int32} (e : h a = some (.inr (ci, fs))) (e2 : fs[k]? = some (.int v)) (q : K v) : rdI h a ci k K := ⟨fs, v, e, e2, q⟩
theorem rdR_of {a ci k : Nat} {K : Nat → Prop} {fs : List Value} {v : Nat} (e : h a = some (.inr (ci, fs))) (e2 : fs[k]? = some (.ref v)) (q : K v) : rdR h a ci k K := ⟨fs, v, e, e2, q⟩
theorem Pic.rI (P : Pic G A B S h) {k ci j : Nat} {K : Int32 → Prop} {fs : List Value} {v : Int32} (e : ctn G A B S k = some (.inr (ci, fs))) (e2 : fs[j]? = some (.int v)) (q : K v) : rdI h (A k) ci j K := rdI_of (P.1 k _ e) e2 q
theorem Pic.rR (P : Pic G A B S h) {k ci j : Nat} {K : Nat → Prop} {fs : List Value} {v : Nat} (e : ctn G A B S k = some (.inr (ci, fs))) (e2 : fs[j]? = some (.ref v)) (q : K v) : rdR h (A k) ci j K := rdR_of (P.1 k _ e) e2 q
theorem Pic.o (P : Pic G A B S h) {k ci : Nat} {fs : List Value} (e : ctn G A B S k = some (.inr (ci, fs))) : isO h (A k) ci := ⟨fs, P.1 k _ e⟩
theorem Pic.wF (P : Pic G A B S h) {k ci j : Nat} {v : Value} {z : Int} {K : hw → Prop} {fs : List Value} (hs : ns k) (e : ctn G A B S k = some (.inr (ci, fs))) (hj : j < fs.length) (e2 : ctn G A B (su S k j z) k = some (.inr (ci, fs.set j v))) (q : ∀ h', Pic G A B (su S k j z) h' → K h') : wrF h (A k) ci j v K := ⟨fs, P.1 k _ e, hj, q _ (P.wr hs e (fun i hi => su_row j z hi) e2)⟩
/-! rows of ints -/
theorem ctn_r {k : Nat} (h1 : 10 ≤ k) (h2 : k < 30) : ctn G A B S k = some (.inr (7, [.ref (A (k + 20))])) := by
  unfold ctn; rw [if_neg (by omega), if_pos h2]
theorem ctn_a {k : Nat} (h1 : 10 ≤ k) (h2 : k < 30) : ctn G A B S (k + 20) = some (.inl (G.2.2.1.1, rl k, .inl (fun i => ii (S (k + 20) i)))) := by
  unfold ctn; rw [if_neg (by omega), if_neg (by omega), if_pos (by omega), show k + 20 - 20 = k by omega]
theorem rl_le (k : Nat) : rl k ≤ 2048 := by 
  unfold rl
  repeat' split
  all_goals omega
theorem upd_su {k i : Nat} {z : Int} : upd (fun j => ii (S k j)) i (ii z) = fun j => ii (su S k i z k j) := by
  funext j
  unfold upd su
  by_cases q : j = i
  · simp [q]
  · simp [q]
theorem Pic.ldi (P : Pic G A B S h) {k i : Nat} {x : Int32} {K : Int32 → Prop} {n : Nat} (e : ctn G A B S k = some (.inl (G.2.2.1.1, n, .inl (fun i => ii (S k i))))) (hx : x = ii (i : Int)) (hi : i < n) (hn : n < 2147483648) (q : K (ii (S k i))) : ldI G h (A k) x K := by
  subst hx
  exact ⟨n, _, P.1 k _ e, vp_ii (by omega) (by omega) (by omega), by rw [ii_natN (by omega)]; exact q⟩
theorem Pic.sti (P : Pic G A B S h) {k i : Nat} {x v : Int32} {z : Int} {K : hw → Prop} {n : Nat} (hs : ns k) (e : ∀ S, ctn G A B S k = some (.inl (G.2.2.1.1, n, .inl (fun i => ii (S k i))))) (hx : x = ii (i : Int)) (hv : v = ii z) (hi : i < n) (hn : n < 2147483648) (q : ∀ h', Pic G A B (su S k i z) h' → K h') : stI G h (A k) x v K := by
  subst hx hv
  refine ⟨n, _, P.1 k _ (e S), vp_ii (by omega) (by omega) (by omega), ?_⟩
  rw [ii_natN (by omega), upd_su]
  exact q _ (P.wr hs (e S) (fun j hj => su_row i z hj) (e _))
theorem Pic.ln (P : Pic G A B S h) {k : Nat} {K : Int32 → Prop} (h1 : 10 ≤ k) (h2 : k < 30) (q : K (ii (rl k : Nat))) : lnI G h (A (k + 20)) K := ⟨_, P.1 _ _ (ctn_a h1 h2), by rw [ii_ofNat]; exact q⟩
theorem Pic.at (P : Pic G A B S h) {k rk i : Nat} {x : Int32} {post : Int32 → Prop} (h1 : 10 ≤ k) (h2 : k < 30 ∧ rk = k + 20) (hx : x = ii (i : Int)) (hi : i < rl k) (q : post (ii (S rk i))) : wp_X7_at G (A k) x h post := by
  obtain ⟨h2, rfl⟩ := h2
  have hl := rl_le k
  subst hx
  intro J hJ
  have hn : ¬ ii (i : Int) < 0 := by rw [il_0, ii_lt ⟨by omega, by omega⟩ ⟨by omega, by omega⟩]; omega
  refine ⟨fun c => absurd c hn, fun _ => ?_⟩
  refine P.rR (ctn_r h1 h2) rfl ?_
  refine P.ln h1 h2 ?_
  rw [ii_le ⟨by omega, by omega⟩ ⟨by omega, by omega⟩]
  refine ⟨fun c => absurd c (by omega), fun _ => ?_⟩
  refine P.rR (ctn_r h1 h2) rfl ?_
  exact P.ldi (ctn_a h1 h2) rfl hi (by omega) q
theorem Pic.put (P : Pic G A B S h) {k rk i : Nat} {x v : Int32} {z : Int} {post : hw → Prop} (h1 : 10 ≤ k) (h2 : k < 30 ∧ rk = k + 20) (hx : x = ii (i : Int)) (hv : v = ii z) (hi : i < rl k) (q : ∀ h', Pic G A B (su S rk i z) h' → post h') : wp_X7_put G (A k) x v h post := by
  obtain ⟨h2, rfl⟩ := h2
  have hl := rl_le k
  subst hx
  have hn : ¬ ii (i : Int) < 0 := by rw [il_0, ii_lt ⟨by omega, by omega⟩ ⟨by omega, by omega⟩]; omega
  refine ⟨fun c => absurd c hn, fun _ => ?_⟩
  refine P.rR (ctn_r h1 h2) rfl ?_
  refine P.ln h1 h2 ?_
  rw [ii_le ⟨by omega, by omega⟩ ⟨by omega, by omega⟩]
  refine ⟨fun c => absurd c (by omega), fun _ => ?_⟩
  refine P.rR (ctn_r h1 h2) rfl ?_
  exact P.sti ⟨by omega, by omega, by omega, by omega⟩ (fun _ => ctn_a h1 h2) rfl hv hi (by omega) q
/-- rows filled, up to an index -/
def sf (S : Nat → Nat → Int) (k n : Nat) (f : Nat → Int) : Nat → Nat → Int := fun k' i => if k' = k ∧ i < n then f i else S k' i
theorem sf_0 {k : Nat} {f : Nat → Int} : sf S k 0 f = S := by funext k' i; unfold sf; rw [if_neg (by omega)]
theorem sf_s {k n : Nat} {f : Nat → Int} : su (sf S k n f) k n (f n) = sf S k (n + 1) f := by
  funext k' i
  unfold su sf
  by_cases q : k' = k
  · subst q
    by_cases q2 : i = n
    · subst q2; simp
    · by_cases q3 : i < n
      · simp [q2, q3, show i < n + 1 by omega]
      · simp [q2, q3, show ¬ i < n + 1 by omega]
  · simp [q]
theorem sf_ne {k k' n : Nat} {f : Nat → Int} (q : k' ≠ k) : sf S k n f k' = S k' := by funext i; unfold sf; rw [if_neg (fun z => q z.1)]
theorem sf_at {k n i : Nat} {f : Nat → Int} (q : i < n) : sf S k n f k i = f i := by unfold sf; rw [if_pos ⟨rfl, q⟩]
theorem Pic.fill (P : Pic G A B S h) {k rk : Nat} {v : Int32} {z : Int} {post : hw → Prop} (h1 : 10 ≤ k) (h2 : k < 30 ∧ rk = k + 20) (hv : v = ii z) (q : ∀ h', Pic G A B (sf S rk (rl k) (fun _ => z)) h' → post h') : wp_X7_fillWith G (A k) v h post := by
  obtain ⟨h2, rfl⟩ := h2
  have hl := rl_le k
  subst hv
  intro J hJ
  have main : ∀ i, i ≤ rl k → ∀ h', Pic G A B (sf S (k + 20) i (fun _ => z)) h' → J (ii (i : Int)) h' := by
    intro i hi
    refine lp_up (J := fun i => ∀ h', Pic G A B (sf S (k + 20) i (fun _ => z)) h' → J (ii (i : Int)) h') (n := rl k) ?_ ?_ hi
    · intro h' P'
      apply hJ
      refine P'.rR (ctn_r h1 h2) rfl ?_
      refine P'.ln h1 h2 ?_
      rw [ii_le ⟨by omega, by omega⟩ ⟨by omega, by omega⟩]
      exact ⟨fun _ => q _ P', fun c => absurd (Int.le_refl _) c⟩
    · intro i hi ih h' P'
      apply hJ
      refine P'.rR (ctn_r h1 h2) rfl ?_
      refine P'.ln h1 h2 ?_
      rw [ii_le ⟨by omega, by omega⟩ ⟨by omega, by omega⟩]
      refine ⟨fun c => absurd c (by omega), fun _ => ?_⟩
      refine P'.rR (ctn_r h1 h2) rfl ?_
      refine P'.sti (z := z) ⟨by omega, by omega, by omega, by omega⟩ (fun _ => ctn_a h1 h2) rfl rfl hi (by omega) (fun h2' P2 => ?_)
      rw [ii_inc']
      rw [sf_s (f := fun _ => z)] at P2
      exact ih _ P2
  exact main 0 (by omega) h (by rw [sf_0]; exact P)
theorem Pic.copy (P : Pic G A B S h) {k k2 rk rk2 : Nat} {post : hw → Prop} (h1 : 10 ≤ k) (h2 : k < 30 ∧ rk = k + 20) (h3 : 10 ≤ k2) (h4 : k2 < 30 ∧ rk2 = k2 + 20) (hr : rl k ≤ rl k2) (hk : k ≠ k2) (q : ∀ h', Pic G A B (sf S rk (rl k) (S rk2)) h' → post h') : wp_X7_copyFrom G (A k) (A k2) h post := by
  obtain ⟨h2, rfl⟩ := h2
  obtain ⟨h4, rfl⟩ := h4
  have hl := rl_le k
  intro J hJ
  have main : ∀ i, i ≤ rl k → ∀ h', Pic G A B (sf S (k + 20) i (S (k2 + 20))) h' → J (ii (i : Int)) h' := by
    intro i hi
    refine lp_up (J := fun i => ∀ h', Pic G A B (sf S (k + 20) i (S (k2 + 20))) h' → J (ii (i : Int)) h') (n := rl k) ?_ ?_ hi
    · intro h' P'
      apply hJ
      refine P'.rR (ctn_r h1 h2) rfl ?_
      refine P'.ln h1 h2 ?_
      rw [ii_le ⟨by omega, by omega⟩ ⟨by omega, by omega⟩]
      exact ⟨fun _ => q _ P', fun c => absurd (Int.le_refl _) c⟩
    · intro i hi ih h' P'
      apply hJ
      refine P'.rR (ctn_r h1 h2) rfl ?_
      refine P'.ln h1 h2 ?_
      rw [ii_le ⟨by omega, by omega⟩ ⟨by omega, by omega⟩]
      refine ⟨fun c => absurd c (by omega), fun _ => ?_⟩
      refine P'.rR (ctn_r h1 h2) rfl ?_
      refine ⟨P'.o (ctn_r h3 h4), ?_⟩
      refine P'.at h3 ⟨h4, rfl⟩ rfl (by omega) ?_
      refine P'.sti (z := S (k2 + 20) i) ⟨by omega, by omega, by omega, by omega⟩ (fun _ => ctn_a h1 h2) rfl (by rw [sf_ne (by omega)]) hi (by omega) (fun h2' P2 => ?_)
      rw [ii_inc']
      rw [sf_s] at P2
      exact ih _ P2
  exact main 0 (by omega) h (by rw [sf_0]; exact P)
/-- a row that is an object's own -/
theorem Pic.oat (P : Pic G A B S h) {k r rk ci j i : Nat} {x : Int32} {K : Int32 → Prop} {fs : List Value} (e : ctn G A B S k = some (.inr (ci, fs))) (e2 : fs[j]? = some (.ref (A r))) (h1 : 10 ≤ r ∧ (r < 30 ∧ rk = r + 20)) (hx : x = ii (i : Int)) (hi : i < rl r) (q : K (ii (S rk i))) : rdR h (A k) ci j (fun v => (isO h v 7 ∧ wp_X7_at G v x h K)) := P.rR e e2 ⟨P.o (ctn_r h1.1 h1.2.1), P.at h1.1 h1.2 hx hi q⟩
theorem Pic.oput (P : Pic G A B S h) {k r rk ci j i : Nat} {x v : Int32} {z : Int} {K : hw → Prop} {fs : List Value} (e : ctn G A B S k = some (.inr (ci, fs))) (e2 : fs[j]? = some (.ref (A r))) (h1 : 10 ≤ r ∧ (r < 30 ∧ rk = r + 20)) (hx : x = ii (i : Int)) (hv : v = ii z) (hi : i < rl r) (q : ∀ h', Pic G A B (su S rk i z) h' → K h') : rdR h (A k) ci j (fun a => (isO h a 7 ∧ wp_X7_put G a x v h K)) := P.rR e e2 ⟨P.o (ctn_r h1.1 h1.2.1), P.put h1.1 h1.2 hx hv hi q⟩
theorem Pic.ofill (P : Pic G A B S h) {k r rk ci j : Nat} {v : Int32} {z : Int} {K : hw → Prop} {fs : List Value} (e : ctn G A B S k = some (.inr (ci, fs))) (e2 : fs[j]? = some (.ref (A r))) (h1 : 10 ≤ r ∧ (r < 30 ∧ rk = r + 20)) (hv : v = ii z) (q : ∀ h', Pic G A B (sf S rk (rl r) (fun _ => z)) h' → K h') : rdR h (A k) ci j (fun a => (isO h a 7 ∧ wp_X7_fillWith G a v h K)) := P.rR e e2 ⟨P.o (ctn_r h1.1 h1.2.1), P.fill h1.1 h1.2 hv q⟩
/-! lists of sites, of stations -/
theorem ctn_st {j : Nat} (hj : (j : Int) < S 51 2) (h8 : S 51 2 ≤ 10) : ctn G A B S (70 + j) = some (.inr (10, [.int (ii (S (70 + j) 0)), .int (ii (S (70 + j) 1)), .int (ii (S (70 + j) 2)), .int (ii (S (70 + j) 3)), .int (ii (S (70 + j) 4)), .int (ii (S (70 + j) 5))])) := by
  have : j < 10 := by omega
  unfold ctn
  rw [if_neg (by omega), if_neg (by omega), if_neg (by omega), if_neg (by omega), if_neg (by omega), if_neg (by omega), if_neg (by omega), if_neg (by omega), if_neg (by omega), if_pos (by omega), if_pos (by omega)]
theorem ctn_si {j : Nat} (hj : (j : Int) < S 50 2) (h8 : S 50 2 ≤ 10) : ctn G A B S (60 + j) = some (.inr (9, [.int (ii (S (60 + j) 0)), .int (ii (S (60 + j) 1)), .int (ii (S (60 + j) 2))])) := by
  have : j < 10 := by omega
  unfold ctn
  rw [if_neg (by omega), if_neg (by omega), if_neg (by omega), if_neg (by omega), if_neg (by omega), if_neg (by omega), if_neg (by omega), if_neg (by omega), if_pos (by omega), if_pos (by omega)]
theorem Pic.nT (P : Pic G A B S h) {K : Int32 → Prop} (q : K (ii (S 51 2))) : rdR h (A 1) 0 1 (fun v => (isO h v 14 ∧ wp_Jx4a65c_size_8abf5 G v h K)) := P.rR (k := 1) rfl rfl ⟨P.o (k := 51) rfl, P.rI (k := 51) rfl rfl q⟩
theorem Pic.nS (P : Pic G A B S h) {K : Int32 → Prop} (q : K (ii (S 50 2))) : rdR h (A 2) 3 0 (fun v => (isO h v 14 ∧ wp_Jx4a65c_size_8abf5 G v h K)) := P.rR (k := 2) rfl rfl ⟨P.o (k := 50) rfl, P.rI (k := 50) rfl rfl q⟩
theorem chk_of {a b : Int} (h1 : 0 ≤ a) (h2 : a < b) (h3 : b ≤ 2147483647) {post : Int32 → Prop} (q : post (ii a)) : wp_J15_checkIndex_7cf53 G (ii a) (ii b) h post := by
  intro J hJ
  rw [il_0, ii_lt ⟨by omega, by omega⟩ ⟨by omega, by omega⟩, ii_lt ⟨by omega, by omega⟩ ⟨by omega, by omega⟩]
  exact ⟨fun c => by omega, fun _ => ⟨fun _ => q, fun c => by omega⟩⟩
theorem Pic.get (P : Pic G A B S h) {k a n i : Nat} {x : Int32} {K : Nat → Prop} {w0 : Int32} {s2 : Int} {f : Nat → Option Nat} (e : ctn G A B S k = some (.inr (14, [.int w0, .ref (A a), .int (ii s2)]))) (ea : ctn G A B S a = some (.inl (G.2.2.1.2.2.2.2, n, .inr (.inr (.inr (.inr f)))))) (hx : x = ii (i : Int)) (hi : (i : Int) < s2) (hn : i < n) (h3 : s2 ≤ 2147483647) {b : Nat} (hf : f i = some b) (q : K b) : wp_Jx4a65c_get_915e3 G (A k) x h K := by
  subst hx
  refine P.rI e rfl ?_
  refine chk_of (by omega) hi h3 ?_
  refine ⟨P.o e, ?_⟩
  refine P.rR e rfl ?_
  exact ⟨n, f, b, P.1 a _ ea, vp_ii (by omega) (by omega) (by omega), by rw [ii_natN (by omega)]; exact hf, q⟩
theorem ctn_50 (h3 : S 50 3 ≠ 0) : ctn G A B S 50 = some (.inr (14, [.int (ii (S 50 0)), .ref (A 52), .int (ii (S 50 2))])) := by
  show some (ctL G (S 50) (A 52)) = _
  unfold ctL; rw [if_neg h3]
theorem ctn_51 (h3 : S 51 3 ≠ 0) : ctn G A B S 51 = some (.inr (14, [.int (ii (S 51 0)), .ref (A 53), .int (ii (S 51 2))])) := by
  show some (ctL G (S 51) (A 53)) = _
  unfold ctL; rw [if_neg h3]
theorem ctn_52 (h3 : S 50 3 ≠ 0) : ctn G A B S 52 = some (.inl (G.2.2.1.2.2.2.2, 10, .inr (.inr (.inr (.inr (fun i => if (i : Int) < S 50 2 then some (A (60 + i)) else none)))))) := by
  show ctLA G A (S 50) 60 = _
  unfold ctLA; rw [if_neg h3]
theorem ctn_53 (h3 : S 51 3 ≠ 0) : ctn G A B S 53 = some (.inl (G.2.2.1.2.2.2.2, 10, .inr (.inr (.inr (.inr (fun i => if (i : Int) < S 51 2 then some (A (70 + i)) else none)))))) := by
  show ctLA G A (S 51) 70 = _
  unfold ctLA; rw [if_neg h3]
/-- the lists' own numbers -/
def LOK (S : Nat → Nat → Int) : Prop := (0 ≤ S 50 2 ∧ S 50 2 ≤ 10 ∧ (0 < S 50 2 → S 50 3 ≠ 0)) ∧ (0 ≤ S 51 2 ∧ S 51 2 ≤ 8 ∧ (0 < S 51 2 → S 51 3 ≠ 0))
theorem Pic.gT (P : Pic G A B S h) (hL : LOK S) {i : Nat} {x : Int32} {K : Nat → Prop} (hx : x = ii (i : Int)) (hi : (i : Int) < S 51 2) (q : K (A (70 + i))) : rdR h (A 1) 0 1 (fun v => (isO h v 14 ∧ wp_Jx4a65c_get_915e3 G v x h (fun r => (isO h r 10 ∧ K r)))) := by
  obtain ⟨-, h1, h2, h3⟩ := hL
  have h3 := h3 (by omega)
  refine P.rR (k := 1) rfl rfl ⟨P.o (k := 51) rfl, ?_⟩
  exact P.get (ctn_51 h3) (ctn_53 h3) hx hi (by omega) (by omega) (if_pos hi) ⟨P.o (ctn_st hi (by omega)), q⟩
theorem Pic.gS (P : Pic G A B S h) (hL : LOK S) {i : Nat} {x : Int32} {K : Nat → Prop} (hx : x = ii (i : Int)) (hi : (i : Int) < S 50 2) (q : K (A (60 + i))) : rdR h (A 2) 3 0 (fun v => (isO h v 14 ∧ wp_Jx4a65c_get_915e3 G v x h (fun r => (isO h r 9 ∧ K r)))) := by
  obtain ⟨⟨h1, h2, h3⟩, -⟩ := hL
  have h3 := h3 (by omega)
  refine P.rR (k := 2) rfl rfl ⟨P.o (k := 50) rfl, ?_⟩
  exact P.get (ctn_50 h3) (ctn_52 h3) hx hi (by omega) (by omega) (if_pos hi) ⟨P.o (ctn_si hi (by omega)), q⟩
/-! the law's own row -/
theorem ctn_90 (h6 : S 90 6 ≠ 0) : ctn G A B S 90 = some (.inl (G.2.2.1.1, 6, .inl (fun i => ii (S 90 i)))) := if_neg h6
theorem Pic.wld (P : Pic G A B S h) (h6 : S 90 6 ≠ 0) {i : Nat} {x : Int32} {K : Int32 → Prop} (hx : x = ii (i : Int)) (hi : i < 6) (q : K (ii (S 90 i))) : ldI G h (A 90) x K := P.ldi (ctn_90 h6) hx hi (by decide) q
theorem Pic.wst (P : Pic G A B S h) (h6 : S 90 6 ≠ 0) {i : Nat} {x v : Int32} {z : Int} {K : hw → Prop} (hx : x = ii (i : Int)) (hv : v = ii z) (hi : i < 6) (q : ∀ h', Pic G A B (su S 90 i z) h' → K h') : stI G h (A 90) x v K := by
  subst hx hv
  refine ⟨6, _, P.1 90 _ (ctn_90 h6), vp_ii (by omega) (by omega) (by omega), ?_⟩
  rw [ii_natN (by omega), upd_su]
  exact q _ (P.wr ⟨by decide, by decide, by decide, by decide⟩ (ctn_90 h6) (fun j hj => su_row i z hj) (ctn_90 (by rw [su_nei _ _ _ (by omega)]; exact h6)))
end PIC
