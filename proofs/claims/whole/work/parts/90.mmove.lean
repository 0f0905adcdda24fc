/-! the reference: one station moves, who goes off for it is set first -/
def bat (E : Nat → Nat → Int) (k : Nat) (c : Int) (now : Nat → Int) (i : Nat) : Bool := decide (i ≠ k) && (decide (E 7 i = 1) && (decide (now i ≠ -1) && br2 E k c i (now i)))
theorem bat_fre {E : Nat → Nat → Int} {pl now now' : Nat → Int} {k : Nat} (h : ∀ i, i < nt E → now' i = now i) : fre E pl now k = !(anyb (bat E k (pl k) now') (nt E)) := by
  cases e : anyb (bat E k (pl k) now') (nt E) with
  | true =>
    obtain ⟨i, hi, w⟩ := anyb_t.mp e
    unfold bat at w
    rw [Bool.and_eq_true, Bool.and_eq_true, Bool.and_eq_true, decide_eq_true_eq, decide_eq_true_eq, decide_eq_true_eq, h i hi] at w
    refine Bool.eq_false_iff.mpr (fun z => ?_)
    have := fre_t.mp z i hi w.1 w.2.1 w.2.2.1
    rw [this] at w
    exact absurd w.2.2.2 (by decide)
  | false =>
    refine fre_t.mpr (fun i hi a b c => ?_)
    cases e2 : br2 E k (pl k) i (now i) with
    | false => rfl
    | true =>
      have : anyb (bat E k (pl k) now') (nt E) = true := anyb_t.mpr ⟨i, hi, by unfold bat; rw [h i hi, decide_eq_true a, decide_eq_true b, decide_eq_true c, e2]; rfl⟩
      rw [this] at e; cases e
theorem sil_of {E : Nat → Nat → Int} {k : Nat} {c : Int} {now now' : Nat → Int} {j : Nat} (h : now j = now' j) : sil E k c now j = sil E k c now' j := by unfold sil; rw [h]
def cu (f : Nat → Bool) (g : Nat → Nat) : Nat → Nat
  | 0 => 0
  | n + 1 => cu f g n + (if f n = true then g n else 0)
theorem cst_of {S S' : Nat → Nat → Int} {s : Nat} (h : S' (170 + s) = S (170 + s)) : cst S' s = cst S s := by unfold cst; rw [h]
theorem RT.many {S0 S : Nat → Nat → Int} {uc us : Nat} (rt : RT S0 S uc us) {f : Nat → Bool} {n : Nat} (hn : n ≤ 8) (hf : ∀ s, s < n → f s = true → LI S0 s ∧ LI S s ∧ S (170 + s) 2 ≤ S0 (170 + s) 2 + 2) : ∃ S', RT S0 S' (uc + cu f (fun _ => 3) n) (us + cu f (cst S) n) ∧ (∀ t, n ≤ t → t < 8 → S' (170 + t) = S (170 + t)) ∧ ∀ t, t < 8 → f t = false → S' (170 + t) = S (170 + t) := by
  induction n with
  | zero => exact ⟨S, rt, fun _ _ _ => rfl, fun _ _ _ => rfl⟩
  | succ n ih =>
    obtain ⟨S1, r1, r2, r3⟩ := ih (by omega) (fun s hs w => hf s (by omega) w)
    unfold cu
    by_cases c : f n = true
    · rw [if_pos c, if_pos c]
      obtain ⟨l0, l1, l2⟩ := hf n (by omega) c
      have en := r2 n (Nat.le_refl _) (by omega)
      have l1' : LI S1 n := by unfold LI; rw [en]; exact l1
      refine ⟨fun k i => if k = 170 + n then (if i = 2 then S1 (170 + n) 2 + 2 else if i = 3 then cap2 (S1 (170 + n) 2) (S1 (170 + n) 3) else 0) else S1 k i, ?_, fun t ht h8 => ?_, fun t h8 w => ?_⟩
      · rw [← Nat.add_assoc, ← Nat.add_assoc, ← cst_of en]
        refine r1.step (s := n) (by omega) l0 l1' (by rw [en]; exact l2) ?_ ?_ (fun t _ ht => ?_)
        · show (if 170 + n = 170 + n then _ else _) = _; rw [if_pos rfl, if_pos rfl]
        · show (if 170 + n = 170 + n then (if (3 : Nat) = 2 then _ else _) else _) = _; rw [if_pos rfl, if_neg (by decide), if_pos rfl]
        · funext i; show (if 170 + t = 170 + n then _ else _) = _; rw [if_neg (by omega)]
      · rw [← r2 t (by omega) h8]
        funext i; show (if 170 + t = 170 + n then _ else _) = _; rw [if_neg (by omega)]
      · have y : t ≠ n := fun y => by subst y; rw [w] at c; cases c
        rw [← r3 t h8 w]
        funext i; show (if 170 + t = 170 + n then _ else _) = _; rw [if_neg (by omega)]
    · rw [if_neg c, if_neg c]
      exact ⟨S1, r1, fun t ht h8 => r2 t (by omega) h8, r3⟩
section MV
variable {G : Gx} {A : Nat → Nat} {B : Nat → Nat → Nat} {S S0 : Nat → Nat → Int} {h : hw}
theorem Pic.mset3 (P : Pic G A B S h) (hM : MO S) (rm : RM S0 S) {uc us : Nat} (rt : RT S0 S uc us) (hl0 : ∀ t, t < ntM S → LI S0 t) {s : Nat} (hs : s < ntM S) (h2 : S (170 + s) 2 ≤ S0 (170 + s) 2 + 2) {c : Int} (hc : -1 ≤ c ∧ c ≤ 7) (hday : 0 ≤ S 80 1 ∧ S 80 1 ≤ 100000) (hcap : ∀ t, t < 8 → S0 (170 + t) 3 ≤ 4000) (eN : ntM S = ntM S0) {x y : Int32} (hx : x = ii (s : Int)) (hy : y = ii c) {post : hw → Prop} (q : ∀ A' B' S' h', Pic G A' B' S' h' → (∀ k, k < 180 → A' k = A k) → (∀ k, ¬ kM k → S' k = S k) → S' 113 = up (S 113) s c → RM S0 S' → RT S0 S' (uc + 3) (us + cst S s) → MO S' → S' (170 + s) 2 = S (170 + s) 2 + 2 → (∀ t, t < 8 → t ≠ s → S' (170 + t) = S (170 + t)) → post h') : (isO h (A 80) 12 ∧ wp_X12_set G (A 80) x y h 3 (cst S s) post) := by
  obtain ⟨n8, n4, n5⟩ := ntM_8 hM
  have hR := rm.1
  have hs81 : (s : Int) < S 81 2 := by rw [hR.1]; omega
  obtain ⟨li, lev, lvv⟩ := hR.2.2.2 s hs81
  have l0 := hl0 s hs
  have a3 := (rt.1 s (by omega)).2.2
  have c3 : S (170 + s) 3 ≤ 600000 := by
    have := hcap s (by omega)
    rcases a3 with w | ⟨w, w2⟩
    · omega
    · rw [w]; unfold gr; split <;> omega
  have grn : 0 ≤ gr (S (170 + s) 3) := by have := li.2.2.1; have := li.1; have := li.2.1; unfold gr; split <;> omega
  have hday2 : rg (S 80 1) := ⟨by omega, by omega⟩
  have after : ∀ S' : Nat → Nat → Int, S' (170 + s) 2 = S (170 + s) 2 + 2 → S' (170 + s) 3 = cap2 (S (170 + s) 2) (S (170 + s) 3) → (∀ t, t < 8 → t ≠ s → S' (170 + t) = S (170 + t)) → RT S0 S' (uc + 3) (us + cst S s) := fun S' e2 e3 ho => rt.step (by omega) l0 li h2 e2 e3 ho
  refine ⟨P.o (k := 80) rfl, ?_⟩
  refine P.mset hM hR hs hx hy (by decide) (by unfold cst; split <;> omega) c3 hday2 ⟨by omega, by omega⟩ (fun A' B' S' h' P' a f g1 g2 g3 g4 g5 g6 => ?_)
  have ho : ∀ t, t < 8 → t ≠ s → S' (170 + t) = S (170 + t) := fun t ht hne => f _ (by omega) (by omega) (by omega)
  have f80 : S' 80 = S 80 := f 80 (by omega) (by omega) (by omega)
  have eE : EM S' = EM S := by
    funext k i
    unfold EM
    rw [f 106 (by omega) (by omega) (by omega), f 107 (by omega) (by omega) (by omega), f 108 (by omega) (by omega) (by omega), f 105 (by omega) (by omega) (by omega), f 109 (by omega) (by omega) (by omega), f 110 (by omega) (by omega) (by omega), f 111 (by omega) (by omega) (by omega), f 112 (by omega) (by omega) (by omega), f80]
  refine q A' B' S' h' P' a (fun k hk => f k (fun z => hk (Or.inl z)) (fun z => hk (Or.inr (Or.inl (by omega)))) (fun z => hk (Or.inr (Or.inr (by omega))))) g1 ?_ (after S' g2 g3 ho) ⟨by rw [eE]; exact hM.1, fun j hj => by
    rw [g1]; unfold up
    split
    · exact hc
    · exact hM.2 j hj⟩ g2 ho
  refine ⟨⟨?_, ?_, ?_, fun t ht => ?_⟩, by rw [f80]; exact rm.2.1, fun j hj d => ?_⟩
  · rw [f 81 (by omega) (by omega) (by omega), f80]; exact hR.1
  · rw [f 81 (by omega) (by omega) (by omega)]; exact hR.2.1
  · rw [f 50 (by omega) (by omega) (by omega), f 51 (by omega) (by omega) (by omega)]; exact hR.2.2.1
  · rw [f 81 (by omega) (by omega) (by omega)] at ht
    by_cases y : t = s
    · subst y
      exact ⟨g5, by rw [g2]; omega, g6⟩
    · have r8 := hR.1
      unfold LI LV
      rw [f (170 + t) (by omega) (by omega) (by omega), f (190 + t) (by omega) (by omega) (by omega)]
      exact hR.2.2.2 t ht
  · have b := rm.2.2 j hj d
    have r80 := rm.2.1
    rw [g1]
    unfold up
    by_cases y : j = s
    · subst y
      rw [g4 d, if_pos rfl, r80]
      by_cases w : S0 80 1 ≤ d
      · rw [if_pos w, if_pos w]
      · rw [if_neg w, if_neg w, b, if_neg w]
    · rw [if_neg y, LM_of (f _ (by omega) (by omega) (by omega)) (f _ (by omega) (by omega) (by omega)), b]
theorem Pic.mbat (P : Pic G A B S h) (hM : MO S) {k : Nat} (hk : k < 8) {c : Int} (hc : -1 ≤ c ∧ c ≤ 7) {x y : Int32} (hx : x = ii (k : Int)) (hy : y = ii c) {post : Int32 → Prop} (q : post (ii (bI (anyb (bat (EM S) k c (S 113)) (ntM S))))) : wp_X12_isBarredAt G (A 80) x y h post := by
  obtain ⟨n8, n4, n5⟩ := ntM_8 hM
  have p7 := hM.1.2.2.2.2.2.2.2.1
  subst hx hy
  intro J hJ
  obtain ⟨f, hf⟩ : ∃ f, f = bat (EM S) k c (S 113) := ⟨_, rfl⟩
  rw [← hf] at q
  have main : ∀ i : Nat, i ≤ ntM S → J (ii (bI (anyb f i))) (ii (i : Int)) := by
    intro i hi
    refine lp_up (J := fun i : Nat => J (ii (bI (anyb f i))) (ii (i : Int))) (n := ntM S) ?_ ?_ hi
    · apply hJ
      refine P.rI (k := 80) rfl rfl ?_
      rw [n4, ii_le ⟨by omega, by omega⟩ ⟨by omega, by omega⟩]
      exact ⟨fun _ => ⟨bI_01 _, q⟩, fun z => absurd (Int.le_refl _) z⟩
    · intro i hi ih
      have e : anyb f (i + 1) = (anyb f i || f i) := rfl
      have ci := hM.2 i (by omega)
      have e7 := EM_7 (S := S) (show i < 8 by omega)
      have p7i := p7 i
      have ef : f i = (decide (i ≠ k) && (decide (EM S 7 i = 1) && (decide (S 113 i ≠ -1) && br2 (EM S) k c i (S 113 i)))) := by rw [hf]; rfl
      rw [e] at ih
      apply hJ
      refine P.rI (k := 80) rfl rfl ?_
      rw [n4, ii_le ⟨by omega, by omega⟩ ⟨by omega, by omega⟩]
      refine ⟨fun z => absurd z (by omega), fun _ => ?_⟩
      intro J68 hJ68 J63 hJ63
      have yes : (anyb f i || f i) = true → J63 := fun z => by
        apply hJ63; apply hJ68; rw [ii_inc']; rw [z] at ih; exact ih
      rw [bI_1, bI_0]
      refine ⟨fun w => yes (by rw [w]; rfl), fun w => ?_⟩
      intro J67 hJ67
      rw [w, Bool.false_or] at ih yes
      have no : f i = false → J67 := fun z => by
        apply hJ67; apply hJ68; rw [ii_inc']; rw [z] at ih; exact ih
      rw [ii_eq ⟨by omega, by omega⟩ ⟨by omega, by omega⟩]
      refine ⟨fun z => no (by rw [ef, decide_eq_false (p := i ≠ k) (by omega)]; rfl), fun z => ?_⟩
      have z1 : decide (i ≠ k) = true := decide_eq_true (by omega)
      refine P.mprot rfl (by omega) ?_
      rw [← e7, il_0, ii_eq ⟨by omega, by omega⟩ ⟨by decide, by decide⟩]
      refine ⟨fun u => no (by rw [ef, decide_eq_false (p := EM S 7 i = 1) (by omega)]; simp), fun u => ?_⟩
      have z2 : decide (EM S 7 i = 1) = true := decide_eq_true (by omega)
      refine P.mnow rfl (by omega) ?_
      rw [il_m1, ii_eq ⟨by omega, by omega⟩ ⟨by decide, by decide⟩]
      refine ⟨fun u => no (by rw [ef, decide_eq_false (p := S 113 i ≠ -1) (fun k => k u)]; simp), fun u => ?_⟩
      rw [z1, z2, decide_eq_true u, Bool.true_and, Bool.true_and, Bool.true_and] at ef
      refine P.mnow rfl (by omega) ?_
      refine ⟨P.o (k := 80) rfl, P.mbar hM hk (by omega) (c := c) (d := S 113 i) ⟨by omega, by omega⟩ ⟨by omega, by omega⟩ rfl rfl rfl rfl ?_⟩
      rw [← ef, ← il_0, bI_1, bI_0]
      exact ⟨fun v => no v, fun v => yes v⟩
  have := main 0 (Nat.zero_le _)
  exact this
theorem Pic.mmoves (P : Pic G A B S h) (hM : MO S) (rm : RM S0 S) {uc us : Nat} (rt : RT S0 S uc us) (hl0 : ∀ t, t < ntM S → LI S0 t) (eN : ntM S = ntM S0) (hday : 0 ≤ S 80 1 ∧ S 80 1 ≤ 100000) (hcap : ∀ t, t < 8 → S0 (170 + t) 3 ≤ 4000) {bc bs : Nat} (hroom : ∀ (S' : Nat → Nat → Int) (uc us : Nat), RT S0 S' uc us → uc ≤ bc ∧ us ≤ bs) {k : Nat} (hk : k < ntM S) (hkp : EM S 7 k = 1) {c its : Int} (hc : 0 ≤ c ∧ c ≤ 7) (hsz : ∀ j, j < 8 → (j = k ∨ sil (EM S) k c (S 113) j = true) → S (170 + j) 2 ≤ S0 (170 + j) 2 + 2) {x y z : Int32} (hx : x = ii (k : Int)) (hy : y = ii c) (hz : z = ii its) {post : hw → Nat → Nat → Prop} (q : ∀ A' B' S' h' uc' us', Pic G A' B' S' h' → (∀ k, k < 180 → A' k = A k) → (∀ k, ¬ kM k → k ≠ 129 → S' k = S k) → (∀ j, S' 113 j = mvn (EM S) k c (S 113) j) → S' 129 = up (S 129) k its → RM S0 S' → RT S0 S' uc' us' → MO S' → (∀ j, j < 8 → S' (170 + j) 2 = S (170 + j) 2 + (if j = k ∨ sil (EM S) k c (S 113) j = true then 2 else 0)) → post h' uc' us') : ∃ bc2 bs2 : Nat, uc + bc2 ≤ bc ∧ us + bs2 ≤ bs ∧ (isO h (A 80) 12 ∧ wp_X12_moves G (A 80) x y z h bc2 bs2 (fun h' => post h' (uc + bc2) (us + bs2))) := by
  obtain ⟨n8, n4, n5⟩ := ntM_8 hM
  subst hx hy hz
  obtain ⟨f, hf⟩ : ∃ f, f = sil (EM S) k c (S 113) := ⟨_, rfl⟩
  rw [← hf] at hsz q
  have fk : f k = false := by
    rw [hf]; unfold sil
    rw [decide_eq_false (fun z => z.2.1 hkp), Bool.false_and]
  have fn : ∀ j, f j = true → j < ntM S := fun j hj => by
    rw [hf] at hj; unfold sil at hj; rw [Bool.and_eq_true, decide_eq_true_eq (p := _ ∧ _ ∧ _)] at hj; exact hj.1.1
  have li : ∀ s, s < ntM S → LI S s := fun s hs => (rm.1.2.2.2 s (by rw [rm.1.1]; omega)).1
  obtain ⟨SV, v1, v2, v3⟩ := rt.many (f := f) n8 (fun s hs w => ⟨hl0 s hs, li s hs, hsz s (by omega) (Or.inr w)⟩)
  have room := hroom (fun k' i => if k' = 170 + k then (if i = 2 then S (170 + k) 2 + 2 else if i = 3 then cap2 (S (170 + k) 2) (S (170 + k) 3) else 0) else SV k' i) (uc + cu f (fun _ => 3) (ntM S) + 3) (us + cu f (cst S) (ntM S) + cst S k) (by
    have ek := v3 k (by omega) fk
    rw [← cst_of ek]
    refine v1.step (s := k) (by omega) (hl0 k hk) (by unfold LI; rw [ek]; exact li k hk) (by rw [ek]; exact hsz k (by omega) (Or.inl rfl)) ?_ ?_ (fun t _ ht => ?_)
    · show (if 170 + k = 170 + k then _ else _) = _; rw [if_pos rfl, if_pos rfl, ek]
    · show (if 170 + k = 170 + k then (if (3 : Nat) = 2 then _ else _) else _) = _; rw [if_pos rfl, if_neg (by decide), if_pos rfl, ek]
    · funext i; show (if 170 + t = 170 + k then _ else _) = _; rw [if_neg (by omega)])
  refine ⟨cu f (fun _ => 3) (ntM S) + 3, cu f (cst S) (ntM S) + cst S k, by omega, by omega, P.o (k := 80) rfl, ?_⟩
  obtain ⟨T3, hT3⟩ : ∃ T3, T3 = cu f (fun _ => 3) (ntM S) := ⟨_, rfl⟩
  obtain ⟨Ts, hTs⟩ : ∃ Ts, Ts = cu f (cst S) (ntM S) := ⟨_, rfl⟩
  rw [← hT3, ← hTs]
  refine P.rI (k := 80) rfl rfl ?_
  intro J hJ
  have main : ∀ i : Nat, i ≤ ntM S → ∀ (A' : Nat → Nat) (B' : Nat → Nat → Nat) (S' : Nat → Nat → Int) (h' : hw) (u v : Nat), Pic G A' B' S' h' → (∀ k, k < 180 → A' k = A k) → (∀ k, ¬ kM k → S' k = S k) → (∀ j, S' 113 j = if i ≤ j ∧ f j = true then -1 else S 113 j) → RM S0 S' → RT S0 S' (uc + u) (us + v) → MO S' → u + cu f (fun _ => 3) i = T3 → v + cu f (cst S) i = Ts → (∀ j, j < 8 → (i ≤ j ∧ f j = true → S' (170 + j) 2 = S (170 + j) 2 + 2) ∧ (¬ (i ≤ j ∧ f j = true) → S' (170 + j) = S (170 + j))) → J (ii ((i : Int) - 1)) h' u v := by
    intro i hi
    induction i with
    | zero =>
      intro A' B' S' h' u v P' a1 m1 m2 m3 m4 m5 m6 m7 m8
      have e80 : S' 80 = S 80 := m1 80 (fun z => by unfold kM at z; omega)
      have eN' : ntM S' = ntM S := by unfold ntM; rw [e80]
      have m6 : u + 0 = T3 := m6
      have m7 : v + 0 = Ts := m7
      have ek : S' (170 + k) = S (170 + k) := (m8 k (by omega)).2 (fun z => by rw [fk] at z; exact absurd z.2 (by decide))
      apply hJ
      rw [il_0, ii_lt ⟨by omega, by omega⟩ ⟨by decide, by decide⟩]
      refine ⟨fun _ => ?_, fun z => absurd (show ((0 : Nat) : Int) - 1 < 0 by omega) z⟩
      refine ⟨3, cst S' k, by omega, by rw [cst_of ek]; omega, ?_⟩
      rw [← a1 80 (by decide)]
      refine P'.mset3 m5 m3 m4 (fun t ht => hl0 t (by rw [eN'] at ht; exact ht)) (s := k) (by rw [eN']; exact hk) (by rw [ek]; exact hsz k (by omega) (Or.inl rfl)) (c := c) ⟨by omega, by omega⟩ (by rw [e80]; exact hday) hcap (by rw [eN']; exact eN) rfl rfl (fun A2 B2 S2 h2 P2 a2 g1 g2 g3 g4 g5 g6 g7 => ?_)
      rw [← a2 80 (by decide)]
      refine P2.ms (k := 129) (i := k) (z := its) ⟨by decide, by decide, rfl, rfl⟩ rfl rfl (show _ < 8 by omega) (fun h3 P3 => ?_)
      have f3 : ∀ j, j ≠ 129 → su S2 129 k its j = S2 j := fun j hj => su_row _ _ hj
      obtain ⟨hM3, eE3, eN3⟩ := g5.of (S' := su S2 129 k its) (fun j hj => f3 j (by omega))
      rw [cst_of ek] at g4
      refine ⟨by omega, by rw [cst_of ek]; omega, q A2 B2 _ h3 (uc + (T3 + 3)) (us + (Ts + cst S k)) P3 (fun j hj => by rw [a2 j hj, a1 j hj]) (fun j a b => by rw [f3 j b, g1 j a, m1 j a]) (fun j => ?_) ?_ (RM.of (S1 := S2) (fun j hj => f3 j (by omega)) (by rw [f3 80 (by decide)]) (by rw [f3 80 (by decide)]) g3) ?_ hM3 (fun j hj => ?_)⟩
      · rw [f3 113 (by decide), g2]
        unfold up mvn
        by_cases y : j = k
        · rw [if_pos y, if_pos y]
        · rw [if_neg y, if_neg y, m2 j, ← hf]
          exact ite_iff ⟨fun z => z.2, fun z => ⟨Nat.zero_le _, z⟩⟩
      · funext j
        unfold up
        by_cases y : j = k
        · subst y; rw [su_at, if_pos rfl]
        · rw [su_nei _ _ _ y, if_neg y, g1 129 (fun z => by unfold kM at z; omega), m1 129 (fun z => by unfold kM at z; omega)]
      · have g4 := g4.of (S' := su S2 129 k its) (fun t ht => f3 _ (by omega))
        rw [show uc + (T3 + 3) = uc + u + 3 by omega, show us + (Ts + cst S k) = us + v + cst S k by omega]
        exact g4
      · rw [f3 _ (by omega)]
        by_cases y : j = k
        · subst y; rw [if_pos (Or.inl rfl), g6, ek]
        · rw [g7 j hj y]
          by_cases w : f j = true
          · rw [if_pos (Or.inr w)]; exact (m8 j hj).1 ⟨Nat.zero_le _, w⟩
          · rw [if_neg (fun z => z.elim y w), (m8 j hj).2 (fun z => w z.2)]; omega
    | succ i ih =>
      intro A' B' S' h' u v P' a1 m1 m2 m3 m4 m5 m6 m7 m8
      have ih := ih (by omega)
      have e80 : S' 80 = S 80 := m1 80 (fun z => by unfold kM at z; omega)
      have eN' : ntM S' = ntM S := by unfold ntM; rw [e80]
      have eE' : EM S' = EM S := by
        have f := fun k hk => m1 k hk
        funext k i
        unfold EM
        rw [m1 106 (fun z => by unfold kM at z; omega), m1 107 (fun z => by unfold kM at z; omega), m1 108 (fun z => by unfold kM at z; omega), m1 105 (fun z => by unfold kM at z; omega), m1 109 (fun z => by unfold kM at z; omega), m1 110 (fun z => by unfold kM at z; omega), m1 111 (fun z => by unfold kM at z; omega), m1 112 (fun z => by unfold kM at z; omega), e80]
      have m6 : u + (cu f (fun _ => 3) i + (if f i = true then 3 else 0)) = T3 := m6
      have m7 : v + (cu f (cst S) i + (if f i = true then cst S i else 0)) = Ts := m7
      have ei : S' (170 + i) = S (170 + i) := (m8 i (by omega)).2 (fun z => by omega)
      apply hJ
      rw [il_0, ii_lt ⟨by omega, by omega⟩ ⟨by decide, by decide⟩]
      refine ⟨fun z => absurd z (by omega), fun _ => ?_⟩
      rw [← a1 80 (by decide)]
      refine ⟨P'.o (k := 80) rfl, P'.moff m5 (k := i) (by rw [eN']; omega) (s := k) (by omega) (by rw [eE']; exact Or.inl hkp) (c := c) ⟨by omega, by omega⟩ (congrArg ii (by omega)) rfl rfl ?_⟩
      rw [eE', decide_eq_true hkp, Bool.true_and, sil_of (now' := S 113) (by rw [m2 i, if_neg (by omega)]), ← hf]
      intro J31 hJ31
      have dn : ii (((i + 1 : Nat) : Int) - 1) + (-1) = ii ((i : Int) - 1) := by
        rw [il_m1, ii_add]
        exact congrArg ii (by omega)
      rw [← il_0, bI_1, bI_0]
      refine ⟨fun w => ?_, fun w => ?_⟩
      · apply hJ31; rw [dn]
        rw [if_neg (fun z => by rw [w] at z; cases z)] at m6 m7
        have fi : ∀ j, (i ≤ j ∧ f j = true) ↔ (i + 1 ≤ j ∧ f j = true) := fun j => ⟨fun z => ⟨by
          rcases Nat.lt_or_ge i j with y | y
          · exact y
          · have : j = i := by omega
            subst this; rw [w] at z; exact absurd z.2 (by decide), z.2⟩, fun z => ⟨by omega, z.2⟩⟩
        exact ih A' B' S' h' u v P' a1 m1 (fun j => by rw [m2 j]; exact ite_iff (fi j).symm) m3 m4 m5 (by omega) (by omega) (fun j hj => ⟨fun z => (m8 j hj).1 ((fi j).mp z), fun z => (m8 j hj).2 (fun y => z ((fi j).mpr y))⟩)
      · rw [if_pos w] at m6 m7
        refine ⟨3, cst S' i, by omega, by rw [cst_of ei]; omega, ?_⟩
        refine P'.mset3 m5 m3 m4 (fun t ht => hl0 t (by rw [eN'] at ht; exact ht)) (s := i) (by rw [eN']; omega) (by rw [ei]; exact hsz i (by omega) (Or.inr w)) (c := -1) ⟨by decide, by decide⟩ (by rw [e80]; exact hday) hcap (by rw [eN']; exact eN) (congrArg ii (by omega)) il_m1 (fun A2 B2 S2 h2 P2 a2 g1 g2 g3 g4 g5 g6 g7 => ?_)
        apply hJ31; rw [dn]
        rw [cst_of ei] at g4 ⊢
        refine ih A2 B2 S2 h2 (u + 3) (v + cst S i) P2 (fun j hj => by rw [a2 j hj, a1 j hj]) (fun j hj => by rw [g1 j hj, m1 j hj]) (fun j => ?_) g3 (by rw [← Nat.add_assoc, ← Nat.add_assoc]; exact g4) g5 (by omega) (by omega) (fun j hj => ⟨fun z => ?_, fun z => ?_⟩)
        · rw [g2]; unfold up
          by_cases y : j = i
          · subst y; rw [if_pos rfl, if_pos ⟨Nat.le_refl _, w⟩]
          · rw [if_neg y, m2 j]; exact ite_iff ⟨fun z => ⟨by omega, z.2⟩, fun z => ⟨by omega, z.2⟩⟩
        · by_cases y : j = i
          · subst y; rw [g6, ei]
          · rw [g7 j hj y]; exact (m8 j hj).1 ⟨by omega, z.2⟩
        · have y : j ≠ i := fun y => z ⟨by omega, by rw [y]; exact w⟩
          rw [g7 j hj y]; exact (m8 j hj).2 (fun u => z ⟨by omega, u.2⟩)
  have := main (ntM S) (Nat.le_refl _) A B S h 0 0 P (fun _ _ => rfl) (fun _ _ => rfl) (fun j => by
    by_cases w : f j = true
    · rw [if_neg (fun z => by have := fn j w; omega)]
    · rw [if_neg (fun z => w z.2)]) rm rt hM (by rw [hT3]; omega) (by rw [hTs]; omega) (fun j hj => ⟨fun z => by have := fn j z.2; omega, fun _ => rfl⟩)
  rw [n4, show ii ((ntM S : Nat) : Int) - 1 = ii (((ntM S : Nat) : Int) - 1) from ii_sub _ 1]
  exact this
end MV
