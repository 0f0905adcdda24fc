/-! the picture, when a list has one more -/
section PL
variable {G : Gx} {A A' : Nat → Nat} {B B' : Nat → Nat → Nat} {S S' : Nat → Nat → Int} {h h' : hw}
theorem ite_iff {α : Type} {c d : Prop} [Decidable c] [Decidable d] {x y : α} (q : c ↔ d) : (if c then x else y) = (if d then x else y) := by
  by_cases z : c
  · rw [if_pos z, if_pos (q.mp z)]
  · rw [if_neg z, if_neg (fun w => z (q.mpr w))]
theorem ctn_cg {k : Nat} (hA : ∀ j, j < 52 → A' j = A j) (hr : k ≠ 52 → k ≠ 53 → k ≠ 82 → k < 180 → S' k = S k) (h50 : k = 50 → A' 52 = A 52) (h51 : k = 51 → A' 53 = A 53) (h52 : k = 52 → ctLA G A' (S' 50) 60 = ctLA G A (S 50) 60) (h53 : k = 53 → ctLA G A' (S' 51) 70 = ctLA G A (S 51) 70) (h6 : 60 ≤ k → k < 70 → ((k : Int) < 60 + S' 50 2 ↔ (k : Int) < 60 + S 50 2)) (h7 : 70 ≤ k → k < 80 → ((k : Int) < 70 + S' 51 2 ↔ (k : Int) < 70 + S 51 2)) : ctn G A' B' S' k = ctn G A B S k := by
  unfold ctn
  by_cases c1 : k < 10
  · rw [if_pos c1, if_pos c1, hr (by omega) (by omega) (by omega) (by omega)]
    unfold ctO
    rw [hA 1 (by omega), hA 2 (by omega), hA 3 (by omega), hA 4 (by omega), hA 5 (by omega), hA 6 (by omega), hA 7 (by omega), hA 8 (by omega), hA 29 (by omega), hA 51 (by omega), hA 50 (by omega), hA 10 (by omega), hA 11 (by omega), hA 12 (by omega), hA 13 (by omega), hA 14 (by omega), hA 15 (by omega), hA 16 (by omega), hA 17 (by omega), hA 18 (by omega), hA 19 (by omega), hA 20 (by omega), hA 21 (by omega), hA 22 (by omega), hA 23 (by omega), hA 24 (by omega), hA 25 (by omega), hA 26 (by omega), hA 27 (by omega), hA 28 (by omega)]
  rw [if_neg c1, if_neg c1]
  by_cases c2 : k < 30
  · rw [if_pos c2, if_pos c2, hA (k + 20) (by omega)]
  rw [if_neg c2, if_neg c2]
  by_cases c3 : k < 50
  · rw [if_pos c3, if_pos c3, hr (by omega) (by omega) (by omega) (by omega)]
  rw [if_neg c3, if_neg c3]
  by_cases c4 : k = 50
  · rw [if_pos c4, if_pos c4, h50 c4, ← c4, hr (by omega) (by omega) (by omega) (by omega)]
  rw [if_neg c4, if_neg c4]
  by_cases c5 : k = 51
  · rw [if_pos c5, if_pos c5, h51 c5, ← c5, hr (by omega) (by omega) (by omega) (by omega)]
  rw [if_neg c5, if_neg c5]
  by_cases c6 : k = 52
  · rw [if_pos c6, if_pos c6]; exact h52 c6
  rw [if_neg c6, if_neg c6]
  by_cases c7 : k = 53
  · rw [if_pos c7, if_pos c7]; exact h53 c7
  rw [if_neg c7, if_neg c7]
  by_cases c8 : k < 60
  · rw [if_pos c8, if_pos c8]
  rw [if_neg c8, if_neg c8]
  by_cases c9 : k < 70
  · rw [if_pos c9, if_pos c9, hr (by omega) (by omega) (by omega) (by omega)]; exact ite_iff (h6 (by omega) c9)
  rw [if_neg c9, if_neg c9]
  by_cases c10 : k < 80
  · rw [if_pos c10, if_pos c10, hr (by omega) (by omega) (by omega) (by omega)]; exact ite_iff (h7 (by omega) c10)
  rw [if_neg c10, if_neg c10]
  by_cases c11 : k = 90
  · rw [if_pos c11, if_pos c11, ← c11, hr (by omega) (by omega) (by omega) (by omega)]
  rw [if_neg c11, if_neg c11]
/-- a new object stands beside the picture -/
theorem Pic.fresh (P : Pic G A B S h) {a : Nat} {e : va_E} (ha : h a = none) : Pic G A B S (hwu h a e) ∧ ∀ k x, ctn G A B S k = some x → A k ≠ a := by
  have ne : ∀ k x, ctn G A B S k = some x → A k ≠ a := fun k x hk z => by have := P.1 k x hk; rw [z, ha] at this; cases this
  refine ⟨⟨fun k x hk => ?_, P.2.1, fun j i hj hi => ?_⟩, ne⟩
  · unfold hwu; rw [if_neg (ne k x hk)]; exact P.1 k x hk
  · have hb := P.2.2 j i hj hi
    unfold hwu; rw [if_neg (fun z => by rw [z, ha] at hb; cases hb)]; exact hb
/-- what is written beside the picture leaves it as it is -/
theorem Pic.side (P : Pic G A B S h) {a : Nat} {e : va_E} (h1 : ∀ k x, ctn G A B S k = some x → A k ≠ a) (h2 : ∀ fs, h a ≠ some (.inr (13, fs))) : Pic G A B S (hwu h a e) := by
  refine ⟨fun k x hk => ?_, P.2.1, fun j i hj hi => ?_⟩
  · unfold hwu; rw [if_neg (h1 k x hk)]; exact P.1 k x hk
  · have hb := P.2.2 j i hj hi
    unfold hwu; rw [if_neg (fun z => by rw [z] at hb; exact h2 _ hb)]; exact hb
/-- a picture out of another one: the keys of c anew -/
theorem Pic.anew (P : Pic G A B S h) (c : Nat → Prop) (hA : ∀ k, ¬ c k → ctn G A' B' S' k = ctn G A B S k ∧ A' k = A k) (hh : ∀ k e, ¬ c k → ctn G A B S k = some e → h' (A k) = some e) (hc : ∀ k e, c k → ctn G A' B' S' k = some e → h' (A' k) = some e) (hd : ∀ k k' e e', c k → ctn G A' B' S' k = some e → ctn G A' B' S' k' = some e' → A' k = A' k' → k = k') (hb : ∀ j i : Nat, (j : Int) < S' 81 2 → (i : Int) < S' (170 + j) 2 → h' (B' j i) = some (.inr (13, [.int (ii (S' (190 + j) i))]))) : Pic G A' B' S' h' := by
  refine ⟨fun k e hk => ?_, fun k k' e e' hk hk' hkk => ?_, hb⟩
  · by_cases z : c k
    · exact hc k e z hk
    · obtain ⟨z1, z2⟩ := hA k z
      rw [z2]; rw [z1] at hk; exact hh k e z hk
  · by_cases z : c k
    · exact hd k k' e e' z hk hk' hkk
    · by_cases z' : c k'
      · exact (hd k' k e' e z' hk' hk hkk.symm).symm
      · obtain ⟨y1, y2⟩ := hA k z
        obtain ⟨y3, y4⟩ := hA k' z'
        rw [y1] at hk; rw [y3] at hk'; rw [y2, y4] at hkk
        exact P.2.1 k k' e e' hk hk' hkk
/-- the numbers of a list with one more -/
def lsu (S : Nat → Nat → Int) (L b0 : Nat) (r : Nat → Int) : Nat → Nat → Int := fun k i => if k = L then (if i = 0 then S L 0 + 1 else if i = 2 then S L 2 + 1 else if i = 3 then 10 else S L i) else if k = b0 + (S L 2).toNat then r i else S k i
theorem lsu_k {L b0 k : Nat} {r : Nat → Int} (h1 : k ≠ L) (h2 : k ≠ b0 + (S L 2).toNat) : lsu S L b0 r k = S k := by
  funext i; unfold lsu; rw [if_neg h1, if_neg h2]
theorem lsu_2 {L b0 : Nat} {r : Nat → Int} : lsu S L b0 r L 2 = S L 2 + 1 := by unfold lsu; rw [if_pos rfl]; rfl
theorem lsu_3 {L b0 : Nat} {r : Nat → Int} : lsu S L b0 r L 3 = 10 := by unfold lsu; rw [if_pos rfl]; rfl
theorem lsu_0 {L b0 : Nat} {r : Nat → Int} : lsu S L b0 r L 0 = S L 0 + 1 := by unfold lsu; rw [if_pos rfl]; rfl
/-- one more object x in the list 50 -/
theorem hcg50 {n : Nat} (hn9 : n ≤ 9) (hbd : S 50 2 ≤ 10 ∧ S 51 2 ≤ 10 ∧ S 81 2 ≤ 10) (en : S 50 2 = (n : Int)) (aot : ∀ k, k ≠ 52 → k ≠ 60 + n → A' k = A k) (hrow : ∀ k, k ≠ 50 → k ≠ 60 + n → S' k = S k) (cu : S' 50 2 = S 50 2 + 1) {k : Nat} (k1 : k ≠ 50) (k2 : k ≠ 52) (k3 : k ≠ 60 + n) : ctn G A' B S' k = ctn G A B S k := by
  refine ctn_cg (fun j hj => aot j (by omega) (by omega)) (fun _ _ _ _ => hrow k k1 k3) (fun z => absurd z k1) (fun z => aot 53 (by omega) (by omega)) (fun z => ?_) (fun z => ?_) (fun z1 z2 => ?_) (fun z1 z2 => ?_)
  · exact absurd z k2
  · have e0 : S' 51 = S 51 := hrow 51 (by omega) (by omega)
    rw [e0]; unfold ctLA
    refine congrArg (fun w => if S 51 3 = 0 then none else some (Sum.inl (G.2.2.1.2.2.2.2, 10, Sum.inr (Sum.inr (Sum.inr (Sum.inr w)))))) ?_
    funext i
    by_cases w : (i : Int) < S 51 2
    · rw [if_pos w, if_pos w, aot (70 + i) (by omega) (by omega)]
    · rw [if_neg w, if_neg w]
  · rw [cu]; omega
  · rw [hrow 51 (by omega) (by omega)]
theorem Pic.add50 (P : Pic G A B S h) (hn : 0 ≤ S 50 2 ∧ S 50 2 ≤ 9) (hbd : S 50 2 ≤ 10 ∧ S 51 2 ≤ 10 ∧ S 81 2 ≤ 10) (h3 : S 50 3 = if S 50 2 = 0 then 0 else 10) {x : Nat} {r : Nat → Int} {e : va_E} (hxe : h x = some e) (hx : ∀ k y, ctn G A B S k = some y → A k ≠ x) (hE : isE h x) (hnew : ∀ A' S', (∀ i, S' (60 + (S 50 2).toNat) i = r i) → S' 50 2 = S 50 2 + 1 → ctn G A' B S' (60 + (S 50 2).toNat) = some e) {bc bs : Nat} (hbc : 1 ≤ bc) (hbs : 10 ≤ bs) {post : Int32 → hw → Prop} (q : ∀ A' h', Pic G A' B (lsu S 50 60 r) h' → (∀ k, k < 50 → A' k = A k) → (A' 80 = A 80 ∧ A' 90 = A 90 ∧ A' 91 = A 91) → A' (60 + (S 50 2).toNat) = x → post 1 h') : wp_Jx4a65c_add_9ea2d G (A 50) x h bc bs post := by
  have cL : ctn G A B S 50 = some (ctL G (S 50) (A 52)) := rfl
  have cE : ctn G A B S 52 = ctLA G A (S 50) 60 := rfl
  have hL := P.1 50 _ cL
  obtain ⟨n, en⟩ : ∃ n : Nat, n = (S 50 2).toNat := ⟨_, rfl⟩
  have n0 : S 50 2 = (n : Int) := by omega
  have hn9 : n ≤ 9 := by omega
  rw [← en] at hnew q
  have cu : lsu S 50 60 r 50 2 = S 50 2 + 1 := lsu_2
  have hrow : ∀ k, k ≠ 50 → k ≠ 60 + n → lsu S 50 60 r k = S k := fun k a1 a2 => lsu_k a1 (by omega)
  have hrn : lsu S 50 60 r (60 + n) = r := by
    funext i; unfold lsu; rw [if_neg (by omega), if_pos (by omega)]
  -- what is common: the new picture from the new heap
  have fin : ∀ (aE : Nat) (h' : hw), (S 50 3 = 0 → h aE = none) → (S 50 3 ≠ 0 → aE = A 52) → aE ≠ x → h' (A 50) = some (.inr (14, [.int (ii (S 50 0 + 1)), .ref aE, .int (ii (S 50 2 + 1))])) → h' aE = some (.inl (G.2.2.1.2.2.2.2, 10, .inr (.inr (.inr (.inr (fun i => if i = n then some x else if i < n then some (A (60 + i)) else none)))))) → (∀ y, y ≠ A 50 → y ≠ aE → h' y = h y) → post 1 h' := by
    intro aE h' e1 e2 e3 g1 g2 g3
    obtain ⟨A', hA'⟩ : ∃ A', A' = fun k => if k = 52 then aE else if k = 60 + n then x else A k := ⟨_, rfl⟩
    have aEq : A' 52 = aE := by rw [hA']; exact if_pos rfl
    have axq : A' (60 + n) = x := by
      rw [hA']
      show (if 60 + n = 52 then _ else _) = x
      rw [if_neg (by omega)]; exact if_pos rfl
    have aot : ∀ k, k ≠ 52 → k ≠ 60 + n → A' k = A k := fun k k1 k2 => by rw [hA']; show (if k = 52 then _ else _) = _; rw [if_neg k1, if_neg k2]
    have nE : ∀ k y, k ≠ 52 → ctn G A B S k = some y → A k ≠ aE := by
      intro k y hk hy z
      by_cases w : S 50 3 = 0
      · have := P.1 k y hy; rw [z, e1 w] at this; cases this
      · rw [e2 w] at z
        have c0 : ∃ y0, ctn G A B S 52 = some y0 := by rw [cE]; unfold ctLA; rw [if_neg w]; exact ⟨_, rfl⟩
        obtain ⟨y0, c0⟩ := c0
        exact hk (P.2.1 k 52 _ _ hy c0 z)
    have hLn : A 50 ≠ x := hx 50 _ cL
    have aLE : A 50 ≠ aE := nE 50 _ (by decide) cL
    refine q A' h' ?_ (fun k hk => aot k (by omega) (by omega)) ⟨aot _ (by omega) (by omega), aot _ (by omega) (by omega), aot _ (by omega) (by omega)⟩ axq
    have hcg : ∀ k, ¬ (k = 50 ∨ k = 52 ∨ k = 60 + n) → ctn G A' B (lsu S 50 60 r) k = ctn G A B S k := by
      intro k hk
      exact hcg50 hn9 hbd n0 aot hrow cu (fun z => hk (Or.inl z)) (fun z => hk (Or.inr (Or.inl z))) (fun z => hk (Or.inr (Or.inr z)))
    have cl' : ctn G A' B (lsu S 50 60 r) 50 = some (.inr (14, [.int (ii (S 50 0 + 1)), .ref aE, .int (ii (S 50 2 + 1))])) := by
      show some (ctL G (lsu S 50 60 r 50) (A' 52)) = _
      unfold ctL
      rw [lsu_0, lsu_2, lsu_3, if_neg (by decide), aEq]
    have ce' : ctn G A' B (lsu S 50 60 r) 52 = some (.inl (G.2.2.1.2.2.2.2, 10, .inr (.inr (.inr (.inr (fun i => if i = n then some x else if i < n then some (A (60 + i)) else none)))))) := by
      show ctLA G A' (lsu S 50 60 r 50) 60 = _
      unfold ctLA
      rw [lsu_2, lsu_3, if_neg (by decide)]
      refine congrArg (fun w => some (Sum.inl (G.2.2.1.2.2.2.2, 10, Sum.inr (Sum.inr (Sum.inr (Sum.inr w)))))) ?_
      funext i
      by_cases y : i = n
      · subst y; rw [if_pos (by omega), if_pos rfl, axq]
      · rw [if_neg y]
        by_cases y2 : i < n
        · rw [if_pos (by omega), if_pos y2, aot (60 + i) (by omega) (by omega)]
        · rw [if_neg (by omega), if_neg y2]
    have cn' : ctn G A' B (lsu S 50 60 r) (60 + n) = some e := hnew A' _ (fun i => congrFun hrn i) lsu_2
    have alq : A' 50 = A 50 := aot 50 (by decide) (by omega)
    have hxL : x ≠ A 50 := Ne.symm hLn
    refine P.anew (fun k => k = 50 ∨ k = 52 ∨ k = 60 + n) (fun k hk => ⟨hcg k hk, aot k (fun z => hk (Or.inr (Or.inl z))) (fun z => hk (Or.inr (Or.inr z)))⟩) (fun k y hk hy => ?_) (fun k y hk hy => ?_) (fun k k' y y' hk hy hy' hkk => ?_) (fun j i hj hi => ?_)
    · rw [g3 (A k) (fun z => hk (Or.inl (P.2.1 k 50 _ _ hy cL z))) (nE k y (fun z => hk (Or.inr (Or.inl z))) hy)]
      exact P.1 k y hy
    · rcases hk with rfl | rfl | rfl
      · rw [cl'] at hy; cases hy; rw [alq]; exact g1
      · rw [ce'] at hy; cases hy; rw [aEq]; exact g2
      · rw [cn'] at hy; cases hy; rw [axq, g3 x hxL (Ne.symm e3)]; exact hxe
    · by_cases w3 : k' = 50 ∨ k' = 52 ∨ k' = 60 + n
      · rcases hk with rfl | rfl | rfl
        · rcases w3 with z | rfl | rfl
          · exact z.symm
          · rw [alq, aEq] at hkk; exact absurd hkk aLE
          · rw [alq, axq] at hkk; exact absurd hkk hLn
        · rcases w3 with rfl | z | rfl
          · rw [alq, aEq] at hkk; exact absurd hkk.symm aLE
          · exact z.symm
          · rw [aEq, axq] at hkk; exact absurd hkk e3
        · rcases w3 with rfl | rfl | z
          · rw [alq, axq] at hkk; exact absurd hkk.symm hLn
          · rw [aEq, axq] at hkk; exact absurd hkk.symm e3
          · exact z.symm
      · have nc : ¬ (k' = 50 ∨ k' = 52 ∨ k' = 60 + n) := w3
        rw [hcg k' nc] at hy'
        rw [aot k' (fun z => w3 (Or.inr (Or.inl z))) (fun z => w3 (Or.inr (Or.inr z)))] at hkk
        rcases hk with rfl | rfl | rfl
        · rw [alq] at hkk; exact P.2.1 _ _ _ _ cL hy' hkk
        · rw [aEq] at hkk; exact absurd hkk.symm (nE k' y' (fun z => w3 (Or.inr (Or.inl z))) hy')
        · rw [axq] at hkk; exact absurd hkk.symm (hx k' y' hy')
    · -- the boxes
      have old : (j : Int) < S 81 2 ∧ (i : Int) < S (170 + j) 2 ∧ lsu S 50 60 r (190 + j) = S (190 + j) := by
        rw [hrow 81 (by decide) (by omega)] at hj
        rw [hrow (170 + j) (by omega) (by omega)] at hi
        exact ⟨hj, hi, hrow _ (by omega) (by omega)⟩
      have hbx := P.2.2 j i old.1 old.2.1
      rw [old.2.2, g3 (B j i) (fun z => by rw [z, hL] at hbx; unfold ctL at hbx; cases hbx) (fun z => ?_)]
      · exact hbx
      · by_cases w : S 50 3 = 0
        · rw [z, e1 w] at hbx; cases hbx
        · rw [z, e2 w] at hbx
          have c0 := P.1 52
          rw [cE] at c0
          unfold ctLA at c0
          rw [if_neg w] at c0
          rw [c0 _ rfl] at hbx
          cases hbx
  by_cases w : S 50 2 = 0
  · have hn00 : n = 0 := by omega
    rw [if_pos w] at h3
    have hL0 : h (A 50) = some (.inr (14, [.int (ii (S 50 0)), .ref (Gt0 G), .int (ii 0)])) := by
      rw [hL]; unfold ctL; rw [if_pos h3, w]
    refine add_0 hbc hbs hL0 hE (fun a h' a1 a2 a3 a4 a5 => ?_)
    refine fin a h' (fun _ => a1) (fun z => absurd h3 z) (fun z => by rw [z, hxe] at a1; cases a1) (by rw [w]; exact a3) ?_ a5
    rw [a4]
    refine congrArg (fun w => some (Sum.inl (G.2.2.1.2.2.2.2, 10, Sum.inr (Sum.inr (Sum.inr (Sum.inr w)))))) ?_
    funext i
    rw [hn00]
    by_cases y : i = 0
    · rw [if_pos y, if_pos y]
    · rw [if_neg y, if_neg y, if_neg (by omega)]
  · rw [if_neg w] at h3
    have h30 : S 50 3 ≠ 0 := by omega
    have hL0 : h (A 50) = some (.inr (14, [.int (ii (S 50 0)), .ref (A 52), .int (ii (S 50 2))])) := by
      rw [hL]; unfold ctL; rw [if_neg h30]
    have hE0 := P.1 52
    rw [cE] at hE0
    unfold ctLA at hE0
    rw [if_neg h30] at hE0
    have cE0 : ctn G A B S 52 = some (.inl (G.2.2.1.2.2.2.2, 10, .inr (.inr (.inr (.inr (fun i => if (i : Int) < S 50 2 then some (A (60 + i)) else none)))))) := by
      rw [cE]; unfold ctLA; rw [if_neg h30]
    refine add_in hL0 (hE0 _ rfl) hE ⟨hn.1, by omega⟩ (by omega) (fun h' a1 a2 a3 => ?_)
    refine fin (A 52) h' (fun z => absurd z h30) (fun _ => rfl) (hx 52 _ cE0) a1 ?_ a3
    rw [a2]
    refine congrArg (fun w => some (Sum.inl (G.2.2.1.2.2.2.2, 10, Sum.inr (Sum.inr (Sum.inr (Sum.inr w)))))) ?_
    funext i
    rw [← en]
    by_cases y : i = n
    · rw [if_pos y, if_pos y]
    · rw [if_neg y, if_neg y]; exact ite_iff (by omega)
/-- one more object x in the list 51 -/
theorem hcg51 {n : Nat} (hn9 : n ≤ 9) (hbd : S 50 2 ≤ 10 ∧ S 51 2 ≤ 10 ∧ S 81 2 ≤ 10) (en : S 51 2 = (n : Int)) (aot : ∀ k, k ≠ 53 → k ≠ 70 + n → A' k = A k) (hrow : ∀ k, k ≠ 51 → k ≠ 70 + n → S' k = S k) (cu : S' 51 2 = S 51 2 + 1) {k : Nat} (k1 : k ≠ 51) (k2 : k ≠ 53) (k3 : k ≠ 70 + n) : ctn G A' B S' k = ctn G A B S k := by
  refine ctn_cg (fun j hj => aot j (by omega) (by omega)) (fun _ _ _ _ => hrow k k1 k3) (fun z => aot 52 (by omega) (by omega)) (fun z => absurd z k1) (fun z => ?_) (fun z => ?_) (fun z1 z2 => ?_) (fun z1 z2 => ?_)
  · have e0 : S' 50 = S 50 := hrow 50 (by omega) (by omega)
    rw [e0]; unfold ctLA
    refine congrArg (fun w => if S 50 3 = 0 then none else some (Sum.inl (G.2.2.1.2.2.2.2, 10, Sum.inr (Sum.inr (Sum.inr (Sum.inr w)))))) ?_
    funext i
    by_cases w : (i : Int) < S 50 2
    · rw [if_pos w, if_pos w, aot (60 + i) (by omega) (by omega)]
    · rw [if_neg w, if_neg w]
  · exact absurd z k2
  · rw [hrow 50 (by omega) (by omega)]
  · rw [cu]; omega
theorem Pic.add51 (P : Pic G A B S h) (hn : 0 ≤ S 51 2 ∧ S 51 2 ≤ 9) (hbd : S 50 2 ≤ 10 ∧ S 51 2 ≤ 10 ∧ S 81 2 ≤ 10) (h3 : S 51 3 = if S 51 2 = 0 then 0 else 10) {x : Nat} {r : Nat → Int} {e : va_E} (hxe : h x = some e) (hx : ∀ k y, ctn G A B S k = some y → A k ≠ x) (hE : isE h x) (hnew : ∀ A' S', (∀ i, S' (70 + (S 51 2).toNat) i = r i) → S' 51 2 = S 51 2 + 1 → ctn G A' B S' (70 + (S 51 2).toNat) = some e) {bc bs : Nat} (hbc : 1 ≤ bc) (hbs : 10 ≤ bs) {post : Int32 → hw → Prop} (q : ∀ A' h', Pic G A' B (lsu S 51 70 r) h' → (∀ k, k < 50 → A' k = A k) → (A' 80 = A 80 ∧ A' 90 = A 90 ∧ A' 91 = A 91) → A' (70 + (S 51 2).toNat) = x → post 1 h') : wp_Jx4a65c_add_9ea2d G (A 51) x h bc bs post := by
  have cL : ctn G A B S 51 = some (ctL G (S 51) (A 53)) := rfl
  have cE : ctn G A B S 53 = ctLA G A (S 51) 70 := rfl
  have hL := P.1 51 _ cL
  obtain ⟨n, en⟩ : ∃ n : Nat, n = (S 51 2).toNat := ⟨_, rfl⟩
  have n0 : S 51 2 = (n : Int) := by omega
  have hn9 : n ≤ 9 := by omega
  rw [← en] at hnew q
  have cu : lsu S 51 70 r 51 2 = S 51 2 + 1 := lsu_2
  have hrow : ∀ k, k ≠ 51 → k ≠ 70 + n → lsu S 51 70 r k = S k := fun k a1 a2 => lsu_k a1 (by omega)
  have hrn : lsu S 51 70 r (70 + n) = r := by
    funext i; unfold lsu; rw [if_neg (by omega), if_pos (by omega)]
  -- what is common: the new picture from the new heap
  have fin : ∀ (aE : Nat) (h' : hw), (S 51 3 = 0 → h aE = none) → (S 51 3 ≠ 0 → aE = A 53) → aE ≠ x → h' (A 51) = some (.inr (14, [.int (ii (S 51 0 + 1)), .ref aE, .int (ii (S 51 2 + 1))])) → h' aE = some (.inl (G.2.2.1.2.2.2.2, 10, .inr (.inr (.inr (.inr (fun i => if i = n then some x else if i < n then some (A (70 + i)) else none)))))) → (∀ y, y ≠ A 51 → y ≠ aE → h' y = h y) → post 1 h' := by
    intro aE h' e1 e2 e3 g1 g2 g3
    obtain ⟨A', hA'⟩ : ∃ A', A' = fun k => if k = 53 then aE else if k = 70 + n then x else A k := ⟨_, rfl⟩
    have aEq : A' 53 = aE := by rw [hA']; exact if_pos rfl
    have axq : A' (70 + n) = x := by
      rw [hA']
      show (if 70 + n = 53 then _ else _) = x
      rw [if_neg (by omega)]; exact if_pos rfl
    have aot : ∀ k, k ≠ 53 → k ≠ 70 + n → A' k = A k := fun k k1 k2 => by rw [hA']; show (if k = 53 then _ else _) = _; rw [if_neg k1, if_neg k2]
    have nE : ∀ k y, k ≠ 53 → ctn G A B S k = some y → A k ≠ aE := by
      intro k y hk hy z
      by_cases w : S 51 3 = 0
      · have := P.1 k y hy; rw [z, e1 w] at this; cases this
      · rw [e2 w] at z
        have c0 : ∃ y0, ctn G A B S 53 = some y0 := by rw [cE]; unfold ctLA; rw [if_neg w]; exact ⟨_, rfl⟩
        obtain ⟨y0, c0⟩ := c0
        exact hk (P.2.1 k 53 _ _ hy c0 z)
    have hLn : A 51 ≠ x := hx 51 _ cL
    have aLE : A 51 ≠ aE := nE 51 _ (by decide) cL
    refine q A' h' ?_ (fun k hk => aot k (by omega) (by omega)) ⟨aot _ (by omega) (by omega), aot _ (by omega) (by omega), aot _ (by omega) (by omega)⟩ axq
    have hcg : ∀ k, ¬ (k = 51 ∨ k = 53 ∨ k = 70 + n) → ctn G A' B (lsu S 51 70 r) k = ctn G A B S k := by
      intro k hk
      exact hcg51 hn9 hbd n0 aot hrow cu (fun z => hk (Or.inl z)) (fun z => hk (Or.inr (Or.inl z))) (fun z => hk (Or.inr (Or.inr z)))
    have cl' : ctn G A' B (lsu S 51 70 r) 51 = some (.inr (14, [.int (ii (S 51 0 + 1)), .ref aE, .int (ii (S 51 2 + 1))])) := by
      show some (ctL G (lsu S 51 70 r 51) (A' 53)) = _
      unfold ctL
      rw [lsu_0, lsu_2, lsu_3, if_neg (by decide), aEq]
    have ce' : ctn G A' B (lsu S 51 70 r) 53 = some (.inl (G.2.2.1.2.2.2.2, 10, .inr (.inr (.inr (.inr (fun i => if i = n then some x else if i < n then some (A (70 + i)) else none)))))) := by
      show ctLA G A' (lsu S 51 70 r 51) 70 = _
      unfold ctLA
      rw [lsu_2, lsu_3, if_neg (by decide)]
      refine congrArg (fun w => some (Sum.inl (G.2.2.1.2.2.2.2, 10, Sum.inr (Sum.inr (Sum.inr (Sum.inr w)))))) ?_
      funext i
      by_cases y : i = n
      · subst y; rw [if_pos (by omega), if_pos rfl, axq]
      · rw [if_neg y]
        by_cases y2 : i < n
        · rw [if_pos (by omega), if_pos y2, aot (70 + i) (by omega) (by omega)]
        · rw [if_neg (by omega), if_neg y2]
    have cn' : ctn G A' B (lsu S 51 70 r) (70 + n) = some e := hnew A' _ (fun i => congrFun hrn i) lsu_2
    have alq : A' 51 = A 51 := aot 51 (by decide) (by omega)
    have hxL : x ≠ A 51 := Ne.symm hLn
    refine P.anew (fun k => k = 51 ∨ k = 53 ∨ k = 70 + n) (fun k hk => ⟨hcg k hk, aot k (fun z => hk (Or.inr (Or.inl z))) (fun z => hk (Or.inr (Or.inr z)))⟩) (fun k y hk hy => ?_) (fun k y hk hy => ?_) (fun k k' y y' hk hy hy' hkk => ?_) (fun j i hj hi => ?_)
    · rw [g3 (A k) (fun z => hk (Or.inl (P.2.1 k 51 _ _ hy cL z))) (nE k y (fun z => hk (Or.inr (Or.inl z))) hy)]
      exact P.1 k y hy
    · rcases hk with rfl | rfl | rfl
      · rw [cl'] at hy; cases hy; rw [alq]; exact g1
      · rw [ce'] at hy; cases hy; rw [aEq]; exact g2
      · rw [cn'] at hy; cases hy; rw [axq, g3 x hxL (Ne.symm e3)]; exact hxe
    · by_cases w3 : k' = 51 ∨ k' = 53 ∨ k' = 70 + n
      · rcases hk with rfl | rfl | rfl
        · rcases w3 with z | rfl | rfl
          · exact z.symm
          · rw [alq, aEq] at hkk; exact absurd hkk aLE
          · rw [alq, axq] at hkk; exact absurd hkk hLn
        · rcases w3 with rfl | z | rfl
          · rw [alq, aEq] at hkk; exact absurd hkk.symm aLE
          · exact z.symm
          · rw [aEq, axq] at hkk; exact absurd hkk e3
        · rcases w3 with rfl | rfl | z
          · rw [alq, axq] at hkk; exact absurd hkk.symm hLn
          · rw [aEq, axq] at hkk; exact absurd hkk.symm e3
          · exact z.symm
      · have nc : ¬ (k' = 51 ∨ k' = 53 ∨ k' = 70 + n) := w3
        rw [hcg k' nc] at hy'
        rw [aot k' (fun z => w3 (Or.inr (Or.inl z))) (fun z => w3 (Or.inr (Or.inr z)))] at hkk
        rcases hk with rfl | rfl | rfl
        · rw [alq] at hkk; exact P.2.1 _ _ _ _ cL hy' hkk
        · rw [aEq] at hkk; exact absurd hkk.symm (nE k' y' (fun z => w3 (Or.inr (Or.inl z))) hy')
        · rw [axq] at hkk; exact absurd hkk.symm (hx k' y' hy')
    · -- the boxes
      have old : (j : Int) < S 81 2 ∧ (i : Int) < S (170 + j) 2 ∧ lsu S 51 70 r (190 + j) = S (190 + j) := by
        rw [hrow 81 (by decide) (by omega)] at hj
        rw [hrow (170 + j) (by omega) (by omega)] at hi
        exact ⟨hj, hi, hrow _ (by omega) (by omega)⟩
      have hbx := P.2.2 j i old.1 old.2.1
      rw [old.2.2, g3 (B j i) (fun z => by rw [z, hL] at hbx; unfold ctL at hbx; cases hbx) (fun z => ?_)]
      · exact hbx
      · by_cases w : S 51 3 = 0
        · rw [z, e1 w] at hbx; cases hbx
        · rw [z, e2 w] at hbx
          have c0 := P.1 53
          rw [cE] at c0
          unfold ctLA at c0
          rw [if_neg w] at c0
          rw [c0 _ rfl] at hbx
          cases hbx
  by_cases w : S 51 2 = 0
  · have hn00 : n = 0 := by omega
    rw [if_pos w] at h3
    have hL0 : h (A 51) = some (.inr (14, [.int (ii (S 51 0)), .ref (Gt0 G), .int (ii 0)])) := by
      rw [hL]; unfold ctL; rw [if_pos h3, w]
    refine add_0 hbc hbs hL0 hE (fun a h' a1 a2 a3 a4 a5 => ?_)
    refine fin a h' (fun _ => a1) (fun z => absurd h3 z) (fun z => by rw [z, hxe] at a1; cases a1) (by rw [w]; exact a3) ?_ a5
    rw [a4]
    refine congrArg (fun w => some (Sum.inl (G.2.2.1.2.2.2.2, 10, Sum.inr (Sum.inr (Sum.inr (Sum.inr w)))))) ?_
    funext i
    rw [hn00]
    by_cases y : i = 0
    · rw [if_pos y, if_pos y]
    · rw [if_neg y, if_neg y, if_neg (by omega)]
  · rw [if_neg w] at h3
    have h30 : S 51 3 ≠ 0 := by omega
    have hL0 : h (A 51) = some (.inr (14, [.int (ii (S 51 0)), .ref (A 53), .int (ii (S 51 2))])) := by
      rw [hL]; unfold ctL; rw [if_neg h30]
    have hE0 := P.1 53
    rw [cE] at hE0
    unfold ctLA at hE0
    rw [if_neg h30] at hE0
    have cE0 : ctn G A B S 53 = some (.inl (G.2.2.1.2.2.2.2, 10, .inr (.inr (.inr (.inr (fun i => if (i : Int) < S 51 2 then some (A (70 + i)) else none)))))) := by
      rw [cE]; unfold ctLA; rw [if_neg h30]
    refine add_in hL0 (hE0 _ rfl) hE ⟨hn.1, by omega⟩ (by omega) (fun h' a1 a2 a3 => ?_)
    refine fin (A 53) h' (fun z => absurd z h30) (fun _ => rfl) (hx 53 _ cE0) a1 ?_ a3
    rw [a2]
    refine congrArg (fun w => some (Sum.inl (G.2.2.1.2.2.2.2, 10, Sum.inr (Sum.inr (Sum.inr (Sum.inr w)))))) ?_
    funext i
    rw [← en]
    by_cases y : i = n
    · rw [if_pos y, if_pos y]
    · rw [if_neg y, if_neg y]; exact ite_iff (by omega)
end PL
