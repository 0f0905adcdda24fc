/-! the picture, when a station's own list has one more number -/
def grw (n c : Int) : Int := if n = c then (if c = 0 then 10 else c + c / 2) else c
def liu (S : Nat → Nat → Int) (s : Nat) (v : Int) : Nat → Nat → Int := fun k i => if k = 170 + s then (if i = 0 then S k 0 + 1 else if i = 2 then S k 2 + 1 else if i = 3 then grw (S k 2) (S k 3) else S k i) else if k = 190 + s ∧ i = (S (170 + s) 2).toNat then v else S k i
/-- a station's own list is in order -/
def LI (S : Nat → Nat → Int) (s : Nat) : Prop := 0 ≤ S (170 + s) 2 ∧ S (170 + s) 2 ≤ S (170 + s) 3 ∧ (S (170 + s) 3 = 0 ∨ 10 ≤ S (170 + s) 3) ∧ S (170 + s) 3 ≤ 1000000
section PI
variable {G : Gx} {A : Nat → Nat} {B : Nat → Nat → Nat} {S : Nat → Nat → Int} {h : hw}
theorem liu_k {s k : Nat} {v : Int} (h1 : k ≠ 170 + s) (h2 : k ≠ 190 + s) : liu S s v k = S k := by
  funext i; unfold liu; rw [if_neg h1, if_neg (fun z => h2 z.1)]
theorem liu_0 {s : Nat} {v : Int} : liu S s v (170 + s) 0 = S (170 + s) 0 + 1 := by unfold liu; rw [if_pos rfl]; rfl
theorem liu_2 {s : Nat} {v : Int} : liu S s v (170 + s) 2 = S (170 + s) 2 + 1 := by unfold liu; rw [if_pos rfl]; rfl
theorem liu_3 {s : Nat} {v : Int} : liu S s v (170 + s) 3 = grw (S (170 + s) 2) (S (170 + s) 3) := by unfold liu; rw [if_pos rfl]; rfl
theorem liu_v {s : Nat} {v : Int} : liu S s v (190 + s) = up (S (190 + s)) (S (170 + s) 2).toNat v := by
  funext i; unfold liu up; rw [if_neg (by omega)]
  by_cases y : i = (S (170 + s) 2).toNat
  · rw [if_pos ⟨rfl, y⟩, if_pos y]
  · rw [if_neg (fun z => y z.2), if_neg y]
theorem ctn_170 {s : Nat} (hs : (s : Int) < S 81 2) (h8 : S 81 2 ≤ 8) : ctn G A B S (170 + s) = some (ctL G (S (170 + s)) (A (180 + s))) := by
  unfold ctn
  rw [if_neg (by omega), if_neg (by omega), if_neg (by omega), if_neg (by omega), if_neg (by omega), if_neg (by omega), if_neg (by omega), if_neg (by omega), if_neg (by omega), if_neg (by omega), if_neg (by omega), if_neg (by omega), if_neg (by omega), if_neg (by omega), if_neg (by omega), if_neg (by omega), if_neg (by omega), if_neg (by omega), if_pos (by omega), if_pos (by omega), show 170 + s + 10 = 180 + s by omega]
theorem ctn_180 {s : Nat} (hs : (s : Int) < S 81 2) (h8 : S 81 2 ≤ 8) : ctn G A B S (180 + s) = ctSA G (B s) (S (170 + s)) := by
  unfold ctn
  rw [if_neg (by omega), if_neg (by omega), if_neg (by omega), if_neg (by omega), if_neg (by omega), if_neg (by omega), if_neg (by omega), if_neg (by omega), if_neg (by omega), if_neg (by omega), if_neg (by omega), if_neg (by omega), if_neg (by omega), if_neg (by omega), if_neg (by omega), if_neg (by omega), if_neg (by omega), if_neg (by omega), if_neg (by omega), if_pos (by omega), if_pos (by omega), show 180 + s - 180 = s by omega, show 180 + s - 10 = 170 + s by omega]
theorem Pic.addI (P : Pic G A B S h) {s : Nat} (hs : (s : Int) < S 81 2) (h8 : S 81 2 ≤ 8) (hbd : S 50 2 ≤ 10 ∧ S 51 2 ≤ 10) (hli : LI S s) {x : Nat} {v : Int} (hx : h x = some (.inr (13, [.int (ii v)]))) {bc bs : Nat} (hbc : S (170 + s) 2 = S (170 + s) 3 → 1 ≤ bc ∧ grw (S (170 + s) 2) (S (170 + s) 3) ≤ bs) {post : Int32 → hw → Prop} (q : ∀ A' B' h', Pic G A' B' (liu S s v) h' → (∀ k, k ≠ 180 + s → A' k = A k) → post 1 h') : wp_Jx4a65c_add_9ea2d G (A (170 + s)) x h bc bs post := by
  obtain ⟨l0, l1, l2, l3⟩ := hli
  have cL := ctn_170 (G := G) (A := A) (B := B) hs h8
  have cE := ctn_180 (G := G) (A := A) (B := B) hs h8
  have hL := P.1 _ _ cL
  have hE : isE h x := ⟨_, _, hx, Or.inr (Or.inr (Or.inl rfl))⟩
  have hxk : ∀ k y, ctn G A B S k = some y → A k ≠ x := fun k y hy z => by
    have := P.1 k y hy
    rw [z, hx] at this
    exact ctn_13 hy _ (Option.some.inj this).symm
  have fin : ∀ (aE : Nat) (h' : hw), (S (170 + s) 2 = S (170 + s) 3 → h aE = none) → (S (170 + s) 2 ≠ S (170 + s) 3 → aE = A (180 + s)) → h' (A (170 + s)) = some (.inr (14, [.int (ii (S (170 + s) 0 + 1)), .ref aE, .int (ii (S (170 + s) 2 + 1))])) → h' aE = some (.inl (G.2.2.1.2.2.2.2, (grw (S (170 + s) 2) (S (170 + s) 3)).toNat, .inr (.inr (.inr (.inr (fun i => if i = (S (170 + s) 2).toNat then some x else if i < (S (170 + s) 2).toNat then some (B s i) else none)))))) → (∀ y, y ≠ A (170 + s) → y ≠ aE → h' y = h y) → post 1 h' := by
    intro aE h' e1 e2 g1 g2 g3
    obtain ⟨A', hA'⟩ : ∃ A', A' = fun k => if k = 180 + s then aE else A k := ⟨_, rfl⟩
    obtain ⟨B', hB'⟩ : ∃ B' : Nat → Nat → Nat, B' = fun j i => if j = s ∧ i = (S (170 + s) 2).toNat then x else B j i := ⟨_, rfl⟩
    have aEq : A' (180 + s) = aE := by rw [hA']; exact if_pos rfl
    have aot : ∀ k, k ≠ 180 + s → A' k = A k := fun k k1 => by rw [hA']; exact if_neg k1
    have bq : B' s (S (170 + s) 2).toNat = x := by rw [hB']; exact if_pos ⟨rfl, rfl⟩
    have bot : ∀ j i, ¬ (j = s ∧ i = (S (170 + s) 2).toNat) → B' j i = B j i := fun j i z => by rw [hB']; exact if_neg z
    have nE : ∀ k y, k ≠ 180 + s → ctn G A B S k = some y → A k ≠ aE := by
      intro k y hk hy z
      by_cases w : S (170 + s) 2 = S (170 + s) 3
      · have := P.1 k y hy; rw [z, e1 w] at this; cases this
      · rw [e2 w] at z
        have c0 : ∃ y0, ctn G A B S (180 + s) = some y0 := by rw [cE]; unfold ctSA; rw [if_neg (by omega)]; exact ⟨_, rfl⟩
        obtain ⟨y0, c0⟩ := c0
        exact hk (P.2.1 k _ _ _ hy c0 z)
    have r81 : liu S s v 81 = S 81 := liu_k (by omega) (by omega)
    have hs' : (s : Int) < liu S s v 81 2 := by rw [r81]; exact hs
    have h8' : liu S s v 81 2 ≤ 8 := by rw [r81]; exact h8
    have gpos : 0 < grw (S (170 + s) 2) (S (170 + s) 3) := by
      unfold grw
      split
      · split <;> omega
      · omega
    have hcg : ∀ k, ¬ (k = 170 + s ∨ k = 180 + s) → ctn G A' B' (liu S s v) k = ctn G A B S k := by
      intro k hk
      have k1 : k ≠ 170 + s := fun z => hk (Or.inl z)
      have k2 : k ≠ 180 + s := fun z => hk (Or.inr z)
      have e50 : liu S s v 50 = S 50 := liu_k (by omega) (by omega)
      have e51 : liu S s v 51 = S 51 := liu_k (by omega) (by omega)
      refine ctn_cg (fun j hj => aot j (by omega)) ⟨aot 81 (by omega), fun j j1 j2 => aot j (by omega)⟩ (fun _ _ _ _ => liu_k k1 (by omega)) (fun z => aot 52 (by omega)) (fun z => aot 53 (by omega)) (fun z => aot 82 (by omega)) (fun z => ?_) (fun z => ?_) (fun z => ?_) (fun z1 z2 => by rw [e50]) (fun z1 z2 => by rw [e51]) (fun z1 z2 => ⟨by rw [r81], aot _ (by omega)⟩) (fun z1 z2 => ⟨by rw [r81], ?_⟩)
      · rw [e50]; unfold ctLA
        refine congrArg (fun w => if S 50 3 = 0 then none else some (Sum.inl (G.2.2.1.2.2.2.2, 10, Sum.inr (Sum.inr (Sum.inr (Sum.inr w)))))) ?_
        funext i
        by_cases w : (i : Int) < S 50 2
        · rw [if_pos w, if_pos w, aot (60 + i) (by omega)]
        · rw [if_neg w, if_neg w]
      · rw [e51]; unfold ctLA
        refine congrArg (fun w => if S 51 3 = 0 then none else some (Sum.inl (G.2.2.1.2.2.2.2, 10, Sum.inr (Sum.inr (Sum.inr (Sum.inr w)))))) ?_
        funext i
        by_cases w : (i : Int) < S 51 2
        · rw [if_pos w, if_pos w, aot (70 + i) (by omega)]
        · rw [if_neg w, if_neg w]
      · rw [r81]; unfold ctLA
        refine congrArg (fun w => if S 81 3 = 0 then none else some (Sum.inl (G.2.2.1.2.2.2.2, 10, Sum.inr (Sum.inr (Sum.inr (Sum.inr w)))))) ?_
        funext i
        by_cases w : (i : Int) < S 81 2
        · rw [if_pos w, if_pos w, aot (170 + i) (by omega)]
        · rw [if_neg w, if_neg w]
      · rw [liu_k (by omega) (by omega)]
        have eb : B' (k - 180) = B (k - 180) := by funext i; exact bot _ _ (fun z => by omega)
        rw [eb]
    have cl' : ctn G A' B' (liu S s v) (170 + s) = some (.inr (14, [.int (ii (S (170 + s) 0 + 1)), .ref aE, .int (ii (S (170 + s) 2 + 1))])) := by
      rw [ctn_170 hs' h8']
      unfold ctL
      rw [liu_0, liu_2, liu_3, if_neg (by omega), aEq]
    have ce' : ctn G A' B' (liu S s v) (180 + s) = some (.inl (G.2.2.1.2.2.2.2, (grw (S (170 + s) 2) (S (170 + s) 3)).toNat, .inr (.inr (.inr (.inr (fun i => if i = (S (170 + s) 2).toNat then some x else if i < (S (170 + s) 2).toNat then some (B s i) else none)))))) := by
      rw [ctn_180 hs' h8']
      unfold ctSA
      rw [liu_2, liu_3, if_neg (by omega)]
      refine congrArg (fun w => some (Sum.inl (G.2.2.1.2.2.2.2, (grw (S (170 + s) 2) (S (170 + s) 3)).toNat, Sum.inr (Sum.inr (Sum.inr (Sum.inr w)))))) ?_
      funext i
      by_cases y : i = (S (170 + s) 2).toNat
      · rw [if_pos (by omega), if_pos y, y, bq]
      · rw [if_neg y]
        by_cases y2 : i < (S (170 + s) 2).toNat
        · rw [if_pos (by omega), if_pos y2, bot s i (fun z => y z.2)]
        · rw [if_neg (by omega), if_neg y2]
    have alq : A' (170 + s) = A (170 + s) := aot _ (by omega)
    have aLE : A (170 + s) ≠ aE := nE _ _ (by omega) cL
    have hxE : x ≠ aE := fun z => by
      by_cases w : S (170 + s) 2 = S (170 + s) 3
      · rw [z, e1 w] at hx; cases hx
      · have c0 : ∃ y0, ctn G A B S (180 + s) = some y0 := by rw [cE]; unfold ctSA; rw [if_neg (by omega)]; exact ⟨_, rfl⟩
        obtain ⟨y0, c0⟩ := c0
        exact hxk _ _ c0 (by rw [z, e2 w])
    have hxL : x ≠ A (170 + s) := Ne.symm (hxk _ _ cL)
    refine q A' B' h' ?_ (fun k hk => aot k hk)
    refine P.anew (fun k => k = 170 + s ∨ k = 180 + s) (fun k hk => ⟨hcg k hk, aot k (fun z => hk (Or.inr z))⟩) (fun k y hk hy => ?_) (fun k y hk hy => ?_) (fun k k' y y' hk hy hy' hkk => ?_) (fun j i hj hi => ?_)
    · rw [g3 (A k) (fun z => hk (Or.inl (P.2.1 k _ _ _ hy cL z))) (nE k y (fun z => hk (Or.inr z)) hy)]
      exact P.1 k y hy
    · rcases hk with rfl | rfl
      · rw [cl'] at hy; cases hy; rw [alq]; exact g1
      · rw [ce'] at hy; cases hy; rw [aEq]; exact g2
    · by_cases w3 : k' = 170 + s ∨ k' = 180 + s
      · rcases hk with rfl | rfl
        · rcases w3 with z | rfl
          · exact z.symm
          · rw [alq, aEq] at hkk; exact absurd hkk aLE
        · rcases w3 with rfl | z
          · rw [alq, aEq] at hkk; exact absurd hkk.symm aLE
          · exact z.symm
      · rw [hcg k' w3] at hy'
        rw [aot k' (fun z => w3 (Or.inr z))] at hkk
        rcases hk with rfl | rfl
        · rw [alq] at hkk; exact P.2.1 _ _ _ _ cL hy' hkk
        · rw [aEq] at hkk; exact absurd hkk.symm (nE k' y' (fun z => w3 (Or.inr z)) hy')
    · rw [r81] at hj
      by_cases w : j = s ∧ i = (S (170 + s) 2).toNat
      · obtain ⟨rfl, rfl⟩ := w
        rw [bq, g3 x hxL hxE, hx, liu_v, up_at]
      · have hi' : (i : Int) < S (170 + j) 2 := by
          by_cases y : j = s
          · subst y; rw [liu_2] at hi; omega
          · rw [liu_k (by omega) (by omega)] at hi; exact hi
        have ev : liu S s v (190 + j) i = S (190 + j) i := by
          by_cases y : j = s
          · subst y; rw [liu_v, up_ne (fun z => w ⟨rfl, z⟩)]
          · rw [liu_k (by omega) (by omega)]
        have hbx := P.2.2 j i hj hi'
        rw [bot j i w, ev, g3 (B j i) (fun z => by rw [z, hL] at hbx; unfold ctL at hbx; cases hbx) (fun z => ?_)]
        · exact hbx
        · by_cases w : S (170 + s) 2 = S (170 + s) 3
          · rw [z, e1 w] at hbx; cases hbx
          · rw [z, e2 w] at hbx
            have c0 := P.1 (180 + s)
            rw [cE] at c0
            unfold ctSA at c0
            rw [if_neg (by omega)] at c0
            rw [c0 _ rfl] at hbx
            cases hbx
  by_cases w : S (170 + s) 3 = 0
  · have w2 : S (170 + s) 2 = 0 := by omega
    have eg : grw (S (170 + s) 2) (S (170 + s) 3) = 10 := by rw [w, w2]; rfl
    have hL0 : h (A (170 + s)) = some (.inr (14, [.int (ii (S (170 + s) 0)), .ref (Gt0 G), .int (ii 0)])) := by
      rw [hL]; unfold ctL; rw [if_pos w, w2]
    have hb := hbc (by omega)
    refine add_0 hb.1 (by omega) hL0 hE (fun a h' a1 a2 a3 a4 a5 => ?_)
    refine fin a h' (fun _ => a1) (fun z => absurd (by omega) z) (by rw [w2]; exact a3) ?_ a5
    rw [a4, eg]
    refine congrArg (fun w => some (Sum.inl (G.2.2.1.2.2.2.2, 10, Sum.inr (Sum.inr (Sum.inr (Sum.inr w)))))) ?_
    funext i
    rw [w2]
    show (if i = 0 then some x else none) = if i = 0 then some x else if i < 0 then _ else none
    by_cases y : i = 0
    · rw [if_pos y, if_pos y]
    · rw [if_neg y, if_neg y, if_neg (by omega)]
  · have hL0 : h (A (170 + s)) = some (.inr (14, [.int (ii (S (170 + s) 0)), .ref (A (180 + s)), .int (ii (S (170 + s) 2))])) := by
      rw [hL]; unfold ctL; rw [if_neg w]
    have hE0 := P.1 (180 + s)
    rw [cE] at hE0
    unfold ctSA at hE0
    rw [if_neg w] at hE0
    have hE0 := hE0 _ rfl
    by_cases f : S (170 + s) 2 = S (170 + s) 3
    · have hb := hbc f
      have eg : grw (S (170 + s) 2) (S (170 + s) 3) = S (170 + s) 3 + S (170 + s) 3 / 2 := by unfold grw; rw [if_pos f, if_neg w]
      have ec : S (170 + s) 3 = (((S (170 + s) 3).toNat : Nat) : Int) := by omega
      rw [f, ec] at hL0
      refine add_fl (cap := (S (170 + s) 3).toNat) hb.1 (by omega) hL0 hE0 hE (fun i hi y hy => ?_) (by omega) (by omega) (fun b h' b1 b2 b3 b4 b5 => ?_)
      · have hy : (if (i : Int) < S (170 + s) 2 then some (B s i) else none) = some y := hy
        rw [if_pos (by omega)] at hy
        cases hy
        exact ⟨_, _, P.2.2 s i hs (by omega), Or.inr (Or.inr (Or.inl rfl))⟩
      · refine fin b h' (fun _ => b1) (fun z => absurd f z) (by rw [f]; rw [← ec] at b3; exact b3) ?_ b5
        rw [b4, show (grw (S (170 + s) 2) (S (170 + s) 3)).toNat = (S (170 + s) 3).toNat + (S (170 + s) 3).toNat / 2 by omega]
        refine congrArg (fun w => some (Sum.inl (G.2.2.1.2.2.2.2, (S (170 + s) 3).toNat + (S (170 + s) 3).toNat / 2, Sum.inr (Sum.inr (Sum.inr (Sum.inr w)))))) ?_
        funext i
        rw [f]
        by_cases y : i = (S (170 + s) 3).toNat
        · rw [if_pos y, if_pos y]
        · rw [if_neg y, if_neg y]
          by_cases y2 : i < (S (170 + s) 3).toNat
          · rw [if_pos y2, if_pos y2, if_pos (by omega)]
          · rw [if_neg y2, if_neg y2]
    · have eg : grw (S (170 + s) 2) (S (170 + s) 3) = S (170 + s) 3 := by unfold grw; rw [if_neg f]
      refine add_in hL0 hE0 hE ⟨l0, by omega⟩ (by omega) (fun h' a1 a2 a3 => ?_)
      refine fin (A (180 + s)) h' (fun z => absurd z f) (fun _ => rfl) a1 ?_ a3
      rw [a2, eg]
      refine congrArg (fun w => some (Sum.inl (G.2.2.1.2.2.2.2, (S (170 + s) 3).toNat, Sum.inr (Sum.inr (Sum.inr (Sum.inr w)))))) ?_
      funext i
      by_cases y : i = (S (170 + s) 2).toNat
      · rw [if_pos y, if_pos y]
      · rw [if_neg y, if_neg y]; exact ite_iff (by omega)
end PI
