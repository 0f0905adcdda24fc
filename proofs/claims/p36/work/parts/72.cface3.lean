/-! the class's own calls: ground, sites, stations, off -/
section LG
variable {E E' : Nat → Nat → Int}
theorem lossE_cg {a b : Nat} (h : ∀ k, k ≤ 2 → E' k a = E k a ∧ E' k b = E k b) (h3 : E' 3 = E 3) : lossE E' a b = lossE E a b := by
  have f : ∀ x y : Nat, (∀ k, k ≤ 2 → E' k x = E k x ∧ E' k y = E k y) → lossO E' x y = lossO E x y := by
    intro x y g
    have g0 := g 0 (by omega); have g1 := g 1 (by omega); have g2 := g 2 (by omega)
    have es : stp E' x y = stp E x y := by unfold stp; rw [g0.1, g0.2, g1.1, g1.2]
    have eg : ∀ c r, gix E' c r = gix E c r := fun c r => by unfold gix; rw [h3]
    have et1 : topE E' x = topE E x := by unfold topE; rw [eg, g2.1, g0.1, g1.1]
    have et2 : topE E' y = topE E y := by unfold topE; rw [eg, g2.2, g0.2, g1.2]
    have ei : ∀ k, inw E' x y k = inw E x y k := fun k => by unfold inw; rw [es, et1, et2, eg, g0.1, g0.2, g1.1, g1.2]
    have eb : ∀ n, blk E' x y n = blk E x y n := fun n => by
      induction n with
      | zero => rfl
      | succ n ih => unfold blk; rw [ih, ei]
    unfold lossO sqE
    rw [g0.1, g0.2, g1.1, g1.2, es, eb]
  unfold lossE
  rw [f a b h, f b a (fun k hk => ⟨(h k hk).2, (h k hk).1⟩)]
end LG
section CF3
variable {G : Gx} {A : Nat → Nat} {B : Nat → Nat → Nat} {S : Nat → Nat → Int} {h : hw}
def dg (S : Nat → Nat → Int) : Prop := ∀ a : Nat, a < 10 → S 31 (a * 10 + a) = 0
/-- the keys that a change of ground writes -/
theorem EC_30 {c r g : Int} (hc : 0 ≤ c ∧ c ≤ 19) (hr : 0 ≤ r ∧ r ≤ 19) {S' : Nat → Nat → Int} (h0 : ∀ k, k ≠ 30 → kl k → S' k = S k) (h30 : S' 30 = up (S 30) (c * 20 + r).toNat g) (k i : Nat) : EC S' k i = if k = 3 ∧ i = (20 * r + c).toNat then g else EC S k i := by
  have e1 := h0 1 (by decide) (Or.inl rfl)
  have e50 := h0 50 (by decide) (Or.inr (Or.inr ⟨by decide, by decide⟩))
  have e51 := h0 51 (by decide) (Or.inr (Or.inr ⟨by decide, by decide⟩))
  have e6 : ∀ i, i < 10 → S' (60 + i) = S (60 + i) := fun i hi => h0 _ (by omega) (Or.inr (Or.inr ⟨by omega, by omega⟩))
  have e7 : ∀ i, i < 10 → S' (70 + i) = S (70 + i) := fun i hi => h0 _ (by omega) (Or.inr (Or.inr ⟨by omega, by omega⟩))
  by_cases k3 : k = 3
  · subst k3
    show (if i < 400 then S' 30 (20 * (i % 20) + i / 20) else 0) = _
    rw [h30]
    by_cases i4 : i < 400
    · rw [if_pos i4]
      unfold up
      by_cases y : i = (20 * r + c).toNat
      · rw [if_pos (show 20 * (i % 20) + i / 20 = (c * 20 + r).toNat by omega), if_pos ⟨rfl, y⟩]
      · rw [if_neg (show ¬ 20 * (i % 20) + i / 20 = (c * 20 + r).toNat by omega), if_neg (fun z => y z.2)]
        show _ = if i < 400 then _ else _
        rw [if_pos i4]
    · rw [if_neg i4, if_neg (fun z => by omega)]
      show _ = if i < 400 then _ else _
      rw [if_neg i4]
  · rw [if_neg (fun z => k3 z.1)]
    unfold EC
    by_cases i10 : i < 10
    · rw [e1, e50, e51, e6 i i10, e7 i i10, if_neg k3, if_neg k3]
    · rw [e1, e50, e51]
      simp only [i10, show ¬ i < 8 by omega, if_false, if_neg k3]
theorem Pic.c_setGround (P : Pic G A B S h) (hK : KI S) (hd : dg S) (hcs : chs (S 32)) {c r g : Int} (hc : rg c) (hr : rg r) (hg : rg g) {post : Int32 → hw → Prop} {xp : String → hw → Prop} (q1 : (0 ≤ c ∧ c ≤ 19) → (0 ≤ r ∧ r ≤ 19) → (0 ≤ g ∧ g ≤ 99) → (∀ j, j < 8 → S 32 j = -1) → ∀ S' h', Pic G A B S' h' → KI S' → dg S' → (∀ k, k ≠ 30 → k ≠ 31 → S' k = S k) → S' 30 = up (S 30) (c * 20 + r).toNat g → post (ii (gix (EC S) c r)) h') (q0 : ¬ ((0 ≤ c ∧ c ≤ 19) ∧ 0 ≤ r ∧ r ≤ 19) → xp "java/lang/IndexOutOfBoundsException" h) (q2 : (0 ≤ c ∧ c ≤ 19) → (0 ≤ r ∧ r ≤ 19) → ¬ (0 ≤ g ∧ g ≤ 99) → xp "java/lang/IllegalArgumentException" h) (q3 : (0 ≤ c ∧ c ≤ 19) → (0 ≤ r ∧ r ≤ 19) → (0 ≤ g ∧ g ≤ 99) → ¬ (∀ j, j < 8 → S 32 j = -1) → xp "java/lang/IllegalStateException" h) : wp_X11_setGround G (A 0) (ii c) (ii r) (ii g) h post xp := by
  refine ⟨P.o (k := 0) rfl, needC hc hr (fun c1 r1 => ?_) q0⟩
  refine ⟨P.o (k := 0) rfl, needR hg (a := 0) (b := 99) ⟨by omega, by omega⟩ ⟨by omega, by omega⟩ rfl il_0 il_99 (fun g0 g1 => ?_) (q2 c1 r1)⟩
  refine ⟨P.o (k := 0) rfl, P.needSil hcs (fun s => ?_) (q3 c1 r1 ⟨g0, g1⟩)⟩
  refine P.rR (k := 0) rfl rfl (P.rR (k := 1) rfl rfl ⟨P.o (k := 2) rfl, P.o (k := 2) rfl, P.ground c1 r1 ?_⟩)
  refine P.rR (k := 2) rfl rfl ⟨P.o (k := 10) rfl, P.put (k := 10) (rk := 30) (i := (c * 20 + r).toNat) (z := g) (by omega) (by omega) ?_ rfl (show _ < 400 by omega) (fun h1 P1 => ?_)⟩
  · rw [il_20, ii_mul, ii_add]; exact congrArg ii (by omega)
  have f30 : su S 30 (c * 20 + r).toNat g 30 = up (S 30) (c * 20 + r).toNat g := su_up _ _ _
  have ec := EC_30 (S := S) (g := g) c1 r1 (S' := su S 30 (c * 20 + r).toNat g) (fun k hk _ => su_row _ _ hk) f30
  have hK1 : KL (su S 30 (c * 20 + r).toNat g) := by
    obtain ⟨⟨hL, hE, hn⟩, -⟩ := hK
    refine ⟨by unfold LOK; rw [su_row _ _ (by decide), su_row _ _ (by decide)]; exact hL, ?_, fun j hj => by rw [su_ne _ _ _ (by omega)]; rw [su_ne _ _ _ (by decide)] at hj; exact hn j hj⟩
    have en : ∀ k i, k ≠ 3 → EC (su S 30 (c * 20 + r).toNat g) k i = EC S k i := fun k i hk => by rw [ec, if_neg (fun z => hk z.1)]
    refine ⟨fun i => by rw [en 0 i (by decide)]; exact hE.1 i, fun i => by rw [en 1 i (by decide)]; exact hE.2.1 i, fun i => by rw [en 2 i (by decide)]; exact hE.2.2.1 i, fun i => ?_, fun i => by rw [en 4 i (by decide), en 8 _ (by decide), en 8 _ (by decide)]; exact hE.2.2.2.2.1 i, fun i => by rw [en 5 i (by decide), en 8 _ (by decide), en 8 _ (by decide)]; exact hE.2.2.2.2.2.1 i, fun i => by rw [en 6 i (by decide)]; exact hE.2.2.2.2.2.2.1 i, fun i => by rw [en 7 i (by decide)]; exact hE.2.2.2.2.2.2.2.1 i, by rw [en 8 _ (by decide)]; exact hE.2.2.2.2.2.2.2.2.1, by rw [en 8 _ (by decide)]; exact hE.2.2.2.2.2.2.2.2.2.1, by rw [en 8 _ (by decide)]; exact hE.2.2.2.2.2.2.2.2.2.2⟩
    rw [ec]
    split
    · exact ⟨g0, g1⟩
    · exact hE.2.2.2.1 i
  refine ⟨P1.o (k := 2) rfl, P1.measureAll hK1 (fun a ha => by rw [su_ne _ _ _ (by decide)]; exact hd a ha) (fun S' h' P' k1 k2 k3 => ?_)⟩
  exact q1 c1 r1 ⟨g0, g1⟩ s S' h' P' k1 k3 (fun k a b => by rw [k2 k b, su_row _ _ a]) (by rw [k2 30 (by decide)]; exact f30)
theorem Pic.c_putOff (P : Pic G A B S h) (hK : KI S) {n : Nat} (hn : n ≤ 511) (R : RI S n) {v : Int} (hv : rg v) {post : Int32 → hw → Prop} {xp : String → hw → Prop} (q1 : vst S v → ∀ S' h', Pic G A B S' h' → RC S S' n → (∀ k, ¬ kr k → S' k = S k) → S' 32 = up (S 32) v.toNat (-1) → post (ii (S 32 v.toNat)) h') (q0 : ¬ vst S v → xp "java/lang/IndexOutOfBoundsException" h) : wp_X11_putOff G (A 0) (ii v) h post xp := by
  have h8 := hK.1.1.2.2.1
  refine ⟨P.o (k := 0) rfl, P.stAt hK.1.1 hv (fun a => ?_) q0⟩
  have na := vst_n a
  have num := (hK.ends na.2).2.2.2.2.1
  refine P.rR (k := 0) rfl rfl (P.rR (k := 3) rfl rfl (P.rI (ctn_st na.2 (by omega)) rfl ⟨P.o (k := 12) rfl, ?_⟩))
  refine P.at (k := 12) (rk := 32) (i := v.toNat) (by omega) (by omega) (by rw [num]) (show _ < 8 by omega) ?_
  refine P.rR (k := 0) rfl rfl (P.rI (ctn_st na.2 (by omega)) rfl ⟨P.o (k := 3) rfl, ?_⟩)
  rw [num]
  exact P.chg hn R (s := v.toNat) (by omega) rfl il_m1 ⟨by omega, by omega⟩ (fun S' h' P' k1 k2 k3 => q1 a S' h' P' k1 k2 k3)
/-- the numbers of the land, with one more site -/
theorem EC_site {n : Nat} (en : S 50 2 = (n : Int)) (hn : n < 10) {r : Nat → Int} : (∀ i, EC (lsu S 50 60 r) 0 i = if i = n then r 0 else EC S 0 i) ∧ (∀ i, EC (lsu S 50 60 r) 1 i = if i = n then r 1 else EC S 1 i) ∧ (∀ i, EC (lsu S 50 60 r) 2 i = if i = n then r 2 else EC S 2 i) ∧ (∀ k, 3 ≤ k → k ≤ 7 → EC (lsu S 50 60 r) k = EC S k) ∧ EC (lsu S 50 60 r) 8 0 = EC S 8 0 ∧ EC (lsu S 50 60 r) 8 1 = EC S 8 1 ∧ EC (lsu S 50 60 r) 8 2 = S 50 2 + 1 := by
  have hrow : ∀ k, k ≠ 50 → k ≠ 60 + n → lsu S 50 60 r k = S k := fun k a1 a2 => lsu_k a1 (by omega)
  have hrn : lsu S 50 60 r (60 + n) = r := by
    funext i; unfold lsu; rw [if_neg (by omega), if_pos (by omega)]
  have small : ∀ (j i : Nat), (if i < 10 then lsu S 50 60 r (60 + i) j else 0) = if i = n then r j else (if i < 10 then S (60 + i) j else 0) := by
    intro j i
    by_cases y : i = n
    · subst y; rw [if_pos hn, if_pos rfl, hrn]
    · rw [if_neg y]
      by_cases z : i < 10
      · rw [if_pos z, if_pos z, hrow _ (by omega) (by omega)]
      · rw [if_neg z, if_neg z]
  refine ⟨fun i => small 0 i, fun i => small 1 i, fun i => small 2 i, fun k k3 k7 => ?_, ?_, ?_, (show lsu S 50 60 r 50 2 = S 50 2 + 1 from lsu_2)⟩
  · have e30 : lsu S 50 60 r 30 = S 30 := hrow 30 (by decide) (by omega)
    have e7 : ∀ (j i : Nat), (if i < 8 then lsu S 50 60 r (70 + i) j else 0) = (if i < 8 then S (70 + i) j else 0) := fun j i => by
      by_cases z : i < 8
      · rw [if_pos z, if_pos z, hrow _ (by omega) (by omega)]
      · rw [if_neg z, if_neg z]
    funext i
    have : k = 3 ∨ k = 4 ∨ k = 5 ∨ k = 6 ∨ k = 7 := by omega
    rcases this with rfl | rfl | rfl | rfl | rfl
    · show (if i < 400 then lsu S 50 60 r 30 _ else 0) = _
      rw [e30]; rfl
    · exact e7 1 i
    · exact e7 2 i
    · exact e7 3 i
    · exact e7 4 i
  · show lsu S 50 60 r 1 2 = S 1 2
    rw [hrow 1 (by decide) (by omega)]
  · show lsu S 50 60 r 51 2 = S 51 2
    rw [hrow 51 (by decide) (by omega)]
/-- a new object, then written -/
theorem nwO_of {ci : Nat} {fs : List Value} {K : Nat → hw → Prop} (q : ∀ a, h a = none → Gb G a → K a (hwu h a (.inr (ci, fs)))) : nwO G h ci fs K := q
theorem hwu2 {a : Nat} {e e' : va_E} : hwu (hwu h a e) a e' = hwu h a e' := by
  funext y
  unfold hwu
  by_cases z : y = a
  · rw [if_pos z, if_pos z]
  · rw [if_neg z, if_neg z, if_neg z]
theorem wrF_n {a ci k : Nat} {v : Value} {fs : List Value} {K : hw → Prop} (hk : k < fs.length) (q : K (hwu h a (.inr (ci, fs.set k v)))) : wrF (hwu h a (.inr (ci, fs))) a ci k v K := ⟨fs, if_pos rfl, hk, by rw [hwu2]; exact q⟩
/-- the two lists of the class's land -/
def L3 (S : Nat → Nat → Int) : Prop := (S 50 3 = if S 50 2 = 0 then 0 else 10) ∧ (S 51 3 = if S 51 2 = 0 then 0 else 10) ∧ S 81 2 ≤ 8
def siteR (c r g : Int) : Nat → Int := fun i => if i = 0 then c else if i = 1 then r else if i = 2 then g else 0
def statR (n a b p q : Int) : Nat → Int := fun i => if i = 0 then n else if i = 1 then a else if i = 2 then b else if i = 3 then p else if i = 4 then q else 0
theorem Pic.c_addSite (P : Pic G A B S h) (hK : KI S) (hd : dg S) (hl : L3 S) {c r g : Int} (hc : rg c) (hr : rg r) (hg : rg g) {post : Int32 → hw → Prop} {xp : String → hw → Prop} (q1 : (0 ≤ c ∧ c ≤ 19) → (0 ≤ r ∧ r ≤ 19) → (0 ≤ g ∧ g ≤ 99) → S 50 2 < 10 → ∀ A' S' h', Pic G A' B S' h' → (A' 0 = A 0 ∧ A' 80 = A 80 ∧ A' 90 = A 90 ∧ A' 91 = A 91) → KI S' → dg S' → (∀ k, k ≠ 31 → S' k = lsu S 50 60 (siteR c r g) k) → post (ii (S 50 2)) h') (q0 : ¬ ((0 ≤ c ∧ c ≤ 19) ∧ 0 ≤ r ∧ r ≤ 19) → xp "java/lang/IndexOutOfBoundsException" h) (q2 : (0 ≤ c ∧ c ≤ 19) → (0 ≤ r ∧ r ≤ 19) → ¬ (0 ≤ g ∧ g ≤ 99) → xp "java/lang/IllegalArgumentException" h) (q3 : (0 ≤ c ∧ c ≤ 19) → (0 ≤ r ∧ r ≤ 19) → (0 ≤ g ∧ g ≤ 99) → ¬ S 50 2 < 10 → xp "java/lang/IllegalStateException" h) : wp_X11_addSite G (A 0) (ii c) (ii r) (ii g) h post xp := by
  have s0 := hK.1.1.1.1; have s1 := hK.1.1.1.2.1; have t1 := hK.1.1.2.2.1
  refine ⟨P.o (k := 0) rfl, needC hc hr (fun c1 r1 => ?_) q0⟩
  refine ⟨P.o (k := 0) rfl, needR hg (a := 0) (b := 99) ⟨by omega, by omega⟩ ⟨by omega, by omega⟩ rfl il_0 il_99 (fun g0 g1 => ?_) (q2 c1 r1)⟩
  refine P.rR (k := 0) rfl rfl (P.rR (k := 1) rfl rfl (P.nS ?_))
  rw [il_10, ii_lt ⟨by omega, by omega⟩ ⟨by omega, by omega⟩]
  refine ⟨fun lt => ?_, fun z => q3 c1 r1 ⟨g0, g1⟩ z⟩
  obtain ⟨n, en⟩ : ∃ n : Nat, S 50 2 = (n : Int) := ⟨(S 50 2).toNat, by omega⟩
  have ent : (S 50 2).toNat = n := by omega
  refine P.rR (k := 0) rfl rfl (P.rR (k := 1) rfl rfl ?_)
  refine nwO_of (fun x hx hgx => ?_)
  refine wrF_n (by show 0 < 3; decide) (wrF_n (by show 1 < 3; decide) (wrF_n (by show 2 < 3; decide) ?_))
  obtain ⟨P1, ne1⟩ := P.fresh (e := .inr (9, (((([Value.int 0, Value.int 0, Value.int 0] : List Value).set 0 (.int (ii c))).set 1 (.int (ii r))).set 2 (.int (ii g))))) hx
  have hxe : hwu h x (.inr (9, (((([Value.int 0, Value.int 0, Value.int 0] : List Value).set 0 (.int (ii c))).set 1 (.int (ii r))).set 2 (.int (ii g))))) x = some (.inr (9, [.int (ii c), .int (ii r), .int (ii g)])) := if_pos rfl
  refine ⟨P1.o (k := 2) rfl, ?_⟩
  refine P1.rR (k := 2) rfl rfl ⟨P1.o (k := 50) rfl, ?_⟩
  refine P1.add50 (r := siteR c r g) ⟨s0, by omega⟩ ⟨s1, by omega, by have := hl.2.2; omega⟩ hl.1 hxe ne1 ⟨9, _, hxe, Or.inl rfl⟩ (fun A' S' hr' h2' => ?_) (by decide) (by decide) (fun A' h' P' a1 a2 a3 => ?_)
  · rw [ent] at hr' ⊢
    rw [ctn_si (by omega) (by omega), hr' 0, hr' 1, hr' 2]
    rfl
  · obtain ⟨x0, x1, x2, x3, x80, x81, x82⟩ := EC_site en (by omega) (r := siteR c r g)
    have hrow : ∀ k, k ≠ 50 → k ≠ 60 + n → lsu S 50 60 (siteR c r g) k = S k := fun k b1 b2 => lsu_k b1 (by omega)
    have hK1 : KL (lsu S 50 60 (siteR c r g)) := by
      obtain ⟨⟨hL, hE, hn⟩, -⟩ := hK
      refine ⟨⟨⟨by rw [lsu_2]; omega, by rw [lsu_2]; omega, fun _ => by rw [lsu_3]; decide⟩, by rw [hrow 51 (by decide) (by omega)]; exact hL.2⟩, ?_, fun j hj => by rw [hrow 51 (by decide) (by omega)] at hj; rw [hrow _ (by omega) (by omega)]; exact hn j hj⟩
      refine ⟨fun i => ?_, fun i => ?_, fun i => ?_, fun i => by rw [x3 3 (by decide) (by decide)]; exact hE.2.2.2.1 i, fun i => ?_, fun i => ?_, fun i => by rw [x3 6 (by decide) (by decide)]; exact hE.2.2.2.2.2.2.1 i, fun i => by rw [x3 7 (by decide) (by decide)]; exact hE.2.2.2.2.2.2.2.1 i, by rw [x80]; exact hE.2.2.2.2.2.2.2.2.1, by rw [x81]; exact hE.2.2.2.2.2.2.2.2.2.1, by rw [x82]; omega⟩
      · rw [x0]; split
        · exact c1
        · exact hE.1 i
      · rw [x1]; split
        · exact r1
        · exact hE.2.1 i
      · rw [x2]; split
        · exact ⟨g0, g1⟩
        · exact hE.2.2.1 i
      · rw [x3 4 (by decide) (by decide), x81, x82]
        have := hE.2.2.2.2.1 i
        refine ⟨this.1, this.2.1, fun z => ?_⟩
        have := this.2.2 z
        rw [EC_s] at this
        omega
      · rw [x3 5 (by decide) (by decide), x81, x82]
        have := hE.2.2.2.2.2.1 i
        refine ⟨this.1, this.2.1, fun z => ?_⟩
        have := this.2.2 z
        rw [EC_s] at this
        omega
    rw [← a1 2 (by decide)]
    refine ⟨P'.o (k := 2) rfl, P'.measureAll hK1 (fun a ha => by rw [hrow 31 (by decide) (by omega)]; exact hd a ha) (fun S3 h3 P3 k1 k2 k3 => ?_)⟩
    refine P3.nS ?_
    rw [k2 50 (by decide), lsu_2, il_1, ii_sub, show S 50 2 + 1 - 1 = S 50 2 by omega]
    exact q1 c1 r1 ⟨g0, g1⟩ lt A' S3 h3 P3 ⟨a1 0 (by decide), a2.1, a2.2.1, a2.2.2⟩ k1 k3 (fun k hk => k2 k hk)
/-- the numbers of the land, with one more station -/
theorem EC_stat {n : Nat} (en : S 51 2 = (n : Int)) (hn : n < 8) {r : Nat → Int} : (∀ k, k ≤ 3 → EC (lsu S 51 70 r) k = EC S k) ∧ (∀ i, EC (lsu S 51 70 r) 4 i = if i = n then r 1 else EC S 4 i) ∧ (∀ i, EC (lsu S 51 70 r) 5 i = if i = n then r 2 else EC S 5 i) ∧ (∀ i, EC (lsu S 51 70 r) 6 i = if i = n then r 3 else EC S 6 i) ∧ (∀ i, EC (lsu S 51 70 r) 7 i = if i = n then r 4 else EC S 7 i) ∧ EC (lsu S 51 70 r) 8 0 = EC S 8 0 ∧ EC (lsu S 51 70 r) 8 1 = S 51 2 + 1 ∧ EC (lsu S 51 70 r) 8 2 = EC S 8 2 := by
  have hrow : ∀ k, k ≠ 51 → k ≠ 70 + n → lsu S 51 70 r k = S k := fun k a1 a2 => lsu_k a1 (by omega)
  have hrn : lsu S 51 70 r (70 + n) = r := by
    funext i; unfold lsu; rw [if_neg (by omega), if_pos (by omega)]
  have small : ∀ (j i : Nat), (if i < 8 then lsu S 51 70 r (70 + i) j else 0) = if i = n then r j else (if i < 8 then S (70 + i) j else 0) := by
    intro j i
    by_cases y : i = n
    · subst y; rw [if_pos hn, if_pos rfl, hrn]
    · rw [if_neg y]
      by_cases z : i < 8
      · rw [if_pos z, if_pos z, hrow _ (by omega) (by omega)]
      · rw [if_neg z, if_neg z]
  refine ⟨fun k k3 => ?_, fun i => small 1 i, fun i => small 2 i, fun i => small 3 i, fun i => small 4 i, ?_, (show lsu S 51 70 r 51 2 = S 51 2 + 1 from lsu_2), ?_⟩
  · have e30 : lsu S 51 70 r 30 = S 30 := hrow 30 (by decide) (by omega)
    have e6 : ∀ (j i : Nat), (if i < 10 then lsu S 51 70 r (60 + i) j else 0) = (if i < 10 then S (60 + i) j else 0) := fun j i => by
      by_cases z : i < 10
      · rw [if_pos z, if_pos z, hrow _ (by omega) (by omega)]
      · rw [if_neg z, if_neg z]
    funext i
    have : k = 0 ∨ k = 1 ∨ k = 2 ∨ k = 3 := by omega
    rcases this with rfl | rfl | rfl | rfl
    · exact e6 0 i
    · exact e6 1 i
    · exact e6 2 i
    · show (if i < 400 then lsu S 51 70 r 30 _ else 0) = _
      rw [e30]; rfl
  · show lsu S 51 70 r 1 2 = S 1 2
    rw [hrow 1 (by decide) (by omega)]
  · show lsu S 51 70 r 50 2 = S 50 2
    rw [hrow 50 (by decide) (by omega)]
theorem Pic.c_addStation (P : Pic G A B S h) (hK : KI S) (hl : L3 S) {a b p : Int} {f : Bool} (ha : rg a) (hb : rg b) (hp : rg p) {post : Int32 → hw → Prop} {xp : String → hw → Prop} (q1 : vsi S a → vsi S b → a ≠ b → (0 ≤ p ∧ p ≤ 500) → S 51 2 < 8 → ∀ A' h', Pic G A' B (lsu S 51 70 (statR (S 51 2) a b p (bI f))) h' → (A' 0 = A 0 ∧ A' 80 = A 80 ∧ A' 90 = A 90 ∧ A' 91 = A 91) → KI (lsu S 51 70 (statR (S 51 2) a b p (bI f))) → post (ii (S 51 2)) h') (q0 : ¬ (vsi S a ∧ vsi S b) → xp "java/lang/IndexOutOfBoundsException" h) (q2 : vsi S a → vsi S b → ¬ (a ≠ b ∧ 0 ≤ p ∧ p ≤ 500) → xp "java/lang/IllegalArgumentException" h) (q3 : vsi S a → vsi S b → a ≠ b → (0 ≤ p ∧ p ≤ 500) → ¬ S 51 2 < 8 → xp "java/lang/IllegalStateException" h) : wp_X11_addStation G (A 0) (ii a) (ii b) (ii p) (ii (bI f)) h post xp := by
  have s1 := hK.1.1.1.2.1; have t0 := hK.1.1.2.1; have t1 := hK.1.1.2.2.1
  refine ⟨P.o (k := 0) rfl, P.needS hK.1.1 ha (fun va => ?_) (fun z => q0 (fun w => z w.1))⟩
  refine ⟨P.o (k := 0) rfl, P.needS hK.1.1 hb (fun vb => ?_) (fun z => q0 (fun w => z w.2))⟩
  rw [ii_eq ha hb]
  refine ⟨fun ne => ?_, fun e => q2 va vb (fun w => w.1 e)⟩
  refine ⟨P.o (k := 0) rfl, needR hp (a := 0) (b := 500) ⟨by omega, by omega⟩ ⟨by omega, by omega⟩ rfl il_0 il_500 (fun p0 p1 => ?_) (fun z => q2 va vb (fun w => z w.2))⟩
  refine P.rR (k := 0) rfl rfl (P.nT ?_)
  rw [il_8, ii_lt ⟨by omega, by omega⟩ ⟨by omega, by omega⟩]
  refine ⟨fun lt => ?_, fun z => q3 va vb ne ⟨p0, p1⟩ z⟩
  obtain ⟨n, en⟩ : ∃ n : Nat, S 51 2 = (n : Int) := ⟨(S 51 2).toNat, by omega⟩
  have ent : (S 51 2).toNat = n := by omega
  refine P.rR (k := 0) rfl rfl (P.rR (k := 1) rfl rfl ?_)
  refine nwO_of (fun x hx hgx => ?_)
  refine wrF_n (by show 0 < 6; decide) (wrF_n (by show 1 < 6; decide) (wrF_n (by show 2 < 6; decide) (wrF_n (by show 3 < 6; decide) ⟨bI_01 f, wrF_n (by show 4 < 6; decide) ?_⟩)))
  obtain ⟨P1, ne1⟩ := P.fresh (e := .inr (10, (((((([Value.int 0, Value.int 0, Value.int 0, Value.int 0, Value.int 0, Value.int 0] : List Value).set 0 (.int (ii (S 51 2)))).set 1 (.int (ii a))).set 2 (.int (ii b))).set 3 (.int (ii p))).set 4 (.int (ii (bI f)))))) hx
  have hxe : hwu h x (.inr (10, (((((([Value.int 0, Value.int 0, Value.int 0, Value.int 0, Value.int 0, Value.int 0] : List Value).set 0 (.int (ii (S 51 2)))).set 1 (.int (ii a))).set 2 (.int (ii b))).set 3 (.int (ii p))).set 4 (.int (ii (bI f)))))) x = some (.inr (10, [.int (ii (S 51 2)), .int (ii a), .int (ii b), .int (ii p), .int (ii (bI f)), .int 0])) := if_pos rfl
  refine ⟨P1.o (k := 51) rfl, ?_⟩
  refine P1.add51 (r := statR (S 51 2) a b p (bI f)) ⟨t0, by omega⟩ ⟨s1, by omega, by have := hl.2.2; omega⟩ hl.2.1 hxe ne1 ⟨10, _, hxe, Or.inr (Or.inl rfl)⟩ (fun A' S' hr' h2' => ?_) (by decide) (by decide) (fun A' h' P' a1 a2 a3 => ?_)
  · rw [ent] at hr' ⊢
    rw [ctn_st (by omega) (by omega), hr' 0, hr' 1, hr' 2, hr' 3, hr' 4, hr' 5]
    rfl
  · obtain ⟨x0, x4, x5, x6, x7, x80, x81, x82⟩ := EC_stat en (by omega) (r := statR (S 51 2) a b p (bI f))
    have hrow : ∀ k, k ≠ 51 → k ≠ 70 + n → lsu S 51 70 (statR (S 51 2) a b p (bI f)) k = S k := fun k b1 b2 => lsu_k b1 (by omega)
    have hrn : lsu S 51 70 (statR (S 51 2) a b p (bI f)) (70 + n) = statR (S 51 2) a b p (bI f) := by
      funext i; unfold lsu; rw [if_neg (by omega), if_pos (by omega)]
    have hK1 : KI (lsu S 51 70 (statR (S 51 2) a b p (bI f))) := by
      obtain ⟨⟨hL, hE, hn⟩, hlo⟩ := hK
      unfold vsi at va vb
      refine ⟨⟨⟨by rw [hrow 50 (by decide) (by omega)]; exact hL.1, by rw [lsu_2]; omega, by rw [lsu_2]; omega, fun _ => by rw [lsu_3]; decide⟩, ?_, fun j hj => ?_⟩, fun x y hx hy => ?_⟩
      · refine ⟨fun i => by rw [x0 0 (by decide)]; exact hE.1 i, fun i => by rw [x0 1 (by decide)]; exact hE.2.1 i, fun i => by rw [x0 2 (by decide)]; exact hE.2.2.1 i, fun i => by rw [x0 3 (by decide)]; exact hE.2.2.2.1 i, fun i => ?_, fun i => ?_, fun i => ?_, fun i => ?_, by rw [x80]; exact hE.2.2.2.2.2.2.2.2.1, by rw [x81]; omega, by rw [x82]; exact hE.2.2.2.2.2.2.2.2.2.2⟩
        · rw [x4, x81, x82, EC_s]
          split
          · show 0 ≤ a ∧ a < 10 ∧ _
            exact ⟨va.1, by omega, fun _ => va.2⟩
          · have := hE.2.2.2.2.1 i
            rw [EC_s, EC_n] at this
            exact ⟨this.1, this.2.1, fun z => this.2.2 (by omega)⟩
        · rw [x5, x81, x82, EC_s]
          split
          · show 0 ≤ b ∧ b < 10 ∧ _
            exact ⟨vb.1, by omega, fun _ => vb.2⟩
          · have := hE.2.2.2.2.2.1 i
            rw [EC_s, EC_n] at this
            exact ⟨this.1, this.2.1, fun z => this.2.2 (by omega)⟩
        · rw [x6]; split
          · exact ⟨p0, p1⟩
          · exact hE.2.2.2.2.2.2.1 i
        · rw [x7]; split
          · show bI f = 0 ∨ bI f = 1
            cases f
            · exact Or.inl rfl
            · exact Or.inr rfl
          · exact hE.2.2.2.2.2.2.2.1 i
      · rw [lsu_2] at hj
        by_cases y : j = n
        · subst y; rw [hrn]; exact en
        · rw [hrow _ (by omega) (by omega)]; exact hn j (by omega)
      · rw [hrow 50 (by decide) (by omega)] at hx hy
        rw [hrow 31 (by decide) (by omega), lossE_cg (fun k hk => ⟨by rw [x0 k (by omega)], by rw [x0 k (by omega)]⟩) (x0 3 (by decide))]
        exact hlo x y hx hy
    exact q1 va vb ne ⟨p0, p1⟩ lt A' h' P' ⟨a1 0 (by decide), a2.1, a2.2.1, a2.2.2⟩ hK1
end CF3
