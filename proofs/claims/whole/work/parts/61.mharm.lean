/-! the reference: harm, levels kept, bars -/
def ntM (S : Nat → Nat → Int) : Nat := (S 80 4).toNat
/-- the reference's land is a land, its boolean cells are -/
def MO (S : Nat → Nat → Int) : Prop := EOK (EM S) ∧ (∀ j, j < 8 → -1 ≤ S 113 j ∧ S 113 j ≤ 7)
theorem MO.ofi {S S' : Nat → Nat → Int} (h : ∀ k, 105 ≤ k → k ≤ 113 → S' k = S k) (h80 : ∀ i, 2 ≤ i → i ≤ 4 → S' 80 i = S 80 i) (q : MO S) : MO S' ∧ EM S' = EM S ∧ ntM S' = ntM S := by
  have e : EM S' = EM S := by
    funext k i
    unfold EM
    rw [h 106 (by omega) (by omega), h 107 (by omega) (by omega), h 108 (by omega) (by omega), h 105 (by omega) (by omega), h 109 (by omega) (by omega), h 110 (by omega) (by omega), h 111 (by omega) (by omega), h 112 (by omega) (by omega), h80 2 (by omega) (by omega), h80 3 (by omega) (by omega), h80 4 (by omega) (by omega)]
  refine ⟨⟨by rw [e]; exact q.1, by rw [h 113 (by omega) (by omega)]; exact q.2⟩, e, by unfold ntM; rw [h80 4 (by omega) (by omega)]⟩
theorem MO.of {S S' : Nat → Nat → Int} (h : ∀ k, k = 80 ∨ (105 ≤ k ∧ k ≤ 113) → S' k = S k) (q : MO S) : MO S' ∧ EM S' = EM S ∧ ntM S' = ntM S := q.ofi (fun k a b => h k (Or.inr ⟨a, b⟩)) (fun i _ _ => by rw [h 80 (Or.inl rfl)])
theorem hs_none {E : Nat → Nat → Int} {s : Nat} {ch : Nat → Int} {n : Nat} : hs E s ch n = none ↔ anyb (nrm ch s) n = false := by
  induction n with
  | zero => exact ⟨fun _ => rfl, fun _ => rfl⟩
  | succ n ih =>
    unfold hs anyb
    by_cases c : nrm ch s n = true
    · rw [if_pos c, c, Bool.or_true]
      constructor
      · intro z; split at z <;> cases z
      · intro z; cases z
    · rw [if_neg c, Bool.eq_false_iff.mpr c, Bool.or_false]; exact ih
section MH
variable {G : Gx} {A : Nat → Nat} {B : Nat → Nat → Nat} {S : Nat → Nat → Int} {h : hw}
theorem ntM_8 (hM : MO S) : ntM S ≤ 8 ∧ S 80 4 = ((ntM S : Nat) : Int) ∧ nt (EM S) = ntM S := by
  have := hM.1.2.2.2.2.2.2.2.2.2.1
  have e : EM S 8 1 = S 80 4 := rfl
  rw [e] at this
  refine ⟨by unfold ntM; omega, by unfold ntM; omega, rfl⟩
theorem bI_01 (b : Bool) : ii (bI b) = 0 ∨ ii (bI b) = 1 := by
  cases b
  · exact Or.inl rfl
  · exact Or.inr rfl
theorem ab_le {x : Int} (h : -200000 ≤ x ∧ x ≤ 200000) : 0 ≤ ab x ∧ ab x ≤ 200000 := by unfold ab; omega
theorem Pic.mnow (P : Pic G A B S h) {i : Nat} {x : Int32} {K : Int32 → Prop} (hx : x = ii (i : Int)) (hi : i < 8) (q : K (ii (S 113 i))) : rdR h (A 80) 12 13 (fun v => ldI G h v x K) := P.md (k := 113) (i := i) ⟨by omega, by omega, rfl, rfl⟩ hx (show _ < 8 from hi) q
theorem Pic.mharms (P : Pic G A B S h) (hM : MO S) {o s : Nat} (ho : o < 8) (hs : s < 8) {x y : Int32} (hx : x = ii (o : Int)) (hy : y = ii (s : Int)) {post : Int32 → Prop} (q : post (ii (bI (nrm (S 113) s o)))) : wp_X12_harms G (A 80) x y h post := by
  have co := hM.2 o ho; have cs := hM.2 s hs
  subst hx hy
  intro J hJ
  have no : nrm (S 113) s o = false → J := fun z => by
    apply hJ; rw [z] at q; exact q
  rw [ii_eq ⟨by omega, by omega⟩ ⟨by omega, by omega⟩]
  refine ⟨fun c => no (decide_eq_false (fun z => z.1 (by omega))), fun c => ?_⟩
  refine P.mnow rfl ho ?_
  rw [il_m1, ii_eq ⟨by omega, by omega⟩ ⟨by omega, by omega⟩]
  refine ⟨fun c2 => no (decide_eq_false (fun z => z.2.1 c2)), fun c2 => ?_⟩
  refine P.mnow rfl ho ?_
  refine P.mnow rfl hs ?_
  have h0 : 0 ≤ ab (S 113 o - S 113 s) ∧ ab (S 113 o - S 113 s) ≤ 8 := by unfold ab; omega
  rw [ii_sub, ii_ab ⟨by omega, by omega⟩, il_2, ii_lt ⟨by omega, by omega⟩ ⟨by omega, by omega⟩]
  refine ⟨fun c3 => no (decide_eq_false (fun z => by have := z.2.2; omega)), fun c3 => ?_⟩
  have : nrm (S 113) s o = true := decide_eq_true ⟨by omega, c2, by omega⟩
  rw [this] at q; exact q
theorem Pic.misHarmed (P : Pic G A B S h) (hM : MO S) {s : Nat} (hs : s < 8) {y : Int32} (hy : y = ii (s : Int)) {post : Int32 → Prop} (q : post (ii (bI (anyb (nrm (S 113) s) (ntM S))))) : wp_X12_isHarmed G (A 80) y h post := by
  obtain ⟨n8, n4, -⟩ := ntM_8 hM
  subst hy
  intro J hJ
  have main : ∀ i : Nat, i ≤ ntM S → J (ii (bI (anyb (nrm (S 113) s) i))) (ii (i : Int)) := by
    intro i hi
    refine lp_up (J := fun i : Nat => J (ii (bI (anyb (nrm (S 113) s) i))) (ii (i : Int))) (n := ntM S) ?_ ?_ hi
    · apply hJ
      refine P.rI (k := 80) rfl rfl ?_
      rw [n4, ii_le ⟨by omega, by omega⟩ ⟨by omega, by omega⟩]
      exact ⟨fun _ => ⟨bI_01 _, q⟩, fun c => absurd (Int.le_refl _) c⟩
    · intro i hi ih
      have e : anyb (nrm (S 113) s) (i + 1) = (anyb (nrm (S 113) s) i || nrm (S 113) s i) := rfl
      rw [e] at ih
      apply hJ
      refine P.rI (k := 80) rfl rfl ?_
      rw [n4, ii_le ⟨by omega, by omega⟩ ⟨by omega, by omega⟩]
      refine ⟨fun c => absurd c (by omega), fun _ => ?_⟩
      intro J30 hJ30 J25 hJ25
      rw [bI_1, bI_0]
      have yes : (anyb (nrm (S 113) s) i || nrm (S 113) s i) = true → J25 := fun z => by
        apply hJ25; apply hJ30; rw [ii_inc']; rw [z] at ih; exact ih
      refine ⟨fun c => yes (by rw [c]; rfl), fun c => ?_⟩
      refine ⟨P.o (k := 80) rfl, P.mharms hM (by omega) hs rfl rfl ?_⟩
      rw [bI_1, bI_0]
      refine ⟨fun c2 => ?_, fun c2 => yes (by rw [c2, Bool.or_true])⟩
      apply hJ30; rw [ii_inc']; rw [c, c2] at ih; exact ih
  exact main 0 (by omega)
theorem mx_sym (a b : Int) : mx a b = mx b a := by unfold mx; split <;> split <;> omega
def hsv (o : Option Int) : Int := match o with
  | none => 0
  | some a => a
theorem Pic.mharmOf (P : Pic G A B S h) (hM : MO S) {s : Nat} (hs1 : s < 8) {y : Int32} (hy : y = ii (s : Int)) {post : Int32 → Prop} (q : post (ii (hsv (hs (EM S) s (S 113) (ntM S))))) : wp_X12_harmOf G (A 80) y h post := by
  obtain ⟨n8, n4, -⟩ := ntM_8 hM
  have cs := hM.2 s hs1
  subst hy
  intro J hJ
  have main : ∀ i : Nat, i ≤ ntM S → J (ii (bI (hs (EM S) s (S 113) i).isNone)) (ii (hsv (hs (EM S) s (S 113) i))) (ii (i : Int)) := by
    intro i hi
    refine lp_up (J := fun i : Nat => J (ii (bI (hs (EM S) s (S 113) i).isNone)) (ii (hsv (hs (EM S) s (S 113) i))) (ii (i : Int))) (n := ntM S) ?_ ?_ hi
    · apply hJ
      refine P.rI (k := 80) rfl rfl ?_
      rw [n4, ii_le ⟨by omega, by omega⟩ ⟨by omega, by omega⟩]
      exact ⟨fun _ => q, fun c => absurd (Int.le_refl _) c⟩
    · intro i hi ih
      apply hJ
      refine P.rI (k := 80) rfl rfl ?_
      rw [n4, ii_le ⟨by omega, by omega⟩ ⟨by omega, by omega⟩]
      refine ⟨fun c => absurd c (by omega), fun _ => ?_⟩
      refine ⟨P.o (k := 80) rfl, P.mharms hM (by omega) hs1 rfl rfl ?_⟩
      intro J87 hJ87
      have ci := hM.2 i (by omega)
      rw [bI_1, bI_0]
      refine ⟨fun c => ?_, fun c => ?_⟩
      · apply hJ87; rw [ii_inc']
        have e2 : hs (EM S) s (S 113) (i + 1) = hs (EM S) s (S 113) i := by show (if nrm (S 113) s i = true then _ else _) = _; rw [c]; rfl
        rw [e2] at ih; exact ih
      · refine P.mnow rfl (by omega) ?_
        refine P.mnow rfl hs1 ?_
        have h0 : 0 ≤ ab (S 113 i - S 113 s) ∧ ab (S 113 i - S 113 s) ≤ 8 := by unfold ab; omega
        rw [ii_sub, ii_ab ⟨by omega, by omega⟩]
        refine ⟨P.o (k := 80) rfl, P.mharmBy hM.1 (by omega) hs1 (ap := ab (S 113 i - S 113 s)) ⟨by omega, by omega⟩ rfl rfl rfl ?_⟩
        have hm := hmE_le hM.1 i s (ab (S 113 i - S 113 s))
        intro J84 hJ84
        have e2 : hs (EM S) s (S 113) (i + 1) = (match hs (EM S) s (S 113) i with | none => some (hmE (EM S) i s (ab (S 113 i - S 113 s))) | some a => some (tog a (hmE (EM S) i s (ab (S 113 i - S 113 s))))) := by show (if nrm (S 113) s i = true then _ else _) = _; rw [c]; rfl
        rw [e2] at ih
        cases hh : hs (EM S) s (S 113) i with
        | none =>
          rw [hh] at ih
          refine ⟨fun c4 => absurd c4 (by decide), fun _ => ?_⟩
          apply hJ84; apply hJ87; rw [ii_inc']; exact ih
        | some a =>
          rw [hh] at ih
          have ha := hs_le hM.1 s (S 113) i a hh
          refine ⟨fun _ => ⟨by decide, ?_⟩, fun c4 => absurd rfl c4⟩
          apply hJ84; apply hJ87; rw [ii_inc']
          have ih : J (ii 0) (ii (tog a (hmE (EM S) i s (ab (S 113 i - S 113 s))))) (ii ((i + 1 : Nat) : Int)) := ih
          show J 0 ((jmax (ii a) (ii (hmE (EM S) i s (ab (S 113 i - S 113 s))))) + (jmax 0 (30 - ((jabs (ii a - ii (hmE (EM S) i s (ab (S 113 i - S 113 s))))) / 4)))) (ii ((i + 1 : Nat) : Int))
          have hab := ab_le (x := a - hmE (EM S) i s (ab (S 113 i - S 113 s))) ⟨by omega, by omega⟩
          rw [ii_mx ⟨by omega, by omega⟩ ⟨by omega, by omega⟩, ii_sub, ii_ab ⟨by omega, by omega⟩, il_4, ii_div ⟨by omega, by omega⟩ ⟨by omega, by omega⟩ (by omega), tdv hab.1, il_30, ii_sub, il_0, ii_mx ⟨by omega, by omega⟩ ⟨by omega, by omega⟩, ii_add, mx_sym 0 _]
          exact ih
  exact main 0 (by omega)
theorem Pic.mkeeps (P : Pic G A B S h) (hM : MO S) {s : Nat} (hs1 : s < 8) {y : Int32} (hy : y = ii (s : Int)) {post : Int32 → Prop} (q : post (ii (bI (kp (EM S) s (S 113))))) : wp_X12_keepsLevel G (A 80) y h post := by
  obtain ⟨n8, n4, n5⟩ := ntM_8 hM
  refine ⟨P.o (k := 80) rfl, P.misHarmed hM hs1 hy ?_⟩
  intro J hJ
  rw [bI_1, bI_0]
  refine ⟨fun c => ?_, fun c => ?_⟩
  · apply hJ
    have e : kp (EM S) s (S 113) = true := by unfold kp; rw [n5, hs_none.mpr c]
    rw [e] at q; exact q
  · refine ⟨P.o (k := 80) rfl, P.mlev hM.1 hs1 hy ?_⟩
    refine ⟨P.o (k := 80) rfl, P.mharmOf hM hs1 hy ?_⟩
    refine P.rI (k := 80) rfl rfl ?_
    cases hh : hs (EM S) s (S 113) (ntM S) with
    | none => rw [hs_none, c] at hh; cases hh
    | some a =>
      have ha := hs_le hM.1 s (S 113) _ a hh
      have hl := lvE_le hM.1 s
      have hra := hM.1.2.2.2.2.2.2.2.2.1
      have e0 : EM S 8 0 = S 80 2 := rfl
      have ek : kp (EM S) s (S 113) = decide (EM S 8 0 ≤ lvE (EM S) s - a) := by unfold kp; rw [n5, hh]
      rw [ek] at q
      have key : (ii (lvE (EM S) s) - ii a < ii (S 80 2)) ↔ (lvE (EM S) s - a < S 80 2) := by rw [ii_sub, ii_lt ⟨by omega, by omega⟩ ⟨by omega, by omega⟩]
      refine ⟨fun c => ?_, fun c => ?_⟩
      · have c1 := key.mp c
        rw [decide_eq_false (by omega)] at q; exact q
      · have c1 : ¬ (lvE (EM S) s - a < S 80 2) := fun z => c (key.mpr z)
        apply hJ
        rw [decide_eq_true (by omega)] at q; exact q
theorem Pic.mprot (P : Pic G A B S h) {i : Nat} {x : Int32} {K : Int32 → Prop} (hx : x = ii (i : Int)) (hi : i < 8) (q : K (ii (S 112 i))) : rdR h (A 80) 12 12 (fun v => ldZ G h v x K) := P.zd (k := 112) (i := i) ⟨by omega, by omega, rfl, rfl⟩ hx (show _ < 8 from hi) q
theorem Pic.mbar (P : Pic G A B S h) (hM : MO S) {a b : Nat} (ha : a < 8) (hb : b < 8) {c d : Int} (hc : -1 ≤ c ∧ c ≤ 100) (hd : -1 ≤ d ∧ d ≤ 100) {x y z w : Int32} (hx : x = ii (a : Int)) (hy : y = ii c) (hz : z = ii (b : Int)) (hw : w = ii d) {post : Int32 → Prop} (q : post (ii (bI (br2 (EM S) a c b d)))) : wp_X12_areBarred G (A 80) x y z w h post := by
  subst hy hw
  have h0 : 0 ≤ ab (c - d) ∧ ab (c - d) ≤ 101 := by unfold ab; omega
  have ea := EM_7 (S := S) ha; have eb := EM_7 (S := S) hb
  have pa := hM.1.2.2.2.2.2.2.2.1 a; have pb := hM.1.2.2.2.2.2.2.2.1 b
  have hla := lvE_le hM.1 a; have hlb := lvE_le hM.1 b
  have hma := hmE_le hM.1 b a (ab (c - d)); have hmb := hmE_le hM.1 a b (ab (c - d))
  have hra := hM.1.2.2.2.2.2.2.2.2.1
  have e0 : EM S 8 0 = S 80 2 := rfl
  refine P.mprot hx ha ?_
  intro J44 hJ44
  have second : ∀ v : Bool, v = sf1 (EM S) a b (ab (c - d)) → J44 (ii (bI v)) := by
    intro v hv
    apply hJ44
    intro J91 hJ91
    have no : br2 (EM S) a c b d = false → J91 := fun z => by apply hJ91; rw [z] at q; exact q
    rw [ii_sub, ii_ab ⟨by omega, by omega⟩, il_2, ii_lt ⟨by omega, by omega⟩ ⟨by omega, by omega⟩]
    refine ⟨fun c2 => no ?_, fun c2 => ?_⟩
    · unfold br2 brA; rw [decide_eq_false (by omega)]; rfl
    · intro J87 hJ87
      have yes : br2 (EM S) a c b d = true → J87 := fun z => by apply hJ87; rw [z] at q; exact q
      rw [bI_1, bI_0]
      refine ⟨fun c3 => yes ?_, fun c3 => ?_⟩
      · unfold br2 brA; rw [decide_eq_true (by omega), ← hv, c3]; rfl
      · refine P.mprot hz hb ?_
        have e1 : br2 (EM S) a c b d = sf1 (EM S) b a (ab (c - d)) := by
          unfold br2 brA; rw [decide_eq_true (by omega), ← hv, c3, Bool.true_and, Bool.false_or]
        rw [← eb, il_0, ii_eq ⟨by omega, by omega⟩ ⟨by decide, by decide⟩]
        refine ⟨fun c4 => no ?_, fun c4 => ?_⟩
        · rw [e1]; unfold sf1; rw [decide_eq_false (by omega)]; rfl
        · refine ⟨P.o (k := 80) rfl, P.mlev hM.1 hb hz ?_⟩
          refine ⟨P.o (k := 80) rfl, P.mharmBy hM.1 ha hb (ap := ab (c - d)) ⟨by omega, by omega⟩ hx hz rfl ?_⟩
          refine P.rI (k := 80) rfl rfl ?_
          rw [ii_sub, ii_le ⟨by omega, by omega⟩ ⟨by omega, by omega⟩]
          refine ⟨fun c5 => no ?_, fun c5 => yes ?_⟩
          · rw [e1]; unfold sf1; rw [decide_eq_false (p := lvE (EM S) b - hmE (EM S) a b (ab (c - d)) < EM S 8 0) (by omega), Bool.and_false]
          · rw [e1]; unfold sf1; rw [decide_eq_true (by omega), decide_eq_true (by omega)]; rfl
  intro J43 hJ43
  have no43 : sf1 (EM S) a b (ab (c - d)) = false → J43 := fun z => hJ43 (second false z.symm)
  rw [← ea, il_0, ii_eq ⟨by omega, by omega⟩ ⟨by decide, by decide⟩]
  refine ⟨fun c4 => no43 ?_, fun c4 => ?_⟩
  · unfold sf1; rw [decide_eq_false (by omega)]; rfl
  · refine ⟨P.o (k := 80) rfl, P.mlev hM.1 ha hx ?_⟩
    rw [ii_sub, ii_ab ⟨by omega, by omega⟩]
    refine ⟨P.o (k := 80) rfl, P.mharmBy hM.1 hb ha (ap := ab (c - d)) ⟨by omega, by omega⟩ hz hx rfl ?_⟩
    refine P.rI (k := 80) rfl rfl ?_
    rw [ii_sub, ii_le ⟨by omega, by omega⟩ ⟨by omega, by omega⟩]
    refine ⟨fun c5 => no43 ?_, fun c5 => second true ?_⟩
    · unfold sf1; rw [decide_eq_false (p := lvE (EM S) a - hmE (EM S) b a (ab (c - d)) < EM S 8 0) (by omega), Bool.and_false]
    · unfold sf1; rw [decide_eq_true (by omega), decide_eq_true (by omega)]; rfl
theorem Pic.mallKept (P : Pic G A B S h) (hM : MO S) {post : Int32 → Prop} (q1 : alk (EM S) (S 113) → post 1) (q0 : ¬ alk (EM S) (S 113) → post 0) : wp_X12_areAllKept G (A 80) h post := by
  obtain ⟨n8, n4, n5⟩ := ntM_8 hM
  intro J hJ
  have bad : ∀ (d i : Nat), i + d = ntM S → ¬ alk (EM S) (S 113) → J (ii 0) (ii (i : Int)) := by
    intro d
    induction d with
    | zero =>
      intro i hi hb
      apply hJ
      refine P.rI (k := 80) rfl rfl ?_
      rw [n4, ii_le ⟨by omega, by omega⟩ ⟨by omega, by omega⟩]
      exact ⟨fun _ => ⟨Or.inl rfl, q0 hb⟩, fun c => absurd (show ((ntM S : Nat) : Int) ≤ i by omega) c⟩
    | succ d ih =>
      intro i hi hb
      apply hJ
      refine P.rI (k := 80) rfl rfl ?_
      rw [n4, ii_le ⟨by omega, by omega⟩ ⟨by omega, by omega⟩]
      refine ⟨fun c => absurd c (by omega), fun _ => ?_⟩
      intro J48 hJ48 J47 hJ47
      refine ⟨fun _ => ?_, fun c => absurd rfl c⟩
      apply hJ47; apply hJ48; rw [ii_inc']; exact ih (i + 1) (by omega) hb
  have main : ∀ i : Nat, i ≤ ntM S → (∀ j, j < i → EM S 7 j = 1 → S 113 j ≠ -1 → kp (EM S) j (S 113) = true) → J (ii 1) (ii (i : Int)) := by
    intro i hi
    refine lp_up (J := fun i : Nat => (∀ j, j < i → EM S 7 j = 1 → S 113 j ≠ -1 → kp (EM S) j (S 113) = true) → J (ii 1) (ii (i : Int))) (n := ntM S) ?_ ?_ hi
    · intro g
      apply hJ
      refine P.rI (k := 80) rfl rfl ?_
      rw [n4, ii_le ⟨by omega, by omega⟩ ⟨by omega, by omega⟩]
      exact ⟨fun _ => ⟨Or.inr rfl, q1 (by unfold alk; rw [n5]; exact g)⟩, fun c => absurd (Int.le_refl _) c⟩
    · intro i hi ih g
      have ei := EM_7 (S := S) (i := i) (by omega)
      have pi := hM.1.2.2.2.2.2.2.2.1 i
      have ci := hM.2 i (by omega)
      apply hJ
      refine P.rI (k := 80) rfl rfl ?_
      rw [n4, ii_le ⟨by omega, by omega⟩ ⟨by omega, by omega⟩]
      refine ⟨fun c => absurd c (by omega), fun _ => ?_⟩
      intro J48 hJ48 J47 hJ47
      refine ⟨fun c => absurd c (by decide), fun _ => ?_⟩
      refine P.mprot rfl (by omega) ?_
      intro J43 hJ43
      have go : (EM S 7 i = 1 → S 113 i ≠ -1 → kp (EM S) i (S 113) = true) → J43 := fun z => by
        apply hJ43; apply hJ48; rw [ii_inc']
        refine ih (fun j hj => ?_)
        by_cases y : j = i
        · subst y; exact z
        · exact g j (by omega)
      rw [← ei, il_0, ii_eq ⟨by omega, by omega⟩ ⟨by decide, by decide⟩]
      refine ⟨fun c => go (fun z => by omega), fun c => ?_⟩
      refine P.mnow rfl (by omega) ?_
      rw [il_m1, ii_eq ⟨by omega, by omega⟩ ⟨by decide, by decide⟩]
      refine ⟨fun c2 => go (fun _ z => absurd c2 z), fun c2 => ?_⟩
      refine ⟨P.o (k := 80) rfl, P.mkeeps hM (by omega) rfl ?_⟩
      rw [← il_0, bI_1, bI_0]
      refine ⟨fun c3 => ?_, fun c3 => go (fun _ _ => c3)⟩
      apply hJ47; apply hJ48; rw [ii_inc']
      refine bad (ntM S - (i + 1)) (i + 1) (by omega) (fun z => ?_)
      have := z i (by rw [n5]; exact hi) (by omega) c2
      rw [c3] at this; cases this
  exact main 0 (by omega) (fun j hj => by omega)
theorem Pic.moff (P : Pic G A B S h) (hM : MO S) {k s : Nat} (hk : k < ntM S) (hs1 : s < 8) (hp : EM S 7 s = 1 ∨ EM S 7 s = 0) {c : Int} (hc : -1 ≤ c ∧ c ≤ 100) {x y z : Int32} (hx : x = ii (k : Int)) (hy : y = ii (s : Int)) (hz : z = ii c) {post : Int32 → Prop} (q : post (ii (bI (decide (EM S 7 s = 1) && sil (EM S) s c (S 113) k)))) : wp_X12_goesOffFor G (A 80) x y z h post := by
  obtain ⟨n8, n4, n5⟩ := ntM_8 hM
  have ck := hM.2 k (by omega)
  have ek := EM_7 (S := S) (i := k) (by omega)
  have es := EM_7 (S := S) hs1
  have pk := hM.1.2.2.2.2.2.2.2.1 k
  refine P.mprot hy hs1 ?_
  intro J hJ
  have no : (decide (EM S 7 s = 1) && sil (EM S) s c (S 113) k) = false → J := fun z => by apply hJ; rw [z] at q; exact q
  rw [← es, il_0, ii_eq ⟨by omega, by omega⟩ ⟨by decide, by decide⟩, hx, hy, ii_eq ⟨by omega, by omega⟩ ⟨by omega, by omega⟩]
  refine ⟨fun w => no ?_, fun w => ⟨fun w2 => no ?_, fun w2 => ?_⟩⟩
  · rw [decide_eq_false (by omega)]; rfl
  · have : k = s := by omega
    subst this
    by_cases y : EM S 7 k = 1
    · unfold sil; rw [decide_eq_false (p := k < nt (EM S) ∧ EM S 7 k ≠ 1 ∧ S 113 k ≠ -1) (fun z => z.2.1 y), Bool.false_and, Bool.and_false]
    · rw [decide_eq_false y]; rfl
  · refine P.mprot rfl (by omega) ?_
    rw [← ek, ii_eq ⟨by omega, by omega⟩ ⟨by decide, by decide⟩]
    refine ⟨fun w3 => no ?_, fun w3 => ?_⟩
    · unfold sil; rw [decide_eq_false (p := k < nt (EM S) ∧ EM S 7 k ≠ 1 ∧ S 113 k ≠ -1) (fun z => by have := z.2.1; omega), Bool.false_and, Bool.and_false]
    · refine P.mnow rfl (by omega) ?_
      rw [il_m1, ii_eq ⟨by omega, by omega⟩ ⟨by decide, by decide⟩]
      refine ⟨fun w4 => no ?_, fun w4 => ?_⟩
      · unfold sil; rw [decide_eq_false (p := k < nt (EM S) ∧ EM S 7 k ≠ 1 ∧ S 113 k ≠ -1) (fun z => z.2.2 w4), Bool.false_and, Bool.and_false]
      · refine P.mnow rfl (by omega) ?_
        refine ⟨P.o (k := 80) rfl, P.mbar hM hs1 (by omega) hc ⟨ck.1, by omega⟩ rfl hz rfl rfl ?_⟩
        have e : (decide (EM S 7 s = 1) && sil (EM S) s c (S 113) k) = br2 (EM S) s c k (S 113 k) := by
          unfold sil
          rw [decide_eq_true (p := EM S 7 s = 1) (by omega), decide_eq_true (p := k < nt (EM S) ∧ EM S 7 k ≠ 1 ∧ S 113 k ≠ -1) ⟨by rw [n5]; exact hk, by omega, w4⟩, Bool.true_and, Bool.true_and]
        rw [e] at q no
        rw [← il_0, bI_1, bI_0]
        refine ⟨fun w5 => no w5, fun w5 => ?_⟩
        rw [w5] at q; exact q
end MH
