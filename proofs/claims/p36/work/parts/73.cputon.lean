/-! the class: putting on -/
def cnt (f : Nat → Bool) : Nat → Int
  | 0 => 0
  | n + 1 => cnt f n + bI (f n)
theorem cnt_of {f g : Nat → Bool} {n : Nat} (h : ∀ i, i < n → f i = g i) : cnt f n = cnt g n := by
  induction n with
  | zero => rfl
  | succ n ih => unfold cnt; rw [ih (fun i hi => h i (by omega)), h n (by omega)]
theorem bI_in (b : Bool) : 0 ≤ bI b ∧ bI b ≤ 1 := by
  cases b
  · exact ⟨by decide, by decide⟩
  · exact ⟨by decide, by decide⟩
theorem cnt_in (f : Nat → Bool) (n : Nat) : 0 ≤ cnt f n ∧ cnt f n ≤ n := by
  induction n with
  | zero => exact ⟨Int.le_refl 0, Int.le_refl 0⟩
  | succ n ih => have := bI_in (f n); unfold cnt; omega
/-- who goes off for s on c; who is where then -/
def pnx (E : Nat → Nat → Int) (s : Nat) (c : Int) (now : Nat → Int) (j : Nat) : Bool := decide (E 7 s = 1) && sil E s c now j
def pno (E : Nat → Nat → Int) (s : Nat) (c : Int) (now : Nat → Int) : Nat → Int := fun j => if j = s then c else if pnx E s c now j = true then -1 else now j
theorem kp_of {E : Nat → Nat → Int} {s : Nat} {ch ch' : Nat → Int} (h : ∀ j, j < nt E ∨ j = s → ch j = ch' j) : kp E s ch = kp E s ch' := by
  have g : ∀ i, i ≤ nt E → hs E s ch i = hs E s ch' i := by
    intro i
    induction i with
    | zero => intro _; rfl
    | succ i ih =>
      intro hi
      have e : nrm ch s i = nrm ch' s i := by unfold nrm; rw [h i (Or.inl (by omega)), h s (Or.inr rfl)]
      unfold hs
      rw [e, ih (by omega), h i (Or.inl (by omega)), h s (Or.inr rfl)]
  unfold kp; rw [g _ (Nat.le_refl _)]
theorem alk_of {E : Nat → Nat → Int} {ch ch' : Nat → Int} (h : ∀ j, j < nt E → ch j = ch' j) (q : alk E ch) : alk E ch' := fun i hi h7 hc => by
  rw [← kp_of (ch := ch) (fun j hj => hj.elim (h j) (fun z => by rw [z]; exact h i hi))]
  exact q i hi h7 (by rw [h i hi]; exact hc)
section CP3
variable {G : Gx} {A : Nat → Nat} {B : Nat → Nat → Nat} {S : Nat → Nat → Int} {h : hw}
theorem k49_K {S S' : Nat → Nat → Int} (h : ∀ k, k ≠ 49 → S' k = S k) (hK : KI S) : KI S' ∧ EC S' = EC S ∧ S' 51 2 = S 51 2 := by
  have e2 : ∀ k, kl k → S' k = S k := fun k hk => h k (fun z => by subst z; rcases hk with z | z | z <;> omega)
  exact ⟨hK.of e2 (h 31 (by decide)), EC_of e2, by rw [h 51 (by decide)]⟩
theorem Pic.silSec (P : Pic G A B S h) (hK : KI S) {s : Nat} (hs : s < nt (EC S)) (hp : EC S 7 s = 1) (hc : chs (S 49)) {post : Int32 → hw → Prop} (q : ∀ S' h', Pic G A B S' h' → (∀ k, k ≠ 49 → S' k = S k) → S' 49 = (fun j => if sil (EC S) s (S 49 s) (S 49) j = true then -1 else S 49 j) → post (ii (cnt (sil (EC S) s (S 49 s) (S 49)) (nt (EC S)))) h') : wp_X11_silenceSecondaries G (A 0) (A (70 + s)) h post := by
  obtain ⟨h8, hn⟩ := nt8 hK
  have p01 := hK.1.2.1.2.2.2.2.2.2.2.1
  obtain ⟨f, hf⟩ : ∃ f, f = sil (EC S) s (S 49 s) (S 49) := ⟨_, rfl⟩
  rw [← hf] at q
  have fs : f s = false := by rw [hf]; unfold sil; rw [decide_eq_false (fun z => z.2.1 hp)]; rfl
  have fn : ∀ j, f j = true → j < nt (EC S) := fun j hj => by rw [hf] at hj; unfold sil at hj; rw [Bool.and_eq_true, decide_eq_true_eq] at hj; exact hj.1.1
  refine P.rR (k := 0) rfl rfl (P.nT ?_)
  intro J hJ
  have main : ∀ i : Nat, i ≤ nt (EC S) → ∀ (S' : Nat → Nat → Int) (h' : hw), Pic G A B S' h' → (∀ k, k ≠ 49 → S' k = S k) → S' 49 = (fun j => if f j = true ∧ i ≤ j then -1 else S 49 j) → J (ii (cnt f (nt (EC S)) - cnt f i)) (ii ((i : Int) - 1)) h' := by
    intro i
    induction i with
    | zero =>
      intro _ S' h' P' k1 k2
      apply hJ
      rw [il_0, ii_lt ⟨by omega, by omega⟩ ⟨by omega, by omega⟩]
      refine ⟨fun _ => ?_, fun z => absurd (show ((0 : Nat) : Int) - 1 < 0 by omega) z⟩
      have q := q S' h' P' k1 (by
        rw [k2]; funext j
        by_cases w : f j = true
        · rw [if_pos ⟨w, Nat.zero_le _⟩, if_pos w]
        · rw [if_neg (fun z => w z.1), if_neg w])
      rw [show cnt f (nt (EC S)) - cnt f 0 = cnt f (nt (EC S)) by show cnt f (nt (EC S)) - 0 = _; omega]
      exact q
    | succ i ih =>
      intro hi S' h' P' k1 k2
      obtain ⟨hK', eE, e51⟩ := k49_K k1 hK
      have ki := ctn_st (G := G) (A := A) (B := B) (j := i) (S := S') (by omega) (by omega)
      have ks := ctn_st (G := G) (A := A) (B := B) (j := s) (S := S') (by omega) (by omega)
      obtain ⟨-, -, -, e7, -, -⟩ := hK'.ends (j := i) (by omega)
      obtain ⟨-, -, -, -, num, -⟩ := hK'.ends (j := s) (by omega)
      have ei : S' 49 i = S 49 i := by rw [k2]; show (if f i = true ∧ i + 1 ≤ i then _ else _) = _; rw [if_neg (fun z => by omega)]
      have es : S' 49 s = S 49 s := by rw [k2]; show (if f s = true ∧ i + 1 ≤ s then _ else _) = _; rw [fs, if_neg (fun z => absurd z.1 (by decide))]
      have ci := hc i; have cs := hc s
      apply hJ
      rw [show ii (((i + 1 : Nat) : Int) - 1) = ii (i : Int) from congrArg ii (by omega), il_0, ii_lt ⟨by omega, by omega⟩ ⟨by omega, by omega⟩]
      refine ⟨fun z => absurd z (by omega), fun _ => ?_⟩
      refine P'.rR (k := 0) rfl rfl (P'.gT hK'.1.1 rfl (by omega) ?_)
      refine P'.rR (k := 0) rfl rfl ⟨P'.o (k := 29) rfl, P'.at (k := 29) (rk := 49) (i := i) (by omega) (by omega) rfl (show _ < 8 by omega) ?_⟩
      refine P'.rR (k := 0) rfl rfl (P'.rI ks rfl ⟨P'.o (k := 29) rfl, P'.at (k := 29) (rk := 49) (i := s) (by omega) (by omega) (by rw [num]) (show _ < 8 by omega) ?_⟩)
      refine P'.rI ki rfl ?_
      intro J2 hJ2
      have nx : ii (i : Int) + (-1) = ii ((i : Int) - 1) := by rw [il_m1, ii_add]; exact congrArg ii (by omega)
      have cu : cnt f (i + 1) = cnt f i + bI (f i) := rfl
      have skip : f i = false → J2 (ii (cnt f (nt (EC S)) - cnt f (i + 1))) h' := fun w => by
        apply hJ2
        rw [nx, show cnt f (nt (EC S)) - cnt f (i + 1) = cnt f (nt (EC S)) - cnt f i by rw [cu, w]; show _ - (_ + 0) = _; omega]
        refine ih (by omega) S' h' P' k1 ?_
        rw [k2]; funext j
        by_cases y : j = i
        · subst y; rw [if_neg (fun z => by omega), w, if_neg (fun z => absurd z.1 (by decide))]
        · exact ite_iff ⟨fun z => ⟨z.1, by omega⟩, fun z => ⟨z.1, by omega⟩⟩
      rw [e7, eE, ei, es, ii_eq (by have := p01 i; constructor <;> omega) ⟨by decide, by decide⟩]
      have pi := p01 i
      refine ⟨fun w => skip ?_, fun w => ?_⟩
      · rw [hf]; unfold sil; rw [decide_eq_false (fun z => z.2.1 (by omega))]; rfl
      · refine P'.rR (k := 0) rfl rfl ⟨P'.o (k := 29) rfl, P'.at (k := 29) (rk := 49) (i := i) (by omega) (by omega) rfl (show _ < 8 by omega) ?_⟩
        rw [ei, il_m1, ii_eq ⟨by omega, by omega⟩ ⟨by omega, by omega⟩]
        refine ⟨fun w2 => skip ?_, fun w2 => ?_⟩
        · rw [hf]; unfold sil; rw [decide_eq_false (fun z => z.2.2 w2)]; rfl
        · have h0 : 0 ≤ ab (S 49 i - S 49 s) ∧ ab (S 49 i - S 49 s) ≤ 8 := by unfold ab; omega
          refine P'.rR (k := 0) rfl rfl ⟨P'.o (k := 1) rfl, P'.bar hK' (a := s) (b := i) (by omega) (by omega) (ap := ab (S 49 i - S 49 s)) ⟨by omega, by omega⟩ (by rw [ii_sub, ii_ab ⟨by omega, by omega⟩]) ?_⟩
          have ef : f i = brA (EC S) s i (ab (S 49 i - S 49 s)) := by
            rw [hf]; unfold sil br2
            rw [decide_eq_true (p := i < nt (EC S) ∧ EC S 7 i ≠ 1 ∧ S 49 i ≠ -1) ⟨by omega, by omega, w2⟩, Bool.true_and, ab_sym]
          rw [eE, ← ef, ← il_0, bI_1, bI_0]
          refine ⟨fun w3 => skip w3, fun w3 => ?_⟩
          refine P'.rR (k := 0) rfl rfl ⟨P'.o (k := 29) rfl, P'.put (k := 29) (rk := 49) (i := i) (z := -1) (by omega) (by omega) rfl rfl (show _ < 8 by omega) (fun h3 P3 => ?_)⟩
          apply hJ2
          rw [nx, il_1, ii_add, show cnt f (nt (EC S)) - cnt f (i + 1) + 1 = cnt f (nt (EC S)) - cnt f i by rw [cu, w3]; show _ - (_ + 1) + 1 = _; omega]
          refine ih (by omega) _ h3 P3 (fun k hk => by rw [su_row _ _ hk, k1 k hk]) ?_
          rw [su_up, k2]; funext j
          unfold up
          by_cases y : j = i
          · subst y; rw [if_pos rfl, if_pos ⟨w3, Nat.le_refl _⟩]
          · rw [if_neg y]; exact ite_iff ⟨fun z => ⟨z.1, by omega⟩, fun z => ⟨z.1, by omega⟩⟩
  have g := main (nt (EC S)) (Nat.le_refl _) S h P (fun _ _ => rfl) (by
    funext j
    rw [if_neg (fun z => by have := fn j z.1; omega)])
  rw [show cnt f (nt (EC S)) - cnt f (nt (EC S)) = 0 by omega] at g
  rw [hn, il_1, ii_sub]
  exact g
theorem Pic.c_putOn (P : Pic G A B S h) (hK : KI S) (hB : BR S) {n : Nat} (hn5 : n ≤ 511) (R : RI S n) (h49 : chs (S 49)) {v c : Int} (hv : rg v) (hc : rg c) {post : Int32 → hw → Prop} {xp : String → hw → Prop} (q1 : vst S v → (0 ≤ c ∧ c ≤ 7) → (S 36 c.toNat = 1 → nrb (EC S) v.toNat = true → yes S (v.toNat * 8 + c.toNat) = true) → alk (EC S) (pno (EC S) v.toNat c (S 32)) → ∀ S' h', Pic G A B S' h' → RC S S' n → chs (S' 49) → (∀ k, ¬ kr k → k ≠ 49 → S' k = S k) → (∀ j, S' 32 j = if j < nt (EC S) then pno (EC S) v.toNat c (S 32) j else S 32 j) → post (ii (cnt (pnx (EC S) v.toNat c (S 32)) (nt (EC S)))) h') (q0 : ¬ vst S v → xp "java/lang/IndexOutOfBoundsException" h) (q2 : vst S v → ¬ (0 ≤ c ∧ c ≤ 7) → xp "java/lang/IllegalArgumentException" h) (q3 : vst S v → (0 ≤ c ∧ c ≤ 7) → S 36 c.toNat = 1 → nrb (EC S) v.toNat = true → yes S (v.toNat * 8 + c.toNat) = false → xp "java/lang/IllegalStateException" h) (q4 : vst S v → (0 ≤ c ∧ c ≤ 7) → (S 36 c.toNat = 1 → nrb (EC S) v.toNat = true → yes S (v.toNat * 8 + c.toNat) = true) → ¬ alk (EC S) (pno (EC S) v.toNat c (S 32)) → ∀ S' h', Pic G A B S' h' → chs (S' 49) → (∀ k, k ≠ 49 → S' k = S k) → xp "java/lang/UnsupportedOperationException" h') : wp_X11_putOn G (A 0) (ii v) (ii c) h post xp := by
  obtain ⟨h8, hn⟩ := nt8 hK
  refine ⟨P.o (k := 0) rfl, P.stAt hK.1.1 hv (fun a => ?_) q0⟩
  refine ⟨P.o (k := 0) rfl, P.needCh hc (fun c0 c1 => ?_) (q2 a)⟩
  have na := vst_n a
  have num := (hK.ends na.2).2.2.2.2.1
  have p7 := (hK.ends na.2).2.2.2.1
  obtain ⟨s, es⟩ : ∃ s : Nat, s = v.toNat := ⟨_, rfl⟩
  rw [← es] at q1 q3 q4 na num p7 ⊢
  have hsn : s < nt (EC S) := by omega
  have p01 := hK.1.2.1.2.2.2.2.2.2.2.1 s
  have R4 := R.2.2.2.1
  have f36 := hB.1 c.toNat (by omega)
  refine P.rR (k := 0) rfl rfl ⟨P.o (k := 4) rfl, P.isFor hB (i := c.toNat) (by omega) (congrArg ii (by omega)) ?_⟩
  intro J62 hJ62
  have go : (S 36 c.toNat = 1 → nrb (EC S) s = true → yes S (s * 8 + c.toNat) = true) → J62 := by
    intro yy
    have q1 := q1 a ⟨c0, c1⟩ yy
    have q4 := q4 a ⟨c0, c1⟩ yy
    apply hJ62
    refine P.rR (k := 0) rfl rfl (P.rR (k := 0) rfl rfl (P.rR (k := 3) rfl rfl ⟨P.o (k := 29) rfl, P.copy (k := 29) (k2 := 12) (rk := 49) (rk2 := 32) (by omega) (by omega) (by omega) (by omega) (by decide) (by decide) (fun h1 P1 => ?_)⟩))
    refine P1.rR (k := 0) rfl rfl ⟨P1.o (k := 29) rfl, P1.put (k := 29) (rk := 49) (i := s) (z := c) (by omega) (by omega) (congrArg ii na.1) rfl (show _ < 8 by omega) (fun h2 P2 => ?_)⟩
    obtain ⟨S2, hS2⟩ : ∃ S2, S2 = su (sf S 49 (rl 29) (S 32)) 49 s c := ⟨_, rfl⟩
    rw [← hS2] at P2
    have f2 : ∀ k, k ≠ 49 → S2 k = S k := fun k hk => by rw [hS2, su_row _ _ hk, sf_ne hk]
    obtain ⟨hK2, eE2, e512⟩ := k49_K f2 hK
    have t2 : ∀ j, j < 8 → S2 49 j = if j = s then c else S 32 j := fun j hj => by
      rw [hS2, su_up]; unfold up
      by_cases y : j = s
      · rw [if_pos y, if_pos y]
      · rw [if_neg y, if_neg y]; exact sf_at hj
    have c2 : chs (S2 49) := fun i => by
      rw [hS2, su_up]; unfold up
      by_cases y : i = s
      · rw [if_pos y]; omega
      · rw [if_neg y]; unfold sf
        by_cases z : i < rl 29
        · rw [if_pos ⟨rfl, z⟩]; exact R4 i
        · rw [if_neg (fun w => z w.2)]; exact h49 i
    have es2 : EC S2 7 s = EC S 7 s := by rw [eE2]
    refine P2.rI (ctn_st (by rw [e512]; exact na.2) (by rw [e512]; omega)) rfl ?_
    intro J101 hJ101
    -- the rest, behind the secondary ones
    have rest : ∀ (S3 : Nat → Nat → Int) (h3 : hw), Pic G A B S3 h3 → (∀ k, k ≠ 49 → S3 k = S k) → chs (S3 49) → (∀ j, j < nt (EC S) → S3 49 j = pno (EC S) s c (S 32) j) → J101 (ii (cnt (pnx (EC S) s c (S 32)) (nt (EC S)))) h3 := by
      intro S3 h3 P3 f3 c3 t3
      obtain ⟨hK3, eE3, e513⟩ := k49_K f3 hK
      apply hJ101
      refine P3.rR (k := 0) rfl rfl (P3.rR (k := 0) rfl rfl ⟨P3.o (k := 1) rfl, P3.allKeep hK3 (r := 29) (Or.inr rfl) c3 (fun ok => ?_) (fun no => ?_)⟩)
      · rw [eE3] at ok
        have ok := alk_of t3 ok
        refine ⟨fun _ => ?_, fun z => absurd z (by decide)⟩
        intro J130 hJ130
        have main : ∀ i : Nat, i ≤ nt (EC S) → ∀ (S' : Nat → Nat → Int) (h' : hw), Pic G A B S' h' → RC S S' n → (∀ k, ¬ kr k → S' k = S3 k) → (∀ j, S' 32 j = if j < i then pno (EC S) s c (S 32) j else S 32 j) → J130 (ii (i : Int)) h' := by
          intro i hi
          refine lp_up (J := fun i : Nat => ∀ (S' : Nat → Nat → Int) (h' : hw), Pic G A B S' h' → RC S S' n → (∀ k, ¬ kr k → S' k = S3 k) → (∀ j, S' 32 j = if j < i then pno (EC S) s c (S 32) j else S 32 j) → J130 (ii (i : Int)) h') (n := nt (EC S)) ?_ ?_ hi
          · intro S' h' P' k1 k2 k3
            have e51 : S' 51 2 = S 51 2 := by rw [k2 51 (fun z => by unfold kr at z; omega), e513]
            apply hJ130
            refine P'.rR (k := 0) rfl rfl (P'.nT ?_)
            rw [e51, hn, ii_le ⟨by omega, by omega⟩ ⟨by omega, by omega⟩]
            exact ⟨fun _ => q1 ok S' h' P' k1 (by rw [k2 49 (fun z => by unfold kr at z; omega)]; exact c3) (fun k a b => by rw [k2 k a, f3 k b]) k3, fun z => absurd (Int.le_refl _) z⟩
          · intro i hi ih S' h' P' k1 k2 k3
            have e51 : S' 51 2 = S 51 2 := by rw [k2 51 (fun z => by unfold kr at z; omega), e513]
            have e49 : S' 49 = S3 49 := k2 49 (fun z => by unfold kr at z; omega)
            have ci := c3 i
            apply hJ130
            refine P'.rR (k := 0) rfl rfl (P'.nT ?_)
            rw [e51, hn, ii_le ⟨by omega, by omega⟩ ⟨by omega, by omega⟩]
            refine ⟨fun z => absurd z (by omega), fun _ => ?_⟩
            refine P'.rR (k := 0) rfl rfl (P'.rR (k := 0) rfl rfl ⟨P'.o (k := 29) rfl, P'.at (k := 29) (rk := 49) (i := i) (by omega) (by omega) rfl (show _ < 8 by omega) ?_⟩)
            refine ⟨P'.o (k := 3) rfl, P'.chg hn5 k1.1 (s := i) (by omega) rfl (ch := S' 49 i) rfl (by rw [e49]; exact ci) (fun S4 h4 P4 r4 g4 g5 => ?_)⟩
            rw [ii_inc']
            refine ih S4 h4 P4 (k1.tr r4) (fun k hk => by rw [g4 k hk, k2 k hk]) (fun j => ?_)
            rw [g5, e49, t3 i hi]
            unfold up
            by_cases y : j = i
            · subst y; rw [if_pos rfl, if_pos (by omega)]
            · rw [if_neg y, k3 j]; exact ite_iff (by omega)
        exact main 0 (by omega) S3 h3 P3 (RC.of (S1 := S) (fun k hk => f3 k (fun z => by subst z; unfold kg at hk; omega)) (RC.rf R)) (fun _ _ => rfl) (fun j => by rw [if_neg (by omega), f3 32 (by decide)])
      · rw [eE3] at no
        refine ⟨fun z => absurd rfl z, fun _ => ?_⟩
        exact q4 (fun z => no (alk_of (fun j hj => (t3 j hj).symm) z)) S3 h3 P3 c3 f3
    have p72 : S2 (70 + s) 4 = EC S 7 s := by rw [f2 _ (by omega)]; exact p7
    rw [p72, il_0, ii_eq ⟨by omega, by omega⟩ ⟨by decide, by decide⟩]
    refine ⟨fun w => ?_, fun w => ?_⟩
    · have e0 : ∀ j, pnx (EC S) s c (S 32) j = false := fun j => by unfold pnx; rw [decide_eq_false (p := EC S 7 s = 1) (by omega)]; rfl
      have z0 : cnt (pnx (EC S) s c (S 32)) (nt (EC S)) = 0 := by
        have g : ∀ m, cnt (pnx (EC S) s c (S 32)) m = 0 := fun m => by
          induction m with
          | zero => rfl
          | succ m ih => unfold cnt; rw [ih, e0]; rfl
        exact g _
      have rest := rest S2 h2 P2 f2 c2 (fun j hj => by
        rw [t2 j (by omega)]; unfold pno
        by_cases y : j = s
        · rw [if_pos y, if_pos y]
        · rw [if_neg y, if_neg y, e0, if_neg (by decide)])
      rw [z0] at rest
      exact rest
    · have h71 : EC S 7 s = 1 := by omega
      refine ⟨P2.o (k := 0) rfl, P2.silSec hK2 (s := s) (by rw [eE2]; exact hsn) (by rw [eE2]; exact h71) c2 (fun S3 h3 P3 g1 g2 => ?_)⟩
      rw [eE2] at g2 ⊢
      have ess : S2 49 s = c := by rw [t2 s (by omega), if_pos rfl]
      rw [ess] at g2 ⊢
      have esl : ∀ j, sil (EC S) s c (S2 49) j = pnx (EC S) s c (S 32) j := fun j => by
        unfold pnx
        rw [decide_eq_true h71, Bool.true_and]
        by_cases y : j = s
        · subst y
          unfold sil
          rw [decide_eq_false (p := j < nt (EC S) ∧ EC S 7 j ≠ 1 ∧ S2 49 j ≠ -1) (fun z => z.2.1 h71), decide_eq_false (p := j < nt (EC S) ∧ EC S 7 j ≠ 1 ∧ S 32 j ≠ -1) (fun z => z.2.1 h71), Bool.false_and, Bool.false_and]
        · by_cases y8 : j < 8
          · have : S2 49 j = S 32 j := by rw [t2 j y8, if_neg y]
            unfold sil; rw [this]
          · unfold sil
            rw [decide_eq_false (p := j < nt (EC S) ∧ EC S 7 j ≠ 1 ∧ S2 49 j ≠ -1) (fun z => by omega), decide_eq_false (p := j < nt (EC S) ∧ EC S 7 j ≠ 1 ∧ S 32 j ≠ -1) (fun z => by omega), Bool.false_and, Bool.false_and]
      rw [cnt_of (fun j _ => esl j)]
      refine rest S3 h3 P3 (fun k hk => by rw [g1 k hk, f2 k hk]) (fun i => ?_) (fun j hj => ?_)
      · rw [g2]
        show -1 ≤ (if sil (EC S) s c (S2 49) i = true then (-1 : Int) else S2 49 i) ∧ (if sil (EC S) s c (S2 49) i = true then (-1 : Int) else S2 49 i) ≤ 7
        split
        · omega
        · exact c2 i
      · rw [g2]
        show (if sil (EC S) s c (S2 49) j = true then (-1 : Int) else S2 49 j) = _
        rw [esl j]
        unfold pno
        by_cases y : j = s
        · subst y
          have : pnx (EC S) j c (S 32) j = false := by rw [← esl j]; unfold sil; rw [decide_eq_false (fun z => z.2.1 h71)]; rfl
          rw [this, if_neg (by decide), if_pos rfl, ess]
        · rw [if_neg y, t2 j (by omega), if_neg y]
  rw [show (ii (S 36 c.toNat) = 0) = (ii (S 36 c.toNat) = ii 0) from rfl, ii_eq ⟨by omega, by omega⟩ ⟨by decide, by decide⟩]
  refine ⟨fun w => go (fun z => by omega), fun w => ?_⟩
  refine P.rR (k := 0) rfl rfl ⟨P.o (k := 1) rfl, P.near hK na.2 ?_⟩
  rw [bI_1, bI_0]
  refine ⟨fun w2 => go (fun _ z => by rw [w2] at z; cases z), fun w2 => ?_⟩
  refine P.rR (k := 0) rfl rfl (P.rR (k := 0) rfl rfl (P.rI (k := 3) rfl rfl ⟨P.o (k := 4) rfl, P.yesC hB (a := s) (b := c.toNat) (by omega) (by omega) (congrArg ii na.1) (congrArg ii (by omega)) ?_⟩))
  rw [bI_1, bI_0]
  exact ⟨fun w3 => go (fun _ _ => w3), fun w3 => q3 a ⟨c0, c1⟩ (by omega) w2 w3⟩
end CP3
