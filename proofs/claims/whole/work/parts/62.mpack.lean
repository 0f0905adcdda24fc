/-! the reference: packings -/
theorem fst_m {E : Nat → Nat → Int} {C : Int} {m m' : Nat → Bool} {s : Nat} {p p' : Nat → Int} (h : ∀ i, i < 8 → m i = m' i) (q : fst E m C s p p') : fst E m' C s p p' := by
  refine ⟨q.1, fun t ht ht8 hm => ?_⟩
  obtain ⟨g1, g2, g3⟩ := q.2 t ht ht8 (by rw [h t ht8]; exact hm)
  refine ⟨g1, fun k hk hmk => g2 k hk (by rw [h k (by omega)]; exact hmk), fun c c0 c1 w => g3 c c0 c1 ⟨fun k hk hmk => w.1 k hk (by rw [← h k (by omega)]; exact hmk), okp_m (fun i hi => (h i hi).symm) w.2⟩⟩
theorem okp_0 {E : Nat → Nat → Int} {C : Int} {m : Nat → Bool} {p q : Nat → Int} (h : okp E m C 0 p) : okp E m C 0 q := okp_of (fun i hi => by omega) h
/-- who is in: the reference's row -/
def memM (S : Nat → Nat → Int) (j : Nat) : Bool := decide (j < ntM S ∧ S 130 j = 1)
def PL (S : Nat → Nat → Int) : Prop := (∀ i, i < 8 → 0 ≤ S 131 i ∧ S 131 i ≤ 7) ∧ ∀ i, i < 8 → S 130 i = 0 ∨ S 130 i = 1
section MP
variable {G : Gx} {A : Nat → Nat} {B : Nat → Nat → Nat} {S : Nat → Nat → Int} {h : hw}
theorem Pic.mfits (P : Pic G A B S h) (hM : MO S) (hP : PL S) {t : Nat} (ht : t < ntM S) {x : Int32} (hx : x = ii (t : Int)) {post : Int32 → Prop} (q1 : fitp (EM S) (memM S) t (S 131) → post 1) (q0 : ¬ fitp (EM S) (memM S) t (S 131) → post 0) : wp_X12_fits G (A 80) x h post := by
  obtain ⟨n8, n4, n5⟩ := ntM_8 hM
  subst hx
  have pt := hP.1 t (by omega)
  intro J hJ
  have bad : ∀ (d i : Nat), i + d = t → ¬ fitp (EM S) (memM S) t (S 131) → J (ii 0) (ii (i : Int)) := by
    intro d
    induction d with
    | zero =>
      intro i hi hb
      apply hJ
      rw [ii_le ⟨by omega, by omega⟩ ⟨by omega, by omega⟩]
      exact ⟨fun _ => ⟨Or.inl rfl, q0 hb⟩, fun c => absurd (show ((t : Nat) : Int) ≤ i by omega) c⟩
    | succ d ih =>
      intro i hi hb
      apply hJ
      rw [ii_le ⟨by omega, by omega⟩ ⟨by omega, by omega⟩]
      refine ⟨fun c => absurd c (by omega), fun _ => ?_⟩
      intro J48 hJ48 J47 hJ47
      refine ⟨fun _ => ?_, fun c => absurd rfl c⟩
      apply hJ47; apply hJ48; rw [ii_inc']; exact ih (i + 1) (by omega) hb
  have main : ∀ i : Nat, i ≤ t → (∀ k, k < i → memM S k = true → br2 (EM S) t (S 131 t) k (S 131 k) = false) → J (ii 1) (ii (i : Int)) := by
    intro i hi
    refine lp_up (J := fun i : Nat => (∀ k, k < i → memM S k = true → br2 (EM S) t (S 131 t) k (S 131 k) = false) → J (ii 1) (ii (i : Int))) (n := t) ?_ ?_ hi
    · intro g
      apply hJ
      rw [ii_le ⟨by omega, by omega⟩ ⟨by omega, by omega⟩]
      exact ⟨fun _ => ⟨Or.inr rfl, q1 g⟩, fun c => absurd (Int.le_refl _) c⟩
    · intro i hi ih g
      have pi := hP.1 i (by omega)
      have si := hP.2 i (by omega)
      apply hJ
      rw [ii_le ⟨by omega, by omega⟩ ⟨by omega, by omega⟩]
      refine ⟨fun c => absurd c (by omega), fun _ => ?_⟩
      intro J48 hJ48 J47 hJ47
      refine ⟨fun c => absurd c (by decide), fun _ => ?_⟩
      refine P.zd (k := 130) (i := i) ⟨by omega, by omega, rfl, rfl⟩ rfl (show _ < 8 by omega) ?_
      intro J43 hJ43
      have go : (memM S i = true → br2 (EM S) t (S 131 t) i (S 131 i) = false) → J43 := fun z => by
        apply hJ43; apply hJ48; rw [ii_inc']
        refine ih (fun k hk => ?_)
        by_cases y : k = i
        · subst y; exact z
        · exact g k (by omega)
      rw [il_0, ii_eq ⟨by omega, by omega⟩ ⟨by decide, by decide⟩]
      refine ⟨fun c => go (fun z => ?_), fun c => ?_⟩
      · unfold memM at z; rw [decide_eq_true_eq] at z; omega
      · have mi : memM S i = true := decide_eq_true ⟨by omega, by omega⟩
        refine P.md (k := 131) (i := i) ⟨by omega, by omega, rfl, rfl⟩ rfl (show _ < 8 by omega) ?_
        refine P.md (k := 131) (i := t) ⟨by omega, by omega, rfl, rfl⟩ rfl (show _ < 8 by omega) ?_
        refine ⟨P.o (k := 80) rfl, P.mbar hM (a := i) (b := t) (by omega) (by omega) ⟨by omega, by omega⟩ ⟨by omega, by omega⟩ rfl rfl rfl rfl ?_⟩
        rw [← il_0, br2_sym, bI_1, bI_0]
        refine ⟨fun c3 => ?_, fun c3 => go (fun _ => c3)⟩
        apply hJ47; apply hJ48; rw [ii_inc']
        refine bad (t - (i + 1)) (i + 1) (by omega) (fun z => ?_)
        have := z i hi mi
        rw [c3] at this; cases this
  exact main 0 (by omega) (fun k hk => by omega)
theorem Pic.mpacks : ∀ (m s d : Nat) {G : Gx} {A : Nat → Nat} {B : Nat → Nat → Nat} {S : Nat → Nat → Int} {h : hw}, s + m = ntM S → m < d → ∀ (_ : Pic G A B S h) (_ : MO S) (_ : PL S) {C : Int} (_ : 0 ≤ C ∧ C ≤ 8) {x y : Int32} (_ : x = ii (s : Int)) (_ : y = ii C) {post : Int32 → hw → Prop} (_ : ∀ S' h', Pic G A B S' h' → (∀ k, k ≠ 131 → S' k = S k) → PL S' → fst (EM S) (memM S) C s (S 131) (S' 131) → post 1 h') (_ : ∀ S' h', Pic G A B S' h' → (∀ k, k ≠ 131 → S' k = S k) → PL S' → (∀ i, i < s → S' 131 i = S 131 i) → ¬ okp (EM S) (memM S) C s (S 131) → post 0 h'), wp_X12_packs G d (A 80) x y h post := by
  intro m
  induction m with
  | zero =>
    intro s d G A B S h hs hd P hM hP C hC x y hx hy post q1 q0
    subst hx hy
    obtain ⟨d, rfl⟩ : ∃ d', d = d' + 1 := ⟨d - 1, by omega⟩
    obtain ⟨n8, n4, n5⟩ := ntM_8 hM
    refine P.rI (k := 80) rfl rfl ?_
    rw [n4, ii_eq ⟨by omega, by omega⟩ ⟨by omega, by omega⟩]
    refine ⟨fun c => absurd (show (s : Int) = ((ntM S : Nat) : Int) by omega) c, fun _ => q1 S h P (fun _ _ => rfl) hP ⟨fun _ _ => rfl, fun t h1 h2 h3 => ?_⟩⟩
    unfold memM at h3; rw [decide_eq_true_eq] at h3; omega
  | succ m ihm =>
    intro s d G A B S h hs hd P hM hP C hC x y hx hy post q1 q0
    subst hx hy
    obtain ⟨d, rfl⟩ : ∃ d', d = d' + 1 := ⟨d - 1, by omega⟩
    obtain ⟨n8, n4, n5⟩ := ntM_8 hM
    have si := hP.2 s (by omega)
    refine P.rI (k := 80) rfl rfl ?_
    rw [n4, ii_eq ⟨by omega, by omega⟩ ⟨by omega, by omega⟩]
    refine ⟨fun _ => ?_, fun c => absurd c (by omega)⟩
    refine P.zd (k := 130) (i := s) ⟨by omega, by omega, rfl, rfl⟩ rfl (show _ < 8 by omega) ?_
    rw [show (ii (S 130 s) = 0) = (ii (S 130 s) = ii 0) from rfl, ii_eq ⟨by omega, by omega⟩ ⟨by decide, by decide⟩]
    refine ⟨fun hne => ?_, fun he => ?_⟩
    · have hms : memM S s = true := decide_eq_true ⟨by omega, by omega⟩
      intro J hJ
      have main : ∀ c : Nat, c ≤ C.toNat → ∀ (S' : Nat → Nat → Int) (h' : hw), Pic G A B S' h' → (∀ k, k ≠ 131 → S' k = S k) → PL S' → (∀ i, i < s → S' 131 i = S 131 i) → (∀ c' : Int, 0 ≤ c' → c' < c → ¬ (fitp (EM S) (memM S) s (up (S 131) s c') ∧ okp (EM S) (memM S) C (s + 1) (up (S 131) s c'))) → J (ii (c : Int)) h' := by
        intro c hc
        refine lp_up (J := fun c : Nat => ∀ (S' : Nat → Nat → Int) (h' : hw), Pic G A B S' h' → (∀ k, k ≠ 131 → S' k = S k) → PL S' → (∀ i, i < s → S' 131 i = S 131 i) → (∀ c' : Int, 0 ≤ c' → c' < c → ¬ (fitp (EM S) (memM S) s (up (S 131) s c') ∧ okp (EM S) (memM S) C (s + 1) (up (S 131) s c'))) → J (ii (c : Int)) h') (n := C.toNat) ?_ ?_ hc
        · intro S' h' P' e1 e2 e3 e4
          apply hJ
          rw [ii_le ⟨by omega, by omega⟩ ⟨by omega, by omega⟩]
          refine ⟨fun _ => q0 S' h' P' e1 e2 e3 (fun hok => ?_), fun z => absurd (show C ≤ ((C.toNat : Nat) : Int) by omega) z⟩
          obtain ⟨c', g1, g2, g3⟩ := okp_step (by omega) hms hok
          exact e4 c' g1.1 (by omega) ⟨g2, g3⟩
        · intro c hc ih S' h' P' e1 e2 e3 e4
          apply hJ
          rw [ii_le ⟨by omega, by omega⟩ ⟨by omega, by omega⟩]
          refine ⟨fun z => absurd z (by omega), fun _ => ?_⟩
          refine P'.ms (k := 131) (i := s) (z := (c : Int)) ⟨by omega, by omega, rfl, rfl⟩ rfl rfl (show _ < 8 by omega) (fun h1 P1 => ?_)
          obtain ⟨S1, hS1⟩ : ∃ S1, S1 = su S' 131 s (c : Int) := ⟨_, rfl⟩
          rw [← hS1] at P1
          have f131 : S1 131 = up (S' 131) s c := by rw [hS1]; exact su_up _ _ _
          have f1 : ∀ k, k ≠ 131 → S1 k = S k := fun k hk => by rw [hS1, su_row _ _ hk, e1 k hk]
          obtain ⟨hM1, eE, eN⟩ := hM.of (S' := S1) (fun k hk => f1 k (by omega))
          have eM : memM S1 = memM S := by funext j; unfold memM; rw [eN, f1 130 (by omega)]
          have hP1 : PL S1 := ⟨fun i hi => by
            rw [f131]; unfold up
            split
            · omega
            · exact e2.1 i hi, fun i hi => by rw [f1 130 (by omega)]; exact hP.2 i hi⟩
          have hup : ∀ i, i < s + 1 → S1 131 i = up (S 131) s c i := fun i hi => by
            rw [f131]
            by_cases z : i = s
            · rw [z, up_at, up_at]
            · rw [up_ne z, up_ne z, e3 i (by omega)]
          refine ⟨P1.o (k := 80) rfl, P1.mfits hM1 hP1 (t := s) (by omega) rfl (fun hfit => ?_) (fun hnf => ?_)⟩
          · rw [eE, eM] at hfit
            have hfit' : fitp (EM S) (memM S) s (up (S 131) s c) := fitp_of (fun i hi _ => hup i (by omega)) hfit
            intro J2 hJ2
            refine ⟨fun z => absurd z (by decide), fun _ => ?_⟩
            refine ⟨P1.o (k := 80) rfl, ?_⟩
            refine ihm (s + 1) d (by omega) (by omega) P1 hM1 hP1 hC (ii_inc' s) rfl (fun S3 h3 P3 k1 k2 k3 => ?_) (fun S3 h3 P3 k1 k2 k3 k4 => ?_)
            · rw [eE, eM] at k3
              refine ⟨fun z => absurd z (by decide), fun _ => ?_⟩
              refine q1 S3 h3 P3 (fun k hk => by rw [k1 k hk, f1 k hk]) k2 ?_
              have k3' : fst (EM S) (memM S) C (s + 1) (up (S 131) s c) (S3 131) := ⟨fun i hi => by rw [k3.1 i hi, hup i hi], k3.2⟩
              exact fst_cons ⟨by omega, by omega⟩ hfit' k3' (fun c' c0 c1 => e4 c' c0 c1)
            · rw [eE, eM] at k4
              refine ⟨fun _ => ?_, fun z => absurd rfl z⟩
              apply hJ2
              rw [ii_inc']
              refine ih S3 h3 P3 (fun k hk => by rw [k1 k hk, f1 k hk]) k2 (fun i hi => by rw [k3 i (by omega), hup i (by omega), up_ne (by omega)]) (fun c' c0 c1 w => ?_)
              by_cases z : c' < (c : Int)
              · exact e4 c' c0 z w
              · have z : c' = (c : Int) := by omega
                subst z
                exact k4 (okp_of (fun i hi _ => (hup i hi).symm) w.2)
          · rw [eE, eM] at hnf
            intro J2 hJ2
            refine ⟨fun _ => ?_, fun z => absurd rfl z⟩
            apply hJ2
            rw [ii_inc']
            refine ih S1 h1 P1 f1 hP1 (fun i hi => by rw [hup i (by omega), up_ne (by omega)]) (fun c' c0 c1 w => ?_)
            by_cases z : c' < (c : Int)
            · exact e4 c' c0 z w
            · have z : c' = (c : Int) := by omega
              subst z
              exact hnf (fitp_of (fun i hi _ => (hup i (by omega)).symm) w.1)
      exact main 0 (by omega) S h P (fun _ _ => rfl) hP (fun _ _ => rfl) (fun c' c0 c1 => by omega)
    · have hms : memM S s = false := decide_eq_false (fun z => by omega)
      refine ⟨P.o (k := 80) rfl, ?_⟩
      refine ihm (s + 1) d (by omega) (by omega) P hM hP hC (ii_inc' s) rfl (fun S3 h3 P3 k1 k2 k3 => ⟨Or.inr rfl, q1 S3 h3 P3 k1 k2 (fst_skip hms k3)⟩) (fun S3 h3 P3 k1 k2 k3 k4 => ⟨Or.inl rfl, q0 S3 h3 P3 k1 k2 (fun i hi => k3 i (by omega)) (fun hok => k4 (okp_skip hms hok))⟩)
/-- a row of those that are in, then their packing -/
theorem Pic.mpk (P : Pic G A B S h) (hM : MO S) (hP : PL S) {m : Nat → Bool} {C : Int} (hC : 0 ≤ C ∧ C ≤ 8) {y : Int32} (hy : y = ii C) (h130 : ∀ j, j < ntM S → S 130 j = bI (m j)) {post : Int32 → hw → Prop} (q1 : ∀ S' h', Pic G A B S' h' → (∀ k, k ≠ 131 → S' k = S k) → PL S' → fst (EM S) (fun j => decide (j < ntM S) && m j) C 0 (fun _ => -1) (S' 131) → post 1 h') (q0 : ∀ S' h', Pic G A B S' h' → (∀ k, k ≠ 131 → S' k = S k) → PL S' → ¬ okp (EM S) (fun j => decide (j < ntM S) && m j) C 0 (fun _ => -1) → post 0 h') : wp_X12_packs G 10 (A 80) 0 y h (fun r4 h5 => ((r4 = 0 ∨ r4 = 1) ∧ post r4 h5)) := by
  obtain ⟨n8, n4, n5⟩ := ntM_8 hM
  have em : ∀ i, i < 8 → memM S i = (decide (i < ntM S) && m i) := fun i hi => by
    unfold memM
    by_cases w : i < ntM S
    · rw [h130 i w, decide_eq_true w, Bool.true_and]
      cases m i
      · exact decide_eq_false (fun z => by have := z.2; cases this)
      · exact decide_eq_true ⟨w, rfl⟩
    · rw [decide_eq_false (fun z => w z.1), decide_eq_false w, Bool.false_and]
  refine Pic.mpacks (ntM S) 0 10 (by omega) (by omega) P hM hP hC il_0 hy (fun S3 h3 P3 k1 k2 k3 => ⟨Or.inr rfl, q1 S3 h3 P3 k1 k2 ?_⟩) (fun S3 h3 P3 k1 k2 k3 k4 => ⟨Or.inl rfl, q0 S3 h3 P3 k1 k2 (fun z => k4 (okp_0 (okp_m (fun i hi => (em i hi).symm) z)))⟩)
  exact fst_m em ⟨fun i hi => by omega, k3.2⟩
end MP
