/-! the reference: phases, a whole move -/
def pot (E : Nat → Nat → Int) (wt : Nat → Bool) (now : Nat → Int) (j : Nat) : Int := if wt j = true then (if now j = -1 then 1 else 2) else if E 7 j = 1 then 0 else if now j = -1 then 0 else 1
def pw (wt : Nat → Bool) (now : Nat → Int) (j : Nat) : Int := if wt j = true then (if now j = -1 then 1 else 2) else 0
theorem sm_le2 {f g : Nat → Int} {n : Nat} (h : ∀ i, i < n → f i ≤ g i) : sm f n ≤ sm g n := by
  induction n with
  | zero => exact Int.le_refl _
  | succ n ih =>
    have a := ih (fun i hi => h i (by omega))
    have b := h n (by omega)
    unfold sm; omega
theorem sm_le3 {f g : Nat → Int} {n k : Nat} (hk : k < n) (h : ∀ i, i < n → f i ≤ g i) (h1 : f k + 1 ≤ g k) : sm f n + 1 ≤ sm g n := by
  induction n with
  | zero => omega
  | succ n ih =>
    unfold sm
    by_cases y : k = n
    · subst y
      have := sm_le2 (f := f) (g := g) (n := k) (fun i hi => h i (by omega)); omega
    · have := ih (by omega) (fun i hi => h i (by omega))
      have := h n (by omega); omega
theorem pw_in (wt : Nat → Bool) (now : Nat → Int) (j : Nat) : 0 ≤ pw wt now j ∧ pw wt now j ≤ 2 ∧ (wt j = true → 1 ≤ pw wt now j) ∧ (wt j = false → pw wt now j = 0) := by
  unfold pw
  cases wt j with
  | true => rw [if_pos rfl]; split <;> exact ⟨by omega, by omega, (fun _ => by omega), (fun z => by cases z)⟩
  | false => exact ⟨by simp, by simp, (fun z => by cases z), (fun _ => by simp)⟩
theorem sm_pw (wt : Nat → Bool) (now : Nat → Int) (n : Nat) : 0 ≤ sm (pw wt now) n ∧ sm (pw wt now) n ≤ 2 * n ∧ (anyb wt n = true → 1 ≤ sm (pw wt now) n) := by
  induction n with
  | zero => exact ⟨by show (0 : Int) ≤ 0; omega, by show (0 : Int) ≤ _; omega, (fun z => by cases z)⟩
  | succ n ih =>
    obtain ⟨a, b, c⟩ := ih
    have d := pw_in wt now n
    unfold sm anyb
    refine ⟨by omega, by omega, fun z => ?_⟩
    rw [Bool.or_eq_true] at z
    rcases z with z | z
    · have := c z; omega
    · have := d.2.2.1 z; omega
theorem anyb_ex {f : Nat → Bool} {n i : Nat} (h : i < n) (w : f i = true) : anyb f n = true := anyb_t.mpr ⟨i, h, w⟩
section PH
variable {E : Nat → Nat → Int} {pl : Nat → Int} {crews its : Int}
theorem mstep_y {k : Nat} {q : Mst} (h : q.1 k = true ∧ q.2.2.2 < crews ∧ fre E pl q.2.1 k = true) : mstep E pl crews its k q = (bu q.1 k false, mvn E k (pl k) q.2.1, up q.2.2.1 k its, q.2.2.2 + 1) := if_pos h
theorem mstep_n {k : Nat} {q : Mst} (h : ¬ (q.1 k = true ∧ q.2.2.2 < crews ∧ fre E pl q.2.1 k = true)) : mstep E pl crews its k q = q := if_neg h
/-- what a phase leaves: fewer wait, by as many as moved -/
theorem mph_pw {n : Nat} {q : Mst} (hw : ∀ j, j < n → q.1 j = true → E 7 j = 1) (k : Nat) (hk : k ≤ n) : (∀ j, j < n → (mph E pl crews its q k).1 j = true → q.1 j = true) ∧ sm (pw (mph E pl crews its q k).1 (mph E pl crews its q k).2.1) n + (mph E pl crews its q k).2.2.2 ≤ sm (pw q.1 q.2.1) n + q.2.2.2 ∧ cnt (mph E pl crews its q k).1 n + (mph E pl crews its q k).2.2.2 = cnt q.1 n + q.2.2.2 ∧ q.2.2.2 ≤ (mph E pl crews its q k).2.2.2 := by
  induction k with
  | zero => exact ⟨fun _ _ z => z, Int.le_refl _, rfl, Int.le_refl _⟩
  | succ k ih =>
    obtain ⟨i1, i2, i3, i4⟩ := ih (by omega)
    obtain ⟨r, hr⟩ : ∃ r, r = mph E pl crews its q k := ⟨_, rfl⟩
    show (∀ j, j < n → (mstep E pl crews its k (mph E pl crews its q k)).1 j = true → q.1 j = true) ∧ sm (pw (mstep E pl crews its k (mph E pl crews its q k)).1 (mstep E pl crews its k (mph E pl crews its q k)).2.1) n + (mstep E pl crews its k (mph E pl crews its q k)).2.2.2 ≤ _ ∧ cnt (mstep E pl crews its k (mph E pl crews its q k)).1 n + (mstep E pl crews its k (mph E pl crews its q k)).2.2.2 = _ ∧ _ ≤ (mstep E pl crews its k (mph E pl crews its q k)).2.2.2
    rw [← hr] at i1 i2 i3 i4 ⊢
    by_cases c : r.1 k = true ∧ r.2.2.2 < crews ∧ fre E pl r.2.1 k = true
    · rw [mstep_y c]
      show (∀ j, j < n → bu r.1 k false j = true → q.1 j = true) ∧ sm (pw (bu r.1 k false) (mvn E k (pl k) r.2.1)) n + (r.2.2.2 + 1) ≤ _ ∧ cnt (bu r.1 k false) n + (r.2.2.2 + 1) = _ ∧ _ ≤ r.2.2.2 + 1
      refine ⟨fun j hj z => ?_, ?_, ?_, by omega⟩
      · by_cases y : j = k
        · subst y; rw [bu_at] at z; cases z
        · rw [bu_ne y] at z; exact i1 j hj z
      · have := sm_le3 (f := pw (bu r.1 k false) (mvn E k (pl k) r.2.1)) (g := pw r.1 r.2.1) (n := n) (k := k) (by omega) (fun j hj => ?_) ?_
        · omega
        · by_cases y : j = k
          · subst y
            rw [(pw_in (bu r.1 j false) _ j).2.2.2 bu_at]; exact (pw_in r.1 r.2.1 j).1
          · cases w : r.1 j with
            | false => rw [(pw_in (bu r.1 k false) _ j).2.2.2 (by rw [bu_ne y]; exact w)]; exact (pw_in r.1 r.2.1 j).1
            | true =>
              have e : mvn E k (pl k) r.2.1 j = r.2.1 j := by
                unfold mvn
                rw [if_neg y, if_neg (fun z => ?_)]
                unfold sil at z
                rw [Bool.and_eq_true, decide_eq_true_eq (p := _ ∧ _ ∧ _)] at z
                exact z.1.2.1 (hw j hj (i1 j hj w))
              unfold pw
              rw [bu_ne y, e]; exact Int.le_refl _
        · rw [(pw_in (bu r.1 k false) _ k).2.2.2 bu_at]
          have := (pw_in r.1 r.2.1 k).2.2.1 c.1; omega
      · rw [cnt_bu (by omega) c.1]; omega
    · rw [mstep_n c]; exact ⟨i1, i2, i3, i4⟩
end PH
/-- a move's state, in the reference's cells -/
def MX (S : Nat → Nat → Int) (to_ : Nat → Int) (wt : Nat → Bool) (now ph : Nat → Int) : Prop := (∀ j, j < 8 → S 135 j = to_ j) ∧ (∀ j, j < 8 → S 129 j = ph j) ∧ (∀ j, j < 8 → S 113 j = now j) ∧ (∀ j, j < 8 → wt j = (decide (to_ j ≠ -1) && decide (ph j = -1))) ∧ ∀ j, j < 8 → -1 ≤ ph j ∧ ph j ≤ 16
/-- what still may be set -/
def SZ (S0 S E : Nat → Nat → Int) (wt : Nat → Bool) (now : Nat → Int) : Prop := ∀ j, j < 8 → S (170 + j) 2 + 2 * pot E wt now j ≤ S0 (170 + j) 2 + 4
def kmv (k : Nat) : Prop := kM k ∨ k = 129
section MV2
variable {G : Gx} {A : Nat → Nat} {B : Nat → Nat → Nat} {S S0 : Nat → Nat → Int} {h : hw}
theorem Pic.mlow (P : Pic G A B S h) (hM : MO S) {f : Nat → Bool} (hf : ∀ j, j < ntM S → f j = (decide (S 135 j ≠ -1) && (decide (S 129 j = -1) && decide (S 113 j ≠ -1)))) (h1 : ∀ j, j < 8 → -1 ≤ S 135 j ∧ S 135 j ≤ 7) (h2 : ∀ j, j < 8 → -1 ≤ S 129 j ∧ S 129 j ≤ 16) {post : Int32 → Prop} (q : post (ii (lws f (ntM S)))) : wp_X12_lowestOn G (A 80) h post := by
  obtain ⟨n8, n4, n5⟩ := ntM_8 hM
  refine P.rI (k := 80) rfl rfl ?_
  intro J hJ
  have main : ∀ i : Nat, i ≤ ntM S → ∀ a : Int, lws f (ntM S) = (if lws f i ≠ -1 then lws f i else a) → J (ii a) (ii ((i : Int) - 1)) := by
    intro i hi
    induction i with
    | zero =>
      intro a ha
      have ha : lws f (ntM S) = a := by rw [ha]; exact if_neg (fun z => z rfl)
      apply hJ
      rw [il_0, ii_lt ⟨by omega, by omega⟩ ⟨by decide, by decide⟩]
      refine ⟨fun _ => by rw [← ha]; exact q, fun z => absurd (show ((0 : Nat) : Int) - 1 < 0 by omega) z⟩
    | succ i ih =>
      intro a ha
      have ih := ih (by omega)
      have el : lws f (i + 1) = if lws f i ≠ -1 then lws f i else if f i = true then (i : Int) else -1 := rfl
      have hi' : i < ntM S := by omega
      have ei : ii (((i + 1 : Nat) : Int) - 1) = ii (i : Int) := congrArg ii (by omega)
      have dn : ii (i : Int) + (-1) = ii ((i : Int) - 1) := by
        rw [il_m1, ii_add]
        exact congrArg ii (by omega)
      have c1 := h1 i (by omega); have c2 := h2 i (by omega); have c3 := hM.2 i (by omega)
      have ef := hf i hi'
      apply hJ
      rw [ei, show ((0 : Int32)) = ii 0 from il_0, ii_lt ⟨by omega, by omega⟩ ⟨by decide, by decide⟩]
      refine ⟨fun z => absurd z (by omega), fun _ => ?_⟩
      refine P.md (k := 135) (i := i) ⟨by decide, by decide, rfl, rfl⟩ rfl (show _ < 8 by omega) ?_
      intro J48 hJ48 J47 hJ47
      have no : f i = false → J47 := fun z => by
        apply hJ47; apply hJ48; rw [dn]
        refine ih a ?_
        rw [ha, el, z]
        by_cases y : lws f i = -1
        · simp [y]
        · simp [y]
      rw [il_m1, ii_eq ⟨by omega, by omega⟩ ⟨by decide, by decide⟩]
      refine ⟨fun z => no (by rw [ef, decide_eq_false (p := S 135 i ≠ -1) (fun w => w z)]; rfl), fun z => ?_⟩
      refine P.md (k := 129) (i := i) ⟨by decide, by decide, rfl, rfl⟩ rfl (show _ < 8 by omega) ?_
      rw [ii_eq ⟨by omega, by omega⟩ ⟨by decide, by decide⟩]
      refine ⟨fun w => no (by rw [ef, decide_eq_false w]; simp), fun w => ?_⟩
      refine P.mnow rfl (by omega) ?_
      rw [ii_eq ⟨by omega, by omega⟩ ⟨by decide, by decide⟩]
      refine ⟨fun u => no (by rw [ef, decide_eq_false (p := S 113 i ≠ -1) (fun w => w u)]; simp), fun u => ?_⟩
      apply hJ48; rw [dn]
      refine ih (i : Int) ?_
      have : f i = true := by rw [ef, decide_eq_true z, decide_eq_true w, decide_eq_true u]; rfl
      rw [ha, el, this]
      by_cases y : lws f i = -1
      · simp [y]
      · simp [y]
  have := main (ntM S) (Nat.le_refl _) (-1) (by
    by_cases y : lws f (ntM S) ≠ -1
    · rw [if_pos y]
    · rw [if_neg y]; omega)
  rw [n4, show ii ((ntM S : Nat) : Int) - 1 = ii (((ntM S : Nat) : Int) - 1) from ii_sub _ 1, il_m1]
  exact this
/-- one phase -/
theorem Pic.mphase (P : Pic G A B S h) (hM : MO S) (rm : RM S0 S) {uc us : Nat} (rt : RT S0 S uc us) (hl0 : ∀ t, t < ntM S → LI S0 t) (eN : ntM S = ntM S0) (hday : 0 ≤ S 80 1 ∧ S 80 1 ≤ 100000) (hcap : ∀ t, t < 8 → S0 (170 + t) 3 ≤ 4000) {bc bs : Nat} (hroom : ∀ (S' : Nat → Nat → Int) (uc us : Nat), RT S0 S' uc us → uc ≤ bc ∧ us ≤ bs) {pl to_ : Nat → Int} (hto : ∀ j, j < 8 → -1 ≤ to_ j ∧ to_ j ≤ 7 ∧ (to_ j ≠ -1 → to_ j = pl j ∧ j < ntM S ∧ EM S 7 j = 1)) {crews ps : Int} (hcr : 1 ≤ crews ∧ crews ≤ 4) (hps : 0 ≤ ps ∧ ps ≤ 15) {wt : Nat → Bool} {now ph : Nat → Int} (hx : MX S to_ wt now ph) (hz : SZ S0 S (EM S) wt now) {K : Int32 → hw → Nat → Nat → Prop} (q : ∀ Q, Q = mph (EM S) pl crews (ps + 1) (wt, now, ph, 0) (ntM S) → ∀ A' B' S' h' uc' us', Pic G A' B' S' h' → (∀ k, k < 180 → A' k = A k) → (∀ k, ¬ kmv k → S' k = S k) → RM S0 S' → RT S0 S' uc' us' → MO S' → MX S' to_ Q.1 Q.2.1 Q.2.2.1 → SZ S0 S' (EM S) Q.1 Q.2.1 → (0 ≤ Q.2.2.2 ∧ Q.2.2.2 ≤ 4) → K (ii Q.2.2.2) h' uc' us') : ∀ J260 : Int32 → Int32 → hw → Nat → Nat → Prop, (∀ (x5_27 : Int32) (x6_28 : Int32) (h29 : hw) (uc30 : Nat) (us31 : Nat), (rdI h29 (A 80) 12 4 (fun v32 => ((v32 ≤ x6_28 → K x5_27 h29 uc30 us31) ∧ (¬ v32 ≤ x6_28 → rdR h29 (A 80) 12 35 (fun v46 => ldI G h29 v46 x6_28 (fun v47 => ∀ J332 : Int32 → hw → Nat → Nat → Prop, (∀ (x5_48 : Int32) (h49 : hw) (uc50 : Nat) (us51 : Nat), (J260 x5_48 (x6_28 + 1) h49 uc50 us51) → J332 x5_48 h49 uc50 us51) → ((v47 = (-1) → J332 x5_27 h29 uc30 us31) ∧ (¬ v47 = (-1) → rdR h29 (A 80) 12 29 (fun v52 => ldI G h29 v52 x6_28 (fun v53 => ((¬ v53 = (-1) → J332 x5_27 h29 uc30 us31) ∧ (v53 = (-1) → ((ii crews ≤ x5_27 → J332 x5_27 h29 uc30 us31) ∧ (¬ ii crews ≤ x5_27 → rdR h29 (A 80) 12 35 (fun v54 => ldI G h29 v54 x6_28 (fun v55 => (isO h29 (A 80) 12 ∧ wp_X12_isBarredAt G (A 80) x6_28 v55 h29 (fun r56 => ((¬ r56 = 0 → J332 x5_27 h29 uc30 us31) ∧ (r56 = 0 → rdR h29 (A 80) 12 35 (fun v57 => ldI G h29 v57 x6_28 (fun v58 => ∃ bc59 bs60 : Nat, uc30 + bc59 ≤ bc ∧ us31 + bs60 ≤ bs ∧ (isO h29 (A 80) 12 ∧ wp_X12_moves G (A 80) x6_28 v58 (ii ps + 1) h29 bc59 bs60 (fun h61 => J332 (x5_27 + 1) h61 (uc30 + bc59) (us31 + bs60))))))))))))))))))))))))) → J260 x5_27 x6_28 h29 uc30 us31) → J260 0 0 h uc us := by
  obtain ⟨n8, n4, n5⟩ := ntM_8 hM
  obtain ⟨E, hE⟩ : ∃ E, E = EM S := ⟨_, rfl⟩
  rw [← hE] at q hz hto
  intro J hJ
  obtain ⟨q0, hq0⟩ : ∃ q0 : Mst, q0 = (wt, now, ph, 0) := ⟨_, rfl⟩
  have q := q (mph E pl crews (ps + 1) (wt, now, ph, 0) (ntM S)) rfl
  rw [← hq0] at q
  have main : ∀ i : Nat, i ≤ ntM S → ∀ (A' : Nat → Nat) (B' : Nat → Nat → Nat) (S' : Nat → Nat → Int) (h' : hw) (u v : Nat), Pic G A' B' S' h' → (∀ k, k < 180 → A' k = A k) → (∀ k, ¬ kmv k → S' k = S k) → RM S0 S' → RT S0 S' u v → MO S' → MX S' to_ (mph E pl crews (ps + 1) q0 i).1 (mph E pl crews (ps + 1) q0 i).2.1 (mph E pl crews (ps + 1) q0 i).2.2.1 → SZ S0 S' E (mph E pl crews (ps + 1) q0 i).1 (mph E pl crews (ps + 1) q0 i).2.1 → (0 ≤ (mph E pl crews (ps + 1) q0 i).2.2.2 ∧ (mph E pl crews (ps + 1) q0 i).2.2.2 ≤ 4) → J (ii (mph E pl crews (ps + 1) q0 i).2.2.2) (ii (i : Int)) h' u v := by
    intro i hi
    refine lp_up (J := fun i : Nat => ∀ (A' : Nat → Nat) (B' : Nat → Nat → Nat) (S' : Nat → Nat → Int) (h' : hw) (u v : Nat), Pic G A' B' S' h' → (∀ k, k < 180 → A' k = A k) → (∀ k, ¬ kmv k → S' k = S k) → RM S0 S' → RT S0 S' u v → MO S' → MX S' to_ (mph E pl crews (ps + 1) q0 i).1 (mph E pl crews (ps + 1) q0 i).2.1 (mph E pl crews (ps + 1) q0 i).2.2.1 → SZ S0 S' E (mph E pl crews (ps + 1) q0 i).1 (mph E pl crews (ps + 1) q0 i).2.1 → (0 ≤ (mph E pl crews (ps + 1) q0 i).2.2.2 ∧ (mph E pl crews (ps + 1) q0 i).2.2.2 ≤ 4) → J (ii (mph E pl crews (ps + 1) q0 i).2.2.2) (ii (i : Int)) h' u v) (n := ntM S) ?_ ?_ hi
    · intro A' B' S' h' u v P' a1 m1 m2 m3 m4 m5 m6 m7
      have e80 : S' 80 = S 80 := m1 80 (fun z => by unfold kmv kM at z; omega)
      apply hJ
      rw [← a1 80 (by decide)]
      refine P'.rI (k := 80) rfl rfl ?_
      rw [e80, n4, ii_le ⟨by omega, by omega⟩ ⟨by omega, by omega⟩]
      exact ⟨fun _ => q A' B' S' h' u v P' a1 m1 m2 m3 m4 m5 m6 m7, fun z => absurd (Int.le_refl _) z⟩
    · intro i hi ih A' B' S' h' u v P' a1 m1 m2 m3 m4 m5 m6 m7
      have e80 : S' 80 = S 80 := m1 80 (fun z => by unfold kmv kM at z; omega)
      have eN' : ntM S' = ntM S := by unfold ntM; rw [e80]
      have eE' : EM S' = E := by
        have g : ∀ k, k = 80 ∨ (105 ≤ k ∧ k ≤ 112) → S' k = S k := fun k hk => m1 k (fun z => by unfold kmv kM at z; omega)
        rw [hE]
        funext k i
        unfold EM
        rw [g 106 (by omega), g 107 (by omega), g 108 (by omega), g 105 (by omega), g 109 (by omega), g 110 (by omega), g 111 (by omega), g 112 (by omega), g 80 (by omega)]
      obtain ⟨r, hr⟩ : ∃ r, r = mph E pl crews (ps + 1) q0 i := ⟨_, rfl⟩
      have ih : ∀ (A' : Nat → Nat) (B' : Nat → Nat → Nat) (S' : Nat → Nat → Int) (h' : hw) (u v : Nat), Pic G A' B' S' h' → (∀ k, k < 180 → A' k = A k) → (∀ k, ¬ kmv k → S' k = S k) → RM S0 S' → RT S0 S' u v → MO S' → MX S' to_ (mstep E pl crews (ps + 1) i r).1 (mstep E pl crews (ps + 1) i r).2.1 (mstep E pl crews (ps + 1) i r).2.2.1 → SZ S0 S' E (mstep E pl crews (ps + 1) i r).1 (mstep E pl crews (ps + 1) i r).2.1 → (0 ≤ (mstep E pl crews (ps + 1) i r).2.2.2 ∧ (mstep E pl crews (ps + 1) i r).2.2.2 ≤ 4) → J (ii (mstep E pl crews (ps + 1) i r).2.2.2) (ii ((i + 1 : Nat) : Int)) h' u v := by rw [hr]; exact ih
      rw [← hr] at m5 m6 m7 ⊢
      obtain ⟨x1, x2, x3, x4, x5⟩ := m5
      have to1 := hto i (by omega)
      have x5i := x5 i (by omega)
      apply hJ
      rw [← a1 80 (by decide)]
      refine P'.rI (k := 80) rfl rfl ?_
      rw [e80, n4, ii_le ⟨by omega, by omega⟩ ⟨by omega, by omega⟩]
      refine ⟨fun z => absurd z (by omega), fun _ => ?_⟩
      refine P'.md (k := 135) (i := i) ⟨by decide, by decide, rfl, rfl⟩ rfl (show _ < 8 by omega) ?_
      rw [x1 i (by omega)]
      intro J332 hJ332
      have no : ¬ (r.1 i = true ∧ r.2.2.2 < crews ∧ fre E pl r.2.1 i = true) → J332 (ii r.2.2.2) h' u v := fun z => by
        apply hJ332; rw [ii_inc']
        rw [mstep_n z] at ih
        exact ih A' B' S' h' u v P' a1 m1 m2 m3 m4 ⟨x1, x2, x3, x4, x5⟩ m6 m7
      have ew := x4 i (by omega)
      rw [il_m1, ii_eq ⟨by omega, by omega⟩ ⟨by decide, by decide⟩]
      refine ⟨fun z => no (fun w => ?_), fun z => ?_⟩
      · have := w.1; rw [ew, decide_eq_false (p := to_ i ≠ -1) (fun w => w z)] at this; cases this
      refine P'.md (k := 129) (i := i) ⟨by decide, by decide, rfl, rfl⟩ rfl (show _ < 8 by omega) ?_
      rw [x2 i (by omega), ii_eq ⟨by omega, by omega⟩ ⟨by decide, by decide⟩]
      refine ⟨fun y => no (fun w => ?_), fun y => ?_⟩
      · have := w.1; rw [ew, decide_eq_false (p := r.2.2.1 i = -1) y, Bool.and_false] at this; cases this
      have wi : r.1 i = true := by rw [ew, decide_eq_true z, decide_eq_true y]; rfl
      obtain ⟨t1, t2, t3⟩ := to1.2.2 z
      rw [ii_le ⟨by omega, by omega⟩ ⟨by omega, by omega⟩]
      refine ⟨fun y => no (fun w => by omega), fun y2 => ?_⟩
      refine P'.md (k := 135) (i := i) ⟨by decide, by decide, rfl, rfl⟩ rfl (show _ < 8 by omega) ?_
      rw [x1 i (by omega)]
      refine ⟨P'.o (k := 80) rfl, P'.mbat m4 (k := i) (by omega) (c := to_ i) ⟨by omega, by omega⟩ rfl rfl ?_⟩
      have eNE : nt E = ntM S := by rw [hE]; exact n5
      have ef := bat_fre (E := E) (pl := pl) (now := r.2.1) (now' := S' 113) (k := i) (fun j hj => x3 j (by omega))
      rw [eE', eN', t1, ← eNE]
      rw [bI_1, bI_0]
      refine ⟨fun w => no (fun u => by rw [ef, w] at u; exact absurd u.2.2 (by decide)), fun w => ?_⟩
      have fr : fre E pl r.2.1 i = true := by rw [ef, w]; rfl
      have es := mstep_y (crews := crews) (its := ps + 1) (pl := pl) (q := r) ⟨wi, by omega, fr⟩
      rw [es] at ih
      refine P'.md (k := 135) (i := i) ⟨by decide, by decide, rfl, rfl⟩ rfl (show _ < 8 by omega) ?_
      rw [x1 i (by omega)]
      have si : ∀ j, j < 8 → sil (EM S') i (to_ i) (S' 113) j = sil E i (pl i) r.2.1 j := fun j hj => by rw [eE', t1]; exact sil_of (x3 j hj)
      refine P'.mmoves m4 m2 m3 (fun t ht => hl0 t (by rw [eN'] at ht; exact ht)) (by rw [eN']; exact eN) (by rw [e80]; exact hday) hcap hroom (k := i) (by rw [eN']; exact hi) (by rw [eE']; exact t3) (c := to_ i) (its := ps + 1) ⟨by omega, by omega⟩ (fun j hj hs => ?_) rfl rfl (show ii ps + 1 = ii (ps + 1) from ii_add ps 1) (post := J332 (ii r.2.2.2 + 1)) (fun A2 B2 S2 h2 u2 v2 P2 a2 g1 g2 g3 g4 g5 g6 g7 => ?_)
      · have z6 := m6 j hj
        rw [si j hj] at hs
        rcases hs with hs | hs
        · subst hs
          unfold pot at z6; rw [if_pos wi] at z6; split at z6 <;> omega
        · unfold sil at hs
          rw [Bool.and_eq_true, decide_eq_true_eq (p := _ ∧ _ ∧ _)] at hs
          unfold pot at z6
          rw [if_neg hs.1.2.1, if_neg hs.1.2.2] at z6
          split at z6 <;> omega
      · apply hJ332; rw [ii_inc', show ii r.2.2.2 + 1 = ii (r.2.2.2 + 1) from ii_add _ 1]
        refine ih A2 B2 S2 h2 u2 v2 P2 (fun j hj => by rw [a2 j hj, a1 j hj]) (fun j hj => by rw [g1 j (fun z => hj (Or.inl z)) (fun z => hj (Or.inr z)), m1 j hj]) g4 g5 g6 ⟨fun j hj => ?_, fun j hj => ?_, fun j hj => ?_, fun j hj => ?_, fun j hj => ?_⟩ (fun j hj => ?_) ⟨by show 0 ≤ r.2.2.2 + 1; omega, by show r.2.2.2 + 1 ≤ 4; omega⟩
        · rw [g1 135 (fun z => by unfold kM at z; omega) (by decide)]; exact x1 j hj
        · rw [g3]; show up (S' 129) i (ps + 1) j = up r.2.2.1 i (ps + 1) j
          by_cases y3 : j = i
          · subst y3; rw [up_at, up_at]
          · rw [up_ne y3, up_ne y3]; exact x2 j hj
        · rw [g2]; show mvn (EM S') i (to_ i) (S' 113) j = mvn E i (pl i) r.2.1 j
          unfold mvn
          rw [si j hj, x3 j hj, t1]
        · show bu r.1 i false j = (decide (to_ j ≠ -1) && decide (up r.2.2.1 i (ps + 1) j = -1))
          by_cases y3 : j = i
          · subst y3; rw [bu_at, up_at, decide_eq_false (p := ps + 1 = -1) (by omega), Bool.and_false]
          · rw [bu_ne y3, up_ne y3]; exact x4 j hj
        · show -1 ≤ up r.2.2.1 i (ps + 1) j ∧ up r.2.2.1 i (ps + 1) j ≤ 16
          by_cases y3 : j = i
          · subst y3; rw [up_at]; omega
          · rw [up_ne y3]; exact x5 j hj
        · have z6 := m6 j hj
          show S2 (170 + j) 2 + 2 * pot E (bu r.1 i false) (mvn E i (pl i) r.2.1) j ≤ S0 (170 + j) 2 + 4
          rw [g7 j hj, si j hj]
          by_cases y3 : j = i
          · subst y3
            rw [if_pos (Or.inl rfl)]
            have : pot E (bu r.1 j false) (mvn E j (pl j) r.2.1) j = 0 := by
              unfold pot; rw [bu_at, if_neg (by decide), if_pos t3]
            rw [this]
            unfold pot at z6; rw [if_pos wi] at z6; split at z6 <;> omega
          · by_cases s : sil E i (pl i) r.2.1 j = true
            · rw [if_pos (Or.inr s)]
              have e3 : mvn E i (pl i) r.2.1 j = -1 := by unfold mvn; rw [if_neg y3, if_pos s]
              have s2 := s
              unfold sil at s
              rw [Bool.and_eq_true, decide_eq_true_eq (p := _ ∧ _ ∧ _)] at s
              have nw : r.1 j = false := by
                cases e4 : r.1 j with
                | false => rfl
                | true =>
                  rw [x4 j hj, Bool.and_eq_true, decide_eq_true_eq] at e4
                  exact absurd ((hto j hj).2.2 e4.1).2.2 s.1.2.1
              have : pot E (bu r.1 i false) (mvn E i (pl i) r.2.1) j = 0 := by
                unfold pot; rw [bu_ne y3, nw, e3, if_neg (by decide), if_neg s.1.2.1, if_pos rfl]
              rw [this]
              unfold pot at z6
              rw [nw, if_neg (by decide), if_neg s.1.2.1, if_neg s.1.2.2] at z6
              omega
            · rw [if_neg (fun z => z.elim y3 s)]
              have e3 : mvn E i (pl i) r.2.1 j = r.2.1 j := by unfold mvn; rw [if_neg y3, if_neg s]
              have : pot E (bu r.1 i false) (mvn E i (pl i) r.2.1) j = pot E r.1 r.2.1 j := by unfold pot; rw [bu_ne y3, e3]
              rw [this]; omega
  have := main 0 (Nat.zero_le _) A B S h uc us P (fun _ _ => rfl) (fun _ _ => rfl) rm rt hM (by rw [hq0]; exact hx) (by rw [hq0]; exact hz) (by rw [hq0]; exact ⟨by show (0 : Int) ≤ 0; omega, by show (0 : Int) ≤ 4; omega⟩)
  rw [hq0] at this
  exact this
end MV2
