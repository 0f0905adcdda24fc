/-! the reference: changes of the register in one call, and their room -/
def kM (k : Nat) : Prop := k = 113 ∨ (170 ≤ k ∧ k < 178) ∨ (190 ≤ k ∧ k < 198)
/-- one list since the call's start: at most two changes, it has grown once at most -/
def rl1 (S0 S : Nat → Nat → Int) (s : Nat) : Prop := S0 (170 + s) 2 ≤ S (170 + s) 2 ∧ S (170 + s) 2 ≤ S0 (170 + s) 2 + 4 ∧ (S (170 + s) 3 = S0 (170 + s) 3 ∨ (S (170 + s) 3 = gr (S0 (170 + s) 3) ∧ S0 (170 + s) 3 ≤ S0 (170 + s) 2 + 3))
def cs1 (S0 S : Nat → Nat → Int) (s : Nat) : Int := (S (170 + s) 2 - S0 (170 + s) 2) + (if S (170 + s) 3 = S0 (170 + s) 3 then 0 else S (170 + s) 3)
def ds1 (S0 S : Nat → Nat → Int) (s : Nat) : Int := 2 * (S (170 + s) 2 - S0 (170 + s) 2)
def RT (S0 S : Nat → Nat → Int) (uc us : Nat) : Prop := (∀ s, s < 8 → rl1 S0 S s) ∧ (uc : Int) ≤ sm (ds1 S0 S) 8 ∧ (us : Int) ≤ sm (cs1 S0 S) 8
theorem sm_0 {f : Nat → Int} {n : Nat} (h : ∀ i, i < n → f i = 0) : sm f n = 0 := by
  induction n with
  | zero => rfl
  | succ n ih => unfold sm; rw [ih (fun i hi => h i (by omega)), h n (by omega)]; rfl
theorem sm_ch {f g : Nat → Int} {n s : Nat} (hs : s < n) (h : ∀ i, i < n → i ≠ s → g i = f i) : sm g n = sm f n + (g s - f s) := by
  have e : sm g n = sm (up f s (g s)) n := sm_of (fun i hi => by
    by_cases y : i = s
    · rw [y, up_at]
    · rw [up_ne y]; exact h i hi y)
  rw [e, sm_up hs]
theorem RT.base {S : Nat → Nat → Int} : RT S S 0 0 := by
  refine ⟨fun s _ => ⟨Int.le_refl _, by omega, Or.inl rfl⟩, ?_, ?_⟩
  · rw [sm_0 (fun i _ => by unfold ds1; omega)]; exact Int.le_refl 0
  · rw [sm_0 (fun i _ => by unfold cs1; rw [if_pos rfl]; omega)]; exact Int.le_refl 0
theorem RT.of {S0 S S' : Nat → Nat → Int} {uc us : Nat} (r : RT S0 S uc us) (h : ∀ s, s < 8 → S' (170 + s) = S (170 + s)) : RT S0 S' uc us := by
  refine ⟨fun s hs => by unfold rl1; rw [h s hs]; exact r.1 s hs, ?_, ?_⟩
  · rw [sm_of (g := ds1 S0 S) (fun i hi => by unfold ds1; rw [h i hi])]; exact r.2.1
  · rw [sm_of (g := cs1 S0 S) (fun i hi => by unfold cs1; rw [h i hi])]; exact r.2.2
/-- what one change costs -/
def cst (S : Nat → Nat → Int) (s : Nat) : Nat := (2 + (if S (170 + s) 2 + 2 ≤ S (170 + s) 3 then 0 else gr (S (170 + s) 3))).toNat
theorem RT.step {S0 S S' : Nat → Nat → Int} {uc us s : Nat} (r : RT S0 S uc us) (hs : s < 8) (l0 : LI S0 s) (l : LI S s) (h2 : S (170 + s) 2 ≤ S0 (170 + s) 2 + 2) (e2 : S' (170 + s) 2 = S (170 + s) 2 + 2) (e3 : S' (170 + s) 3 = cap2 (S (170 + s) 2) (S (170 + s) 3)) (ho : ∀ t, t < 8 → t ≠ s → S' (170 + t) = S (170 + t)) : RT S0 S' (uc + 3) (us + cst S s) := by
  obtain ⟨a1, a2, a3⟩ := r.1 s hs
  obtain ⟨b1, b2, b3, b4⟩ := l0
  obtain ⟨c1, c2, c3, c4⟩ := l
  have g : S' (170 + s) 3 = S0 (170 + s) 3 ∨ (S' (170 + s) 3 = gr (S0 (170 + s) 3) ∧ S0 (170 + s) 3 ≤ S0 (170 + s) 2 + 3) := by
    rw [e3]
    unfold cap2
    by_cases w : S (170 + s) 2 + 2 ≤ S (170 + s) 3
    · rw [if_pos w]; exact a3
    · rw [if_neg w]
      rcases a3 with a3 | ⟨a3, a4⟩
      · rw [a3]; exact Or.inr ⟨rfl, by omega⟩
      · exfalso
        unfold gr at a3
        split at a3 <;> omega
  have gp : ∀ z : Int, 0 ≤ z → 10 ≤ gr z ∨ (0 < z ∧ z < 10) := fun z hz => by
    unfold gr; split
    · exact Or.inl (by omega)
    · omega
  have hc : cs1 S0 S' s - cs1 S0 S s = (cst S s : Int) := by
    unfold cs1 cst
    rw [e2, e3]
    unfold cap2
    have grn : S (170 + s) 3 + 5 ≤ gr (S (170 + s) 3) := by unfold gr; split <;> omega
    by_cases w : S (170 + s) 2 + 2 ≤ S (170 + s) 3
    · rw [if_pos w, if_pos w]; split <;> omega
    · rw [if_neg w, if_neg w]
      rcases a3 with a3 | ⟨a3, a4⟩
      · rw [if_pos a3, if_neg (by omega)]
        omega
      · exfalso
        unfold gr at a3
        split at a3 <;> omega
  refine ⟨fun t ht => ?_, ?_, ?_⟩
  · by_cases y : t = s
    · subst y; exact ⟨by omega, by omega, g⟩
    · unfold rl1; rw [ho t ht y]; exact r.1 t ht
  · rw [sm_ch (f := ds1 S0 S) hs (fun i hi y => by unfold ds1; rw [ho i hi y])]
    have : ds1 S0 S' s - ds1 S0 S s = 4 := by unfold ds1; omega
    have := r.2.1
    omega
  · rw [sm_ch (f := cs1 S0 S) hs (fun i hi y => by unfold cs1; rw [ho i hi y]), hc]
    have := r.2.2
    omega
theorem RT.bound {S0 S : Nat → Nat → Int} {uc us c : Nat} (r : RT S0 S uc us) (h : ∀ s, s < 8 → 0 ≤ S0 (170 + s) 2 ∧ S0 (170 + s) 2 ≤ 4 * c ∧ 0 ≤ S0 (170 + s) 3) : uc ≤ 64 ∧ us ≤ 48 * c + 200 := by
  have a1 := sm_le (f := ds1 S0 S) (n := 8) (m := 8) (fun s hs => by
    have := r.1 s hs
    unfold rl1 at this; unfold ds1; omega)
  have a2 := sm_le (f := cs1 S0 S) (n := 8) (m := 6 * c + 25) (fun s hs => by
    have b := r.1 s hs
    have d := h s hs
    unfold rl1 at b; unfold cs1
    split
    · omega
    · rcases b.2.2 with w | ⟨w, w2⟩
      · omega
      · rw [w]; unfold gr; split <;> omega)
  have := r.2.1; have := r.2.2
  omega
/-- the register goes on by changes of today -/
def RM (S S' : Nat → Nat → Int) : Prop := RG S' ∧ S' 80 1 = S 80 1 ∧ ∀ j : Nat, j < ntM S → ∀ d, LM S' j d = if S 80 1 ≤ d then S' 113 j else LM S j d
theorem RM.base {S : Nat → Nat → Int} (hR : RG S) (h : ∀ j : Nat, j < ntM S → ∀ d, S 80 1 ≤ d → LM S j d = S 113 j) : RM S S := ⟨hR, rfl, fun j hj d => by
  by_cases w : S 80 1 ≤ d
  · rw [if_pos w]; exact h j hj d w
  · rw [if_neg w]⟩
theorem LM_of {S S' : Nat → Nat → Int} {s : Nat} (h1 : S' (170 + s) = S (170 + s)) (h2 : S' (190 + s) = S (190 + s)) (d : Int) : LM S' s d = LM S s d := by unfold LM; rw [h1, h2]
theorem RG.of {S S' : Nat → Nat → Int} (h : ∀ k, k = 50 ∨ k = 51 ∨ k = 81 ∨ 170 ≤ k → S' k = S k) (h80 : S' 80 4 = S 80 4) (r : RG S) : RG S' := by
  obtain ⟨r1, r2, r3, r4⟩ := r
  have g81 := h 81 (by omega)
  refine ⟨by rw [g81, h80]; exact r1, by rw [g81]; exact r2, by rw [h 50 (by omega), h 51 (by omega)]; exact r3, fun s hs => ?_⟩
  rw [g81] at hs
  unfold LI LV
  rw [h (170 + s) (by omega), h (190 + s) (by omega)]
  exact r4 s hs
theorem RM.of {S S1 S2 : Nat → Nat → Int} (h : ∀ k, k = 50 ∨ k = 51 ∨ k = 81 ∨ k = 113 ∨ 170 ≤ k → S2 k = S1 k) (h80 : S2 80 4 = S1 80 4) (h81 : S2 80 1 = S1 80 1) (r : RM S S1) : RM S S2 :=
  ⟨r.1.of (fun k hk => h k (by omega)) h80, by rw [h81]; exact r.2.1, fun j hj d => by
    rw [LM_of (h (170 + j) (by omega)) (h (190 + j) (by omega)), h 113 (by omega)]; exact r.2.2 j hj d⟩
section MR2
variable {G : Gx} {A : Nat → Nat} {B : Nat → Nat → Nat} {S S0 : Nat → Nat → Int} {h : hw}
theorem Pic.mset2 (P : Pic G A B S h) (hM : MO S) (rm : RM S0 S) {uc us : Nat} (rt : RT S0 S uc us) (hl0 : ∀ t, t < ntM S → LI S0 t) (eN : ntM S = ntM S0) {s : Nat} (hs : s < ntM S) (h2 : S (170 + s) 2 ≤ S0 (170 + s) 2 + 2) {c : Int} (hc : -1 ≤ c ∧ c ≤ 7) (hday : 0 ≤ S 80 1 ∧ S 80 1 ≤ 100000) (hcap : ∀ t, t < 8 → S0 (170 + t) 3 ≤ 4000) {bc bs : Nat} (hroom : ∀ (S' : Nat → Nat → Int) (uc us : Nat), RT S0 S' uc us → uc ≤ bc ∧ us ≤ bs) {x y : Int32} (hx : x = ii (s : Int)) (hy : y = ii c) {post : hw → Nat → Nat → Prop} (q : ∀ A' B' S' h' uc' us', Pic G A' B' S' h' → (∀ k, k < 180 → A' k = A k) → (∀ k, ¬ kM k → S' k = S k) → S' 113 = up (S 113) s c → RM S0 S' → RT S0 S' uc' us' → MO S' → S' (170 + s) 2 = S (170 + s) 2 + 2 → (∀ t, t < 8 → t ≠ s → S' (170 + t) = S (170 + t)) → post h' uc' us') : ∃ bc2 bs2 : Nat, uc + bc2 ≤ bc ∧ us + bs2 ≤ bs ∧ (isO h (A 80) 12 ∧ wp_X12_set G (A 80) x y h bc2 bs2 (fun h' => post h' (uc + bc2) (us + bs2))) := by
  obtain ⟨n8, n4, n5⟩ := ntM_8 hM
  have hR := rm.1
  have hs81 : (s : Int) < S 81 2 := by rw [hR.1]; omega
  obtain ⟨li, lev, lvv⟩ := hR.2.2.2 s hs81
  have l0 := hl0 s hs
  have a3 := (rt.1 s (by omega)).2.2
  have c3 : S (170 + s) 3 ≤ 600000 := by
    have := hcap s (by omega)
    rcases a3 with w | ⟨w, w2⟩
    · omega
    · rw [w]; unfold gr; split <;> omega
  have grn : 0 ≤ gr (S (170 + s) 3) := by have := li.2.2.1; have := li.1; have := li.2.1; unfold gr; split <;> omega
  have hday2 : rg (S 80 1) := ⟨by omega, by omega⟩
  -- the state behind it, whatever it is
  have after : ∀ S' : Nat → Nat → Int, S' (170 + s) 2 = S (170 + s) 2 + 2 → S' (170 + s) 3 = cap2 (S (170 + s) 2) (S (170 + s) 3) → (∀ t, t < 8 → t ≠ s → S' (170 + t) = S (170 + t)) → RT S0 S' (uc + 3) (us + cst S s) := fun S' e2 e3 ho => rt.step (by omega) l0 li h2 e2 e3 ho
  have room := hroom (fun k i => if k = 170 + s then (if i = 2 then S (170 + s) 2 + 2 else if i = 3 then cap2 (S (170 + s) 2) (S (170 + s) 3) else 0) else S k i) _ _ (after _ (by show (if 170 + s = 170 + s then _ else _) = _; rw [if_pos rfl, if_pos rfl]) (by show (if 170 + s = 170 + s then (if (3 : Nat) = 2 then _ else _) else _) = _; rw [if_pos rfl, if_neg (by decide), if_pos rfl]) (fun t _ ht => by funext i; show (if 170 + t = 170 + s then _ else _) = _; rw [if_neg (by omega)]))
  refine ⟨3, cst S s, room.1, room.2, P.o (k := 80) rfl, ?_⟩
  refine P.mset hM hR hs hx hy (by decide) (by unfold cst; split <;> omega) c3 hday2 ⟨by omega, by omega⟩ (fun A' B' S' h' P' a f g1 g2 g3 g4 g5 g6 => ?_)
  have ho : ∀ t, t < 8 → t ≠ s → S' (170 + t) = S (170 + t) := fun t ht hne => f _ (by omega) (by omega) (by omega)
  have f80 : S' 80 = S 80 := f 80 (by omega) (by omega) (by omega)
  have eE : EM S' = EM S := by
    funext k i
    unfold EM
    rw [f 106 (by omega) (by omega) (by omega), f 107 (by omega) (by omega) (by omega), f 108 (by omega) (by omega) (by omega), f 105 (by omega) (by omega) (by omega), f 109 (by omega) (by omega) (by omega), f 110 (by omega) (by omega) (by omega), f 111 (by omega) (by omega) (by omega), f 112 (by omega) (by omega) (by omega), f80]
  have eN' : ntM S' = ntM S := by unfold ntM; rw [f80]
  refine q A' B' S' h' (uc + 3) (us + cst S s) P' a (fun k hk => f k (fun z => hk (Or.inl z)) (fun z => hk (Or.inr (Or.inl (by omega)))) (fun z => hk (Or.inr (Or.inr (by omega))))) g1 ?_ (after S' g2 g3 ho) ⟨by rw [eE]; exact hM.1, fun j hj => by
    rw [g1]; unfold up
    split
    · exact hc
    · exact hM.2 j hj⟩ g2 ho
  refine ⟨⟨?_, ?_, ?_, fun t ht => ?_⟩, by rw [f80]; exact rm.2.1, fun j hj d => ?_⟩
  · rw [f 81 (by omega) (by omega) (by omega), f80]; exact hR.1
  · rw [f 81 (by omega) (by omega) (by omega)]; exact hR.2.1
  · rw [f 50 (by omega) (by omega) (by omega), f 51 (by omega) (by omega) (by omega)]; exact hR.2.2.1
  · rw [f 81 (by omega) (by omega) (by omega)] at ht
    by_cases y : t = s
    · subst y
      exact ⟨g5, by rw [g2]; omega, g6⟩
    · have r8 := hR.1
      unfold LI LV
      rw [f (170 + t) (by omega) (by omega) (by omega), f (190 + t) (by omega) (by omega) (by omega)]
      exact hR.2.2.2 t ht
  · have b := rm.2.2 j hj d
    have r80 := rm.2.1
    rw [g1]
    unfold up
    by_cases y : j = s
    · subst y
      rw [g4 d, if_pos rfl, r80]
      by_cases w : S0 80 1 ≤ d
      · rw [if_pos w, if_pos w]
      · rw [if_neg w, if_neg w, b, if_neg w]
    · rw [if_neg y, LM_of (f _ (by omega) (by omega) (by omega)) (f _ (by omega) (by omega) (by omega)), b]
theorem Pic.m_putOff (P : Pic G A B S h) (hM : MO S) (hR : RG S) (hlm : ∀ j : Nat, j < ntM S → ∀ d, S 80 1 ≤ d → LM S j d = S 113 j) (hday : 0 ≤ S 80 1 ∧ S 80 1 ≤ 100000) (hcap : ∀ t, t < 8 → S (170 + t) 3 ≤ 4000) {bc bs : Nat} (hroom : ∀ (S' : Nat → Nat → Int) (uc us : Nat), RT S S' uc us → uc ≤ bc ∧ us ≤ bs) {v : Int} (hv : rg v) {post : Int32 → hw → Prop} (q : inM S v → ∀ A' B' S' h' uc' us', Pic G A' B' S' h' → (∀ k, k < 180 → A' k = A k) → (∀ k, ¬ kM k → S' k = su S 80 0 0 k) → S' 113 = up (S 113) v.toNat (-1) → RM S S' → RT S S' uc' us' → post (ii (S 113 v.toNat)) h') (x1 : ¬ inM S v → ∀ h', Pic G A B (su S 80 0 1) h' → post 0 h') : wp_X12_putOff G (A 80) (ii v) h bc bs post := by
  obtain ⟨n8, n4, n5⟩ := ntM_8 hM
  obtain ⟨hM1, e1, e2⟩ := hM.t 0
  have f113 : su S 80 0 0 113 = S 113 := su_row _ _ (by decide)
  refine P.thr0 (fun h1 P1 => P1.mNo hM hv (Or.inl rfl) rfl il_1 (fun z h' P' => ⟨fun u => absurd u (by decide), fun _ => ⟨Nat.zero_le _, Nat.zero_le _, x1 z h' P'⟩⟩) (fun z => ⟨fun _ => ?_, fun u => absurd rfl u⟩))
  have z2 := z
  unfold inM at z2
  refine P1.mnow (i := v.toNat) (congrArg ii (by omega)) (by omega) ?_
  have rm1 : RM S (su S 80 0 0) := RM.of (fun k hk => su_row _ _ (by omega)) (su_nei _ _ _ (by decide)) (su_nei _ _ _ (by decide)) (RM.base hR hlm)
  have rt1 : RT S (su S 80 0 0) 0 0 := RT.base.of (fun s hs => su_row _ _ (by omega))
  have f801 : su S 80 0 0 80 1 = S 80 1 := su_nei _ _ _ (by decide)
  refine P1.mset2 hM1 rm1 rt1 (fun t ht => (hR.2.2.2 t (by rw [hR.1]; omega)).1) e2 (s := v.toNat) (by rw [e2]; omega) (by rw [su_row _ _ (by omega)]; omega) (c := -1) ⟨by omega, by omega⟩ (by rw [f801]; exact hday) hcap hroom (congrArg ii (by omega)) il_m1 (post := fun h9 u1 u2 => (u1 ≤ bc ∧ u2 ≤ bs ∧ post (ii (su S 80 0 0 113 v.toNat)) h9)) (fun A' B' S' h' uc' us' P' a f g1 g2 g3 g4 g5 g6 => ?_)
  have r := hroom _ _ _ g3
  rw [f113] at g1 ⊢
  exact ⟨r.1, r.2, q z A' B' S' h' uc' us' P' a f g1 g2 g3⟩
end MR2
