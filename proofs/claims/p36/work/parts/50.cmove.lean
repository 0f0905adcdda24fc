/-! the class: moving -/
/-- the register goes on by changes of today -/
def RC (S S' : Nat → Nat → Int) (c : Nat) : Prop := RI S' c ∧ S' 3 1 = S 3 1 ∧ ∀ j, j < 8 → ∀ d, LC S' j d = if S 3 1 ≤ d then S' 32 j else LC S j d
/-- the register's own keys -/
def kg (k : Nat) : Prop := k = 3 ∨ k = 32 ∨ k = 33 ∨ k = 34 ∨ k = 35
theorem RC.rf {S : Nat → Nat → Int} {c : Nat} (R : RI S c) : RC S S c := ⟨R, rfl, fun j hj d => by
  by_cases w : S 3 1 ≤ d
  · rw [if_pos w]; exact R.2.2.2.2.1 j hj d w
  · rw [if_neg w]⟩
theorem LC_of {S S' : Nat → Nat → Int} (h : ∀ k, kg k → S' k = S k) (j : Nat) (d : Int) : LC S' j d = LC S j d := by
  unfold LC
  rw [h 33 (Or.inr (Or.inr (Or.inl rfl))), h 34 (Or.inr (Or.inr (Or.inr (Or.inl rfl)))), h 35 (Or.inr (Or.inr (Or.inr (Or.inr rfl))))]
theorem RI.of {S S' : Nat → Nat → Int} {c : Nat} (h : ∀ k, kg k → S' k = S k) (R : RI S c) : RI S' c := by
  have h3 := h 3 (Or.inl rfl)
  have h32 := h 32 (Or.inr (Or.inl rfl))
  have h33 := h 33 (Or.inr (Or.inr (Or.inl rfl)))
  have h34 := h 34 (Or.inr (Or.inr (Or.inr (Or.inl rfl))))
  have h35 := h 35 (Or.inr (Or.inr (Or.inr (Or.inr rfl))))
  obtain ⟨r1, r2, r3, r4, r5, r6, r7⟩ := R
  unfold RI
  rw [h3, h32, h33, h34, h35]
  exact ⟨r1, r2, r3, r4, fun s hs d hd => by rw [LC_of h]; exact r5 s hs d hd, r6, r7⟩
theorem RC.tr {S S1 S2 : Nat → Nat → Int} {c : Nat} (a : RC S S1 c) (b : RC S1 S2 c) : RC S S2 c := ⟨b.1, by rw [b.2.1, a.2.1], fun j hj d => by
  rw [b.2.2 j hj d, a.2.1]
  by_cases w : S 3 1 ≤ d
  · rw [if_pos w, if_pos w]
  · rw [if_neg w, if_neg w, a.2.2 j hj d, if_neg w]⟩
theorem RC.of {S S1 S2 : Nat → Nat → Int} {c : Nat} (h : ∀ k, kg k → S2 k = S1 k) (a : RC S S1 c) : RC S S2 c := ⟨a.1.of h, by rw [h 3 (Or.inl rfl)]; exact a.2.1, fun j hj d => by rw [LC_of h, h 32 (Or.inr (Or.inl rfl))]; exact a.2.2 j hj d⟩
theorem kg_su {S : Nat → Nat → Int} {k i : Nat} {v : Int} (h : ¬ kg k) : ∀ j, kg j → su S k i v j = S j := fun _ hj => su_row i v (fun z => h (z ▸ hj))
/-! the abstract move -/
noncomputable def fre (E : Nat → Nat → Int) (pl now : Nat → Int) (k : Nat) : Bool := @decide (∀ i, i < nt E → i ≠ k → E 7 i = 1 → now i ≠ -1 → br2 E k (pl k) i (now i) = false) (Classical.propDecidable _)
theorem fre_t {E : Nat → Nat → Int} {pl now : Nat → Int} {k : Nat} : fre E pl now k = true ↔ ∀ i, i < nt E → i ≠ k → E 7 i = 1 → now i ≠ -1 → br2 E k (pl k) i (now i) = false := by unfold fre; exact @decide_eq_true_iff _ (Classical.propDecidable _)
def sil (E : Nat → Nat → Int) (k : Nat) (c : Int) (now : Nat → Int) (j : Nat) : Bool := decide (j < nt E ∧ E 7 j ≠ 1 ∧ now j ≠ -1) && br2 E k c j (now j)
def mvn (E : Nat → Nat → Int) (k : Nat) (c : Int) (now : Nat → Int) : Nat → Int := fun j => if j = k then c else if sil E k c now j = true then -1 else now j
abbrev Mst : Type := (Nat → Bool) × (Nat → Int) × (Nat → Int) × Int
noncomputable def mstep (E : Nat → Nat → Int) (pl : Nat → Int) (crews its : Int) (k : Nat) (q : Mst) : Mst := if q.1 k = true ∧ q.2.2.2 < crews ∧ fre E pl q.2.1 k = true then (bu q.1 k false, mvn E k (pl k) q.2.1, up q.2.2.1 k its, q.2.2.2 + 1) else q
noncomputable def mph (E : Nat → Nat → Int) (pl : Nat → Int) (crews its : Int) (q : Mst) : Nat → Mst
  | 0 => q
  | k + 1 => mstep E pl crews its k (mph E pl crews its q k)
def lws (f : Nat → Bool) : Nat → Int
  | 0 => -1
  | n + 1 => if lws f n ≠ -1 then lws f n else if f n = true then (n : Int) else -1
def onw (q : Mst) : Nat → Bool := fun k => q.1 k && decide (q.2.1 k ≠ -1)
/-- who waits, the channels, the phases; how many went dark, how many phases there were -/
noncomputable def mrun (E : Nat → Nat → Int) (pl : Nat → Int) (crews : Int) (n : Nat) : Nat → (Nat → Bool) → (Nat → Int) → (Nat → Int) → Int → Int → (Nat → Int) × (Nat → Int) × Int × Int
  | 0, _, now, ph, dk, ps => (now, ph, dk, ps)
  | f + 1, wt, now, ph, dk, ps =>
    if anyb wt n = true then
      (if 0 < (mph E pl crews (ps + 1) (wt, now, ph, 0) n).2.2.2 then mrun E pl crews n f (mph E pl crews (ps + 1) (wt, now, ph, 0) n).1 (mph E pl crews (ps + 1) (wt, now, ph, 0) n).2.1 (mph E pl crews (ps + 1) (wt, now, ph, 0) n).2.2.1 dk (ps + 1)
      else if lws (onw (wt, now, ph, 0)) n = -1 then (now, ph, dk, ps) else mrun E pl crews n f wt (up now (lws (onw (wt, now, ph, 0)) n).toNat (-1)) ph (dk + 1) (ps + 1))
    else (now, ph, dk, ps)
section MM
variable {E : Nat → Nat → Int} {pl : Nat → Int} {crews its : Int}
theorem lws_in (f : Nat → Bool) (n : Nat) : (lws f n = -1 ∧ ∀ i, i < n → f i = false) ∨ ∃ b : Nat, b < n ∧ lws f n = b ∧ f b = true ∧ ∀ i, i < b → f i = false := by
  induction n with
  | zero => exact Or.inl ⟨rfl, fun i hi => by omega⟩
  | succ n ih =>
    unfold lws
    rcases ih with ⟨h1, h2⟩ | ⟨b, h0, h1, h2, h3⟩
    · rw [if_neg (fun z => z h1)]
      by_cases c : f n = true
      · rw [if_pos c]
        exact Or.inr ⟨n, by omega, rfl, c, h2⟩
      · rw [if_neg c]
        refine Or.inl ⟨rfl, fun i hi => ?_⟩
        by_cases y : i = n
        · subst y; exact Bool.eq_false_iff.mpr c
        · exact h2 i (by omega)
    · rw [if_pos (by omega)]
      exact Or.inr ⟨b, by omega, h1, h2, h3⟩
theorem mph_0 (q : Mst) (n : Nat) (h : (mph E pl crews its q n).2.2.2 ≤ q.2.2.2) : mph E pl crews its q n = q ∧ ∀ m, m ≤ n → mph E pl crews its q m = q := by
  have up1 : ∀ m, (mph E pl crews its q m).2.2.2 ≤ (mph E pl crews its q (m + 1)).2.2.2 := by
    intro m
    show _ ≤ (mstep E pl crews its m (mph E pl crews its q m)).2.2.2
    unfold mstep
    split
    · show _ ≤ (mph E pl crews its q m).2.2.2 + 1; omega
    · omega
  have ge : ∀ m, q.2.2.2 ≤ (mph E pl crews its q m).2.2.2 := by
    intro m
    induction m with
    | zero => exact Int.le_refl _
    | succ m ih => have := up1 m; omega
  have all : ∀ m, m ≤ n → mph E pl crews its q m = q := by
    induction n with
    | zero => intro m hm; have : m = 0 := by omega
              subst this; rfl
    | succ n ih =>
      have h1 := up1 n
      have ih := ih (by omega)
      intro m hm
      by_cases y : m = n + 1
      · subst y
        have e := ih n (Nat.le_refl _)
        have hh := h
        show mstep E pl crews its n (mph E pl crews its q n) = q
        have hh : (mstep E pl crews its n (mph E pl crews its q n)).2.2.2 ≤ q.2.2.2 := h
        rw [e] at hh ⊢
        unfold mstep at hh ⊢
        split
        · rename_i c
          rw [if_pos c] at hh
          have : q.2.2.2 + 1 ≤ q.2.2.2 := hh
          omega
        · rfl
      · exact ih m (by omega)
  exact ⟨all n (Nat.le_refl _), all⟩
end MM
section CM
variable {G : Gx} {A : Nat → Nat} {B : Nat → Nat → Nat} {S : Nat → Nat → Int} {h : hw}
theorem Pic.chg (P : Pic G A B S h) {c : Nat} (hc : c ≤ 511) (R : RI S c) {s : Nat} (hs : s < 8) {x v : Int32} (hx : x = ii (s : Int)) {ch : Int} (hv : v = ii ch) (hch : -1 ≤ ch ∧ ch ≤ 7) {post : hw → Prop} (q : ∀ S' h', Pic G A B S' h' → RC S S' c → (∀ k, ¬ kr k → S' k = S k) → S' 32 = up (S 32) s ch → post h') : wp_X6_change G (A 3) x v h post := by
  refine P.change hc R hs hx hv hch (fun S' h' P' r f e l => q S' h' P' ⟨r, by rw [f 3 (fun z => by unfold kr at z; omega)], fun j hj d => ?_⟩ f e)
  rw [l j hj d, e]
  by_cases w : S 3 1 ≤ d
  · rw [if_pos w]
    by_cases y : j = s
    · subst y; rw [if_pos ⟨rfl, w⟩, up_at]
    · rw [if_neg (fun z => y z.1), up_ne y]; exact R.2.2.2.2.1 j hj d w
  · rw [if_neg w, if_neg (fun z => w z.2)]
theorem kr_K {S S' : Nat → Nat → Int} (h : ∀ k, ¬ kr k → S' k = S k) (hK : KI S) : KI S' ∧ EC S' = EC S ∧ S' 51 2 = S 51 2 := by
  have e2 : ∀ k, kl k → S' k = S k := fun k hk => h k (fun z => by rcases z with z | z | z | z <;> subst z <;> rcases hk with z | z | z <;> omega)
  exact ⟨hK.of e2 (h 31 (fun z => by unfold kr at z; omega)), EC_of e2, by rw [h 51 (fun z => by unfold kr at z; omega)]⟩
theorem Pic.free (P : Pic G A B S h) (hK : KI S) (hsp : spOK (EC S) (S 40)) (hc : chs (S 32)) (hp : chs (S 39)) {k : Nat} (hk : k < nt (EC S)) {x : Int32} (hx : x = ii (k : Int)) {post : Int32 → Prop} (q : post (ii (bI (fre (EC S) (S 39) (S 32) k)))) : wp_X4_isFree G x (A 1) (A 5) (A 3) h post := by
  obtain ⟨h8, hn⟩ := nt8 hK
  subst hx
  refine P.oat (k := 5) (r := 19) (rk := 39) (i := k) rfl rfl ⟨by omega, by omega⟩ rfl (show _ < 8 by omega) ?_
  intro J hJ
  have main : ∀ i : Nat, i ≤ nt (EC S) → (∀ j, j < i → j ≠ k → EC S 7 j = 1 → S 32 j ≠ -1 → br2 (EC S) k (S 39 k) j (S 32 j) = false) → J (ii (i : Int)) := by
    intro i hi
    refine lp_up (J := fun i : Nat => (∀ j, j < i → j ≠ k → EC S 7 j = 1 → S 32 j ≠ -1 → br2 (EC S) k (S 39 k) j (S 32 j) = false) → J (ii (i : Int))) (n := nt (EC S)) ?_ ?_ hi
    · intro g
      apply hJ
      refine P.nT ?_
      rw [hn, ii_le ⟨by omega, by omega⟩ ⟨by omega, by omega⟩]
      refine ⟨fun _ => ?_, fun z => absurd (Int.le_refl _) z⟩
      rw [fre_t.mpr g] at q; exact q
    · intro i hi ih g
      apply hJ
      refine P.nT ?_
      rw [hn, ii_le ⟨by omega, by omega⟩ ⟨by omega, by omega⟩]
      refine ⟨fun z => absurd z (by omega), fun _ => ?_⟩
      refine P.oat (k := 3) (r := 12) (rk := 32) (i := i) rfl rfl ⟨by omega, by omega⟩ rfl (show _ < 8 by omega) ?_
      intro J2 hJ2
      have ci := hc i
      have go : (i ≠ k → EC S 7 i = 1 → S 32 i ≠ -1 → br2 (EC S) k (S 39 k) i (S 32 i) = false) → J2 := by
        intro w
        apply hJ2
        rw [ii_inc']
        refine ih (fun j hj => ?_)
        by_cases y : j = i
        · subst y; exact w
        · exact g j (by omega)
      rw [ii_eq ⟨by omega, by omega⟩ ⟨by omega, by omega⟩]
      refine ⟨fun z => go (fun w => by omega), fun z => ?_⟩
      have ki := ctn_st (G := G) (A := A) (B := B) (j := i) (S := S) (by omega) (by omega)
      obtain ⟨-, -, -, e7, -, -⟩ := hK.ends (j := i) (by omega)
      have p01 := hK.1.2.1.2.2.2.2.2.2.2.1 i
      refine P.gT hK.1.1 rfl (by omega) ?_
      refine P.rI ki rfl ?_
      rw [e7, il_0, ii_eq ⟨by omega, by omega⟩ ⟨by decide, by decide⟩, il_m1, ii_eq ⟨by omega, by omega⟩ ⟨by decide, by decide⟩]
      refine ⟨fun z2 => go (fun _ w => by omega), fun z2 => ⟨fun z3 => go (fun _ _ w => absurd z3 w), fun z3 => ?_⟩⟩
      refine ⟨P.o (k := 5) rfl, P.near2 h8 hsp hk hi (by omega) (hp k) ci rfl rfl ?_⟩
      rw [← il_0, bI_1, bI_0]
      refine ⟨fun w => go (fun _ _ _ => w), fun w => ?_⟩
      have e : fre (EC S) (S 39) (S 32) k = false := Bool.eq_false_iff.mpr (fun y => by
        rw [fre_t.mp y i hi (by omega) (by omega) z3] at w; cases w)
      rw [e] at q; exact q
  exact main 0 (by omega) (fun j hj => by omega)
theorem Pic.silNear (P : Pic G A B S h) {c : Nat} (hc5 : c ≤ 511) (R : RI S c) (hK : KI S) (hsp : spOK (EC S) (S 40)) (hp : chs (S 39)) {k : Nat} (hk : k < nt (EC S)) (hkp : EC S 7 k = 1) {x : Int32} (hx : x = ii (k : Int)) {post : hw → Prop} (q : ∀ S' h', Pic G A B S' h' → RC S S' c → (∀ k, ¬ kr k → S' k = S k) → S' 32 = (fun j => if sil (EC S) k (S 39 k) (S 32) j = true then -1 else S 32 j) → post h') : wp_X4_silenceSecondariesNear G x (A 1) (A 5) (A 3) h post := by
  obtain ⟨h8, hn⟩ := nt8 hK
  subst hx
  refine P.oat (k := 5) (r := 19) (rk := 39) (i := k) rfl rfl ⟨by omega, by omega⟩ rfl (show _ < 8 by omega) ?_
  intro J hJ
  have main : ∀ i : Nat, i ≤ nt (EC S) → ∀ (S' : Nat → Nat → Int) (h' : hw), Pic G A B S' h' → RC S S' c → (∀ k, ¬ kr k → S' k = S k) → S' 32 = (fun j => if sil (EC S) k (S 39 k) (S 32) j = true ∧ j < i then -1 else S 32 j) → J (ii (i : Int)) h' := by
    intro i hi
    refine lp_up (J := fun i : Nat => ∀ (S' : Nat → Nat → Int) (h' : hw), Pic G A B S' h' → RC S S' c → (∀ k, ¬ kr k → S' k = S k) → S' 32 = (fun j => if sil (EC S) k (S 39 k) (S 32) j = true ∧ j < i then -1 else S 32 j) → J (ii (i : Int)) h') (n := nt (EC S)) ?_ ?_ hi
    · intro S' h' P' m1 m2 m3
      obtain ⟨hK', eE, e51⟩ := kr_K m2 hK
      apply hJ
      refine P'.nT ?_
      rw [e51, hn, ii_le ⟨by omega, by omega⟩ ⟨by omega, by omega⟩]
      refine ⟨fun _ => q S' h' P' m1 m2 ?_, fun z => absurd (Int.le_refl _) z⟩
      rw [m3]
      funext j
      by_cases w : sil (EC S) k (S 39 k) (S 32) j = true
      · have : j < nt (EC S) := by unfold sil at w; rw [Bool.and_eq_true, decide_eq_true_eq] at w; exact w.1.1
        rw [if_pos ⟨w, this⟩, if_pos w]
      · rw [if_neg (fun z => w z.1), if_neg w]
    · intro i hi ih S' h' P' m1 m2 m3
      obtain ⟨hK', eE, e51⟩ := kr_K m2 hK
      have f40 : S' 40 = S 40 := m2 40 (fun z => by unfold kr at z; omega)
      have f39 : S' 39 = S 39 := m2 39 (fun z => by unfold kr at z; omega)
      apply hJ
      refine P'.nT ?_
      rw [e51, hn, ii_le ⟨by omega, by omega⟩ ⟨by omega, by omega⟩]
      refine ⟨fun z => absurd z (by omega), fun _ => ?_⟩
      refine P'.oat (k := 3) (r := 12) (rk := 32) (i := i) rfl rfl ⟨by omega, by omega⟩ rfl (show _ < 8 by omega) ?_
      have ei : S' 32 i = S 32 i := by rw [m3]; exact if_neg (fun z => absurd z.2 (by omega))
      have ki := ctn_st (G := G) (A := A) (B := B) (j := i) (S := S') (by omega) (by omega)
      obtain ⟨-, -, -, e7, -, -⟩ := hK'.ends (j := i) (by omega)
      have p01 := hK.1.2.1.2.2.2.2.2.2.2.1 i
      have ci := R.2.2.2.1 i
      refine P'.gT hK'.1.1 rfl (by omega) ?_
      refine P'.rI ki rfl ?_
      intro J2 hJ2
      have skip : sil (EC S) k (S 39 k) (S 32) i = false → J2 h' := by
        intro w
        apply hJ2
        rw [ii_inc']
        refine ih S' h' P' m1 m2 ?_
        rw [m3]
        funext j
        by_cases y : j = i
        · subst y; rw [if_neg (fun z => by rw [w] at z; exact absurd z.1 (by decide)), if_neg (fun z => by rw [w] at z; exact absurd z.1 (by decide))]
        · by_cases z : sil (EC S) k (S 39 k) (S 32) j = true ∧ j < i
          · rw [if_pos z, if_pos ⟨z.1, by omega⟩]
          · rw [if_neg z, if_neg (fun z2 => z ⟨z2.1, by omega⟩)]
      rw [e7, eE, ei, il_0, ii_eq ⟨by omega, by omega⟩ ⟨by decide, by decide⟩, il_m1, ii_eq ⟨by omega, by omega⟩ ⟨by decide, by decide⟩]
      refine ⟨fun z => skip ?_, fun z => ⟨fun z2 => skip ?_, fun z2 => ?_⟩⟩
      · unfold sil; rw [decide_eq_false (fun w => by omega)]; rfl
      · unfold sil; rw [decide_eq_false (fun w => w.2.2 z2)]; rfl
      · have hne : i ≠ k := fun w => by subst w; omega
        refine ⟨P'.o (k := 5) rfl, P'.near2 (E := EC S) h8 (by rw [f40]; exact hsp) hk hi (by omega) (hp k) ci rfl rfl ?_⟩
        rw [← il_0, bI_1, bI_0]
        refine ⟨fun w => skip ?_, fun w => ?_⟩
        · unfold sil; rw [w, Bool.and_false]
        · refine ⟨P'.o (k := 3) rfl, P'.chg hc5 m1.1 (by omega) rfl rfl ⟨by omega, by omega⟩ (fun S2 h2 P2 r2 g2 g3 => ?_)⟩
          apply hJ2
          rw [ii_inc']
          have es : sil (EC S) k (S 39 k) (S 32) i = true := by unfold sil; rw [w, Bool.and_true]; exact decide_eq_true ⟨hi, by omega, z2⟩
          refine ih S2 h2 P2 (m1.tr r2) (fun j hj => by rw [g2 j hj, m2 j hj]) ?_
          rw [g3, m3]
          funext j
          unfold up
          by_cases y : j = i
          · subst y; rw [if_pos rfl, if_pos ⟨es, by omega⟩]
          · rw [if_neg y]
            dsimp only
            by_cases z : sil (EC S) k (S 39 k) (S 32) j = true ∧ j < i
            · rw [if_pos z, if_pos ⟨z.1, by omega⟩]
            · rw [if_neg z, if_neg (fun z2 => z ⟨z2.1, by omega⟩)]
  exact main 0 (by omega) S h P (RC.rf R) (fun _ _ => rfl) (by funext j; rw [if_neg (fun z => absurd z.2 (by omega))])
/-- the keys that a move writes -/
def km (k : Nat) : Prop := kr k ∨ k = 8 ∨ k = 48
theorem km_K {S S' : Nat → Nat → Int} (h : ∀ k, ¬ km k → S' k = S k) (hK : KI S) : KI S' ∧ EC S' = EC S ∧ S' 51 2 = S 51 2 := by
  have e2 : ∀ k, kl k → S' k = S k := fun k hk => h k (fun z => by rcases z with (z | z | z | z) | z | z <;> subst z <;> rcases hk with z | z | z <;> omega)
  exact ⟨hK.of e2 (h 31 (fun z => by unfold km kr at z; omega)), EC_of e2, by rw [h 51 (fun z => by unfold km kr at z; omega)]⟩
/-- a move's state, in the class's cells -/
def MR (S : Nat → Nat → Int) (q : Mst) : Prop := (∀ j, bt (ii (S 8 3)) j = q.1 j) ∧ S 32 = q.2.1 ∧ ∀ j, j < 8 → S 48 j = q.2.2.1 j
theorem Pic.holdPhase (P : Pic G A B S h) {c : Nat} (hc5 : c ≤ 511) (R : RI S c) (hK : KI S) (hsp : spOK (EC S) (S 40)) (hp : chs (S 39)) {crews its : Int} (hcr : 1 ≤ crews ∧ crews ≤ 4) (hits : 0 ≤ its ∧ its ≤ 100) {q0 : Mst} (hq : MR S q0) (hq0 : q0.2.2.2 = 0) (hwt : ∀ j, q0.1 j = true → j < nt (EC S) ∧ EC S 7 j = 1 ∧ 0 ≤ S 39 j) {post : Int32 → hw → Prop} (q : ∀ Q : Mst, Q = mph (EC S) (S 39) crews its q0 (nt (EC S)) → ∀ S' h', Pic G A B S' h' → RC S S' c → (∀ k, ¬ km k → S' k = S k) → (∀ i, i ≠ 3 → S' 8 i = S 8 i) → MR S' Q → (∀ j, Q.1 j = true → q0.1 j = true) → post (ii (bI (decide (0 < Q.2.2.2)))) h') : wp_X4_holdPhase G (A 8) (A 1) (A 5) (A 3) (ii crews) (ii its) h post := by
  obtain ⟨h8, hn⟩ := nt8 hK
  intro J hJ
  -- when the crews are used up nothing moves any more
  have full : ∀ (i d : Nat), i + d = nt (EC S) → crews ≤ (mph (EC S) (S 39) crews its q0 i).2.2.2 → mph (EC S) (S 39) crews its q0 (nt (EC S)) = mph (EC S) (S 39) crews its q0 i := by
    intro i d hd hcw
    have g : ∀ d, mph (EC S) (S 39) crews its q0 (i + d) = mph (EC S) (S 39) crews its q0 i := by
      intro d
      induction d with
      | zero => rfl
      | succ d ih =>
        show mstep (EC S) (S 39) crews its (i + d) (mph (EC S) (S 39) crews its q0 (i + d)) = _
        rw [ih]
        unfold mstep
        rw [if_neg (fun z => by have := z.2.1; omega)]
    rw [← hd, g d]
  have main : ∀ i : Nat, i ≤ nt (EC S) → ∀ (S' : Nat → Nat → Int) (h' : hw), Pic G A B S' h' → RC S S' c → (∀ k, ¬ km k → S' k = S k) → (∀ i, i ≠ 3 → S' 8 i = S 8 i) → MR S' (mph (EC S) (S 39) crews its q0 i) → (∀ j, (mph (EC S) (S 39) crews its q0 i).1 j = true → q0.1 j = true) → (0 ≤ (mph (EC S) (S 39) crews its q0 i).2.2.2 ∧ (mph (EC S) (S 39) crews its q0 i).2.2.2 ≤ i) → J (ii (mph (EC S) (S 39) crews its q0 i).2.2.2) (ii (i : Int)) h' := by
    intro i hi
    refine lp_up (J := fun i : Nat => ∀ (S' : Nat → Nat → Int) (h' : hw), Pic G A B S' h' → RC S S' c → (∀ k, ¬ km k → S' k = S k) → (∀ i, i ≠ 3 → S' 8 i = S 8 i) → MR S' (mph (EC S) (S 39) crews its q0 i) → (∀ j, (mph (EC S) (S 39) crews its q0 i).1 j = true → q0.1 j = true) → (0 ≤ (mph (EC S) (S 39) crews its q0 i).2.2.2 ∧ (mph (EC S) (S 39) crews its q0 i).2.2.2 ≤ i) → J (ii (mph (EC S) (S 39) crews its q0 i).2.2.2) (ii (i : Int)) h') (n := nt (EC S)) ?_ ?_ hi
    · intro S' h' P' m1 m2 m3 m4 m5 m6
      obtain ⟨hK', eE, e51⟩ := km_K m2 hK
      have q := q _ rfl S' h' P' m1 m2 m3 m4 m5
      apply hJ
      refine P'.nT ?_
      intro J106 hJ106
      rw [e51, hn, ii_le ⟨by omega, by omega⟩ ⟨by omega, by omega⟩]
      refine ⟨fun _ => ?_, fun z => absurd (Int.le_refl _) z⟩
      apply hJ106
      rw [il_0, ii_le ⟨by omega, by omega⟩ ⟨by omega, by omega⟩]
      refine ⟨fun z => ?_, fun z => ?_⟩
      · rw [decide_eq_false (by omega)] at q; exact q
      · rw [decide_eq_true (by omega)] at q; exact q
    · intro i hi ih S' h' P' m1 m2 m3 m4 m5 m6
      obtain ⟨hK', eE, e51⟩ := km_K m2 hK
      obtain ⟨Q, hQ⟩ : ∃ Q, Q = mph (EC S) (S 39) crews its q0 i := ⟨_, rfl⟩
      have es : mph (EC S) (S 39) crews its q0 (i + 1) = mstep (EC S) (S 39) crews its i Q := by rw [hQ]; rfl
      have f40 : S' 40 = S 40 := m2 40 (fun z => by unfold km kr at z; omega)
      have f39 : S' 39 = S 39 := m2 39 (fun z => by unfold km kr at z; omega)
      apply hJ
      refine P'.nT ?_
      intro J106 hJ106
      have stop : crews ≤ Q.2.2.2 → J106 := by
        intro w
        apply hJ106
        have e := full i (nt (EC S) - i) (by omega) (by rw [← hQ]; exact w)
        have q := q _ e.symm S' h' P' m1 m2 m3 m4 m5
        rw [← hQ] at q m6 ⊢
        rw [il_0, ii_le ⟨by omega, by omega⟩ ⟨by omega, by omega⟩]
        refine ⟨fun z => ?_, fun z => ?_⟩
        · omega
        · rw [decide_eq_true (by omega)] at q; exact q
      rw [es] at ih
      rw [← hQ] at m4 m5 m6 ⊢
      unfold mstep at ih
      rw [e51, hn, ii_le ⟨by omega, by omega⟩ ⟨by omega, by omega⟩, ii_le ⟨by omega, by omega⟩ ⟨by omega, by omega⟩]
      refine ⟨fun z => absurd z (by omega), fun _ => ⟨fun z => stop z, fun z => ?_⟩⟩
      refine P'.rI (k := 8) rfl rfl ?_
      refine isIn_of (i := i) (by omega) rfl ?_
      intro J100 hJ100
      have skip : ¬ (Q.1 i = true ∧ Q.2.2.2 < crews ∧ fre (EC S) (S 39) Q.2.1 i = true) → J100 (ii Q.2.2.2) h' := by
        intro w
        rw [if_neg w] at ih
        apply hJ100
        rw [ii_inc']
        exact ih S' h' P' m1 m2 m3 m4 m5 ⟨m6.1, by omega⟩
      rw [bI_1, bI_0, m4.1 i]
      refine ⟨fun w => skip (fun y => by rw [w] at y; exact absurd y.1 (by decide)), fun w => ?_⟩
      obtain ⟨-, wp, wpl⟩ := hwt i (m5 i w)
      refine P'.free hK' (by rw [eE, f40]; exact hsp) m1.1.2.2.2.1 (by rw [f39]; exact hp) (by rw [eE]; exact hi) rfl ?_
      rw [eE, f39, m4.2.1, bI_1, bI_0]
      refine ⟨fun w2 => skip (fun y => by rw [w2] at y; exact absurd y.2.2 (by decide)), fun w2 => ?_⟩
      rw [if_pos ⟨w, by omega, w2⟩] at ih
      have pli := hp i
      refine P'.oat (k := 5) (r := 19) (rk := 39) (i := i) rfl rfl ⟨by omega, by omega⟩ rfl (show _ < 8 by omega) ?_
      rw [f39]
      refine ⟨P'.o (k := 3) rfl, P'.chg hc5 m1.1 (by omega) rfl rfl pli (fun S1 h1 P1 r1 g1 g2 => ?_)⟩
      obtain ⟨hK1, eE1, e511⟩ := kr_K g1 hK'
      have f40b : S1 40 = S 40 := by rw [g1 40 (fun z => by unfold kr at z; omega), f40]
      have f39b : S1 39 = S 39 := by rw [g1 39 (fun z => by unfold kr at z; omega), f39]
      refine P1.silNear hc5 r1.1 hK1 (by rw [eE1, eE, f40b]; exact hsp) (by rw [f39b]; exact hp) (by rw [eE1, eE]; exact hi) (by rw [eE1, eE]; exact wp) rfl (fun S2 h2 P2 r2 g3 g4 => ?_)
      rw [eE1, eE, f39b, g2] at g4
      have f8 : S2 8 = S' 8 := by rw [g3 8 (fun z => by unfold kr at z; omega), g1 8 (fun z => by unfold kr at z; omega)]
      have f48 : S2 48 = S' 48 := by rw [g3 48 (fun z => by unfold kr at z; omega), g1 48 (fun z => by unfold kr at z; omega)]
      have e32 : S2 32 = mvn (EC S) i (S 39 i) Q.2.1 := by
        rw [g4, m4.2.1]
        funext j
        unfold mvn
        by_cases y : j = i
        · subst y
          rw [if_pos rfl, up_at]
          have : sil (EC S) j (S 39 j) (up Q.2.1 j (S 39 j)) j = false := by unfold sil; rw [decide_eq_false (fun z => z.2.1 wp)]; rfl
          rw [this]; rfl
        · rw [if_neg y]
          have : sil (EC S) i (S 39 i) (up Q.2.1 i (S 39 i)) j = sil (EC S) i (S 39 i) Q.2.1 j := by unfold sil; rw [up_ne y]
          rw [this, up_ne y]
      refine P2.oput (k := 8) (r := 28) (rk := 48) (i := i) (z := its) rfl rfl ⟨by omega, by omega⟩ rfl rfl (show _ < 8 by omega) (fun h3 P3 => ?_)
      refine P3.rI (k := 8) rfl rfl ?_
      refine P3.wF (k := 8) (z := ((ii (su S2 48 i its 8 3)) &&& (((1 : Int32) <<< (ii (i : Int) &&& 31)) ^^^ (-1))).toInt) ⟨by decide, by decide, by decide, by decide⟩ rfl (show 3 < 4 by decide) (congrArg (fun v => some (Sum.inr (4, [Value.ref (A 28), Value.int (ii (su S2 48 i its 8 1)), Value.int (ii (su S2 48 i its 8 2)), Value.int v]))) (ii_of _)) (fun h4 P4 => ?_)
      apply hJ100
      rw [ii_inc', il_1, ii_add]
      refine ih _ h4 P4 ?_ (fun k hk => ?_) (fun j hj => ?_) ⟨fun j => ?_, ?_, fun j hj => ?_⟩ (fun j hj => ?_) ?_
      · refine RC.of (S1 := S2) (fun k hk => ?_) ((m1.tr r1).tr r2)
        rw [su_row _ _ (fun z => by subst z; unfold kg at hk; omega), su_row _ _ (fun z => by subst z; unfold kg at hk; omega)]
      · rw [su_row _ _ (fun z => hk (Or.inr (Or.inl z))), su_row _ _ (fun z => hk (Or.inr (Or.inr z))), g3 k (fun z => hk (Or.inl z)), g1 k (fun z => hk (Or.inl z)), m2 k hk]
      · rw [su_nei _ _ _ hj, su_ne _ _ _ (by omega), f8]; exact m3 j hj
      · rw [su_at, ii_of, bt_andn (by omega), su_ne _ _ _ (by omega), f8, m4.1 j]; rfl
      · rw [su_row _ _ (by omega), su_row _ _ (by omega)]; exact e32
      · rw [su_ne _ _ _ (by omega), su_up, f48]
        show up (S' 48) i its j = up Q.2.2.1 i its j
        unfold up
        rw [m4.2.2 j hj]
      · have hj : bu Q.1 i false j = true := hj
        unfold bu at hj
        by_cases y : j = i
        · rw [if_pos y] at hj; cases hj
        · rw [if_neg y] at hj; exact m5 j hj
      · show 0 ≤ Q.2.2.2 + 1 ∧ Q.2.2.2 + 1 ≤ ((i + 1 : Nat) : Int)
        omega
  have g0 := main 0 (by omega) S h P (RC.rf R) (fun _ _ => rfl) (fun _ _ => rfl) hq (fun _ z => z) ⟨by show 0 ≤ q0.2.2.2; omega, by show q0.2.2.2 ≤ ((0 : Nat) : Int); omega⟩
  rw [show (mph (EC S) (S 39) crews its q0 0).2.2.2 = 0 from hq0] at g0
  exact g0
theorem Pic.lowest (P : Pic G A B S h) (hc : chs (S 32)) {q0 : Mst} (hq : MR S q0) {n : Nat} (hn : n ≤ 8) (hwt : ∀ j, q0.1 j = true → j < n) {post : Int32 → Prop} (q : post (ii (lws (onw q0) n))) : wp_X4_lowestWaitingOn G (A 8) (A 3) h post := by
  have hout : ∀ i, onw q0 i = true → i < n := fun i hi => by unfold onw at hi; rw [Bool.and_eq_true] at hi; exact hwt i hi.1
  intro J hJ
  have main : ∀ i : Nat, i ≤ 8 → (∀ j, j < i → onw q0 j = false) → J (ii (i : Int)) := by
    intro i hi
    refine lp_up (J := fun i : Nat => (∀ j, j < i → onw q0 j = false) → J (ii (i : Int))) (n := 8) ?_ ?_ hi
    · intro g
      apply hJ
      rw [il_8, ii_le ⟨by omega, by omega⟩ ⟨by omega, by omega⟩]
      refine ⟨fun _ => ?_, fun z => absurd (Int.le_refl _) z⟩
      rcases lws_in (onw q0) n with ⟨h1, -⟩ | ⟨b, h0, h1, h2, -⟩
      · rw [h1] at q; rw [il_m1]; exact q
      · rw [g b (by omega)] at h2; cases h2
    · intro i hi ih g
      apply hJ
      rw [il_8, ii_le ⟨by omega, by omega⟩ ⟨by omega, by omega⟩]
      refine ⟨fun z => absurd z (by omega), fun _ => ?_⟩
      refine P.rI (k := 8) rfl rfl ?_
      refine isIn_of (i := i) (by omega) rfl ?_
      intro J33 hJ33
      have go : onw q0 i = false → J33 := by
        intro w
        apply hJ33
        rw [ii_inc']
        refine ih (fun j hj => ?_)
        by_cases y : j = i
        · subst y; exact w
        · exact g j (by omega)
      rw [bI_1, bI_0, hq.1 i]
      refine ⟨fun w => go (by unfold onw; rw [w]; rfl), fun w => ?_⟩
      refine P.oat (k := 3) (r := 12) (rk := 32) (i := i) rfl rfl ⟨by omega, by omega⟩ rfl (show _ < 8 by omega) ?_
      have ci := hc i
      rw [il_m1, ii_eq ⟨by omega, by omega⟩ ⟨by omega, by omega⟩]
      refine ⟨fun w2 => go ?_, fun w2 => ?_⟩
      · unfold onw; rw [← hq.2.1, w2]; simp
      · have ho : onw q0 i = true := by unfold onw; rw [w, ← hq.2.1, decide_eq_true w2]; rfl
        rcases lws_in (onw q0) n with ⟨h1, h2⟩ | ⟨b, h0, h1, h2, h3⟩
        · rw [h2 i (hout i ho)] at ho; cases ho
        · have : b = i := by
            rcases Nat.lt_trichotomy b i with y | y | y
            · rw [g b y] at h2; cases h2
            · exact y
            · rw [h3 i y] at ho; cases ho
          rw [h1, this] at q; exact q
  exact main 0 (by omega) (fun j hj => by omega)
end CM
