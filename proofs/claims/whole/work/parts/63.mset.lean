/-! the reference: exceptions noted, boxes, the register -/
section MS
variable {G : Gx} {A : Nat → Nat} {B : Nat → Nat → Nat} {S : Nat → Nat → Int} {h : hw}
theorem Pic.thr0 (P : Pic G A B S h) {K : hw → Prop} (q : ∀ h', Pic G A B (su S 80 0 0) h' → K h') : wrF h (A 80) 12 0 (.int 0) K := P.wF (k := 80) (z := 0) ⟨by decide, by decide, by decide, by decide⟩ rfl (by show 0 < 36; decide) rfl q
theorem Pic.fails (P : Pic G A B S h) {b : Bool} {e : Int} (he : e = 1 ∨ e = 2 ∨ e = 3 ∨ e = 4) (ht : S 80 0 = 0) {x y : Int32} (hx : x = ii (bI b)) (hy : y = ii e) {post : Int32 → hw → Prop} (q1 : b = true → ∀ h', Pic G A B (su S 80 0 e) h' → post 1 h') (q0 : b = false → post 0 h) : wp_X12_fails G (A 80) x y h post := by
  subst hx hy
  intro J hJ
  rw [bI_1, bI_0]
  refine ⟨fun c => ?_, fun c => ?_⟩
  · apply hJ
    refine P.rI (k := 80) rfl rfl ?_
    rw [ht]
    exact ⟨fun _ => q0 c, fun z => absurd rfl z⟩
  · refine P.rI (k := 80) rfl rfl ?_
    rw [ht]
    refine ⟨fun z => absurd rfl z, fun _ => ?_⟩
    refine P.wF (k := 80) (z := e) ⟨by decide, by decide, by decide, by decide⟩ rfl (by show 0 < 36; decide) rfl (fun h' P' => ?_)
    apply hJ
    refine P'.rI (k := 80) rfl rfl ?_
    rw [su_at, il_0, ii_eq ⟨by omega, by omega⟩ ⟨by omega, by omega⟩]
    exact ⟨fun z => by omega, fun _ => q1 c h' P'⟩
theorem in_of {v a b : Int32} {post : Int32 → Prop} (q : post (ii (bI (decide (¬ v < a ∧ ¬ b < v))))) : wp_X12_in G v a b h post := by
  intro J hJ
  have no : ¬ (¬ v < a ∧ ¬ b < v) → J := fun z => by apply hJ; rw [decide_eq_false z] at q; exact q
  refine ⟨fun c => no (fun z => z.1 c), fun c => ⟨fun c2 => no (fun z => z.2 c2), fun c2 => ?_⟩⟩
  rw [decide_eq_true ⟨c, c2⟩] at q; exact q
/-- whether a number is in a range -/
def inr (v a b : Int) : Bool := decide (a ≤ v ∧ v ≤ b)
theorem in_ii {v a b : Int} (hv : rg v) (ha : rg a) (hb : rg b) {x y z : Int32} (hx : x = ii v) (hy : y = ii a) (hz : z = ii b) {post : Int32 → Prop} (q : post (ii (bI (inr v a b)))) : wp_X12_in G x y z h post := by
  subst hx hy hz
  refine in_of ?_
  have e : decide (¬ ii v < ii a ∧ ¬ ii b < ii v) = inr v a b := by
    unfold inr
    exact decide_eq_decide.mpr (by rw [ii_lt hv ha, ii_lt hb hv]; omega)
  rw [e]; exact q
theorem inr_t {v a b : Int} : inr v a b = true ↔ a ≤ v ∧ v ≤ b := by unfold inr; exact decide_eq_true_iff
theorem inr_f {v a b : Int} : inr v a b = false ↔ ¬ (a ≤ v ∧ v ≤ b) := by unfold inr; exact decide_eq_false_iff_not
theorem Pic.mno (P : Pic G A B S h) (hM : MO S) {v : Int} (hv : rg v) {x : Int32} (hx : x = ii v) {post : Int32 → Prop} (q : post (ii (bI (!inr v 0 (S 80 4 - 1))))) : wp_X12_no G (A 80) x h post := by
  obtain ⟨n8, n4, n5⟩ := ntM_8 hM
  refine P.rI (k := 80) rfl rfl ?_
  refine in_ii hv (a := 0) (b := S 80 4 - 1) ⟨by omega, by omega⟩ ⟨by omega, by omega⟩ hx il_0 (by rw [il_1, ii_sub]) ?_
  rw [bI_1, bI_0]
  refine ⟨fun c => ?_, fun c => ?_⟩
  · rw [c] at q; exact q
  · rw [c] at q; exact q
theorem noChan {v : Int} (hv : rg v) {x : Int32} (hx : x = ii v) {post : Int32 → Prop} (q : post (ii (bI (!inr v 0 7)))) : wp_X12_noChannel G x h post := by
  refine in_ii hv (a := 0) (b := 7) ⟨by omega, by omega⟩ ⟨by omega, by omega⟩ hx il_0 il_7 ?_
  rw [bI_1, bI_0]
  refine ⟨fun c => ?_, fun c => ?_⟩
  · rw [c] at q; exact q
  · rw [c] at q; exact q
theorem Pic.box (P : Pic G A B S h) {v : Int} {x : Int32} (hx : x = ii v) {post : Nat → hw → Prop} (q : ∀ a h', Pic G A B S h' → h' a = some (.inr (13, [.int (ii v)])) → post a h') : wp_J6_valueOf_2dffe G x h post := by
  subst hx
  refine ⟨fun a ha => q a h P ha, fun a ha hg => ?_⟩
  refine ⟨hg, _, if_pos rfl, by decide, ?_⟩
  have e : hwu (hwu h a (.inr (13, [.int 0]))) a (.inr (13, ([Value.int 0] : List Value).set 0 (.int (ii v)))) = hwu h a (.inr (13, [.int (ii v)])) := by
    funext y
    unfold hwu
    by_cases z : y = a
    · rw [if_pos z, if_pos z]; rfl
    · rw [if_neg z, if_neg z, if_neg z]
  rw [e]
  exact q a _ (P.fresh ha).1 (if_pos rfl)
def lmf (w : Nat → Int) (d : Int) : Nat → Int
  | 0 => -1
  | e + 1 => if w (2 * e) ≤ d then w (2 * e + 1) else lmf w d e
theorem lmf_of {w w' : Nat → Int} {d : Int} {n : Nat} (h : ∀ i, i < 2 * n → w i = w' i) : lmf w d n = lmf w' d n := by
  induction n with
  | zero => rfl
  | succ n ih =>
    unfold lmf
    rw [h (2 * n) (by omega), h (2 * n + 1) (by omega), ih (fun i hi => h i (by omega))]
/-- who is on which channel at a day's end, by the reference's register -/
def LM (S : Nat → Nat → Int) (s : Nat) (d : Int) : Int := lmf (S (190 + s)) d ((S (170 + s) 2).toNat / 2)
/-- what stands in a station's own list are ints -/
def LV (S : Nat → Nat → Int) (s : Nat) : Prop := ∀ i : Nat, (i : Int) < S (170 + s) 2 → rg (S (190 + s) i)
/-- the reference's register is in order -/
def RG (S : Nat → Nat → Int) : Prop := S 81 2 = S 80 4 ∧ (S 81 3 = if S 81 2 = 0 then 0 else 10) ∧ (S 50 2 ≤ 10 ∧ S 51 2 ≤ 10) ∧ ∀ s : Nat, (s : Int) < S 81 2 → LI S s ∧ S (170 + s) 2 % 2 = 0 ∧ LV S s
def gr (c : Int) : Int := if c = 0 then 10 else c + c / 2
def cap2 (n c : Int) : Int := if n + 2 ≤ c then c else gr c
theorem grw2 {n c : Int} (h0 : 0 ≤ n) (h1 : n ≤ c) (h2 : c = 0 ∨ 10 ≤ c) : grw (n + 1) (grw n c) = cap2 n c := by
  unfold grw cap2 gr
  by_cases e : n = c
  · rw [if_pos e]
    by_cases z : c = 0
    · rw [if_pos z, if_neg (by omega), if_neg (by omega)]
    · rw [if_neg z, if_neg (by omega), if_neg (by omega)]
  · rw [if_neg e]
    by_cases e2 : n + 1 = c
    · rw [if_pos e2, if_neg (by omega), if_neg (by omega)]
    · rw [if_neg e2, if_pos (by omega)]
theorem Pic.rlist (P : Pic G A B S h) (hM : MO S) (hR : RG S) {s : Nat} (hs : s < ntM S) {x : Int32} (hx : x = ii (s : Int)) {K : Nat → Prop} (q : K (A (170 + s))) : rdR h (A 80) 12 15 (fun v => (isO h v 14 ∧ wp_Jx4a65c_get_915e3 G v x h (fun r => (isO h r 14 ∧ K r)))) := by
  obtain ⟨n8, n4, n5⟩ := ntM_8 hM
  obtain ⟨r1, r2, -, r3⟩ := hR
  have h81 : S 81 2 ≤ 8 := by omega
  have hs' : (s : Int) < S 81 2 := by omega
  have h3 : S 81 3 ≠ 0 := by rw [r2, if_neg (by omega)]; decide
  have c81 : ctn G A B S 81 = some (.inr (14, [.int (ii (S 81 0)), .ref (A 82), .int (ii (S 81 2))])) := by
    show some (ctL G (S 81) (A 82)) = _
    unfold ctL; rw [if_neg h3]
  have c82 : ctn G A B S 82 = some (.inl (G.2.2.1.2.2.2.2, 10, .inr (.inr (.inr (.inr (fun i => if (i : Int) < S 81 2 then some (A (170 + i)) else none)))))) := by
    show ctLA G A (S 81) 170 = _
    unfold ctLA; rw [if_neg h3]
  refine P.rR (k := 80) rfl rfl ⟨P.o (k := 81) rfl, ?_⟩
  exact P.get c81 c82 hx hs' (by omega) (by omega) (if_pos hs') ⟨P.o (ctn_170 hs' h81), q⟩
theorem Pic.mset (P : Pic G A B S h) (hM : MO S) (hR : RG S) {s : Nat} (hs : s < ntM S) {c : Int} {x y : Int32} (hx : x = ii (s : Int)) (hy : y = ii c) {bc bs : Nat} (hbc : 3 ≤ bc) (hbs : 2 + (if S (170 + s) 2 + 2 ≤ S (170 + s) 3 then 0 else gr (S (170 + s) 3)) ≤ bs) {post : hw → Prop} (hcap : S (170 + s) 3 ≤ 600000) (hday : rg (S 80 1)) (hcr : rg c) (q : ∀ A' B' S' h', Pic G A' B' S' h' → (∀ k, k < 180 → A' k = A k) → (∀ k, k ≠ 113 → k ≠ 170 + s → k ≠ 190 + s → S' k = S k) → S' 113 = up (S 113) s c → S' (170 + s) 2 = S (170 + s) 2 + 2 → S' (170 + s) 3 = cap2 (S (170 + s) 2) (S (170 + s) 3) → (∀ d, LM S' s d = if S 80 1 ≤ d then c else LM S s d) → LI S' s → LV S' s → post h') : wp_X12_set G (A 80) x y h bc bs post := by
  obtain ⟨n8, n4, n5⟩ := ntM_8 hM
  have hR0 := hR
  obtain ⟨r1, r2, r50, r3⟩ := hR
  have hs81 : (s : Int) < S 81 2 := by omega
  obtain ⟨⟨l0, l1, l2, l3⟩, lev, lvv⟩ := r3 s hs81
  subst hx hy
  have grp : 0 ≤ gr (S (170 + s) 3) := by unfold gr; split <;> omega
  have hbs0 : 2 ≤ bs := by
    by_cases w : S (170 + s) 2 + 2 ≤ S (170 + s) 3
    · rw [if_pos w] at hbs; omega
    · rw [if_neg w] at hbs; omega
  refine P.ms (k := 113) (i := s) (z := c) ⟨by omega, by omega, rfl, rfl⟩ rfl rfl (show _ < 8 by omega) (fun h1 P1 => ?_)
  obtain ⟨S1, e1⟩ : ∃ S1, S1 = su S 113 s c := ⟨_, rfl⟩
  rw [← e1] at P1
  have f1 : ∀ k, k ≠ 113 → S1 k = S k := fun k hk => by rw [e1]; exact su_row _ _ hk
  have hn1 : ntM S1 = ntM S := by unfold ntM; rw [f1 80 (by omega)]
  have hE1 : EM S1 = EM S := by
    funext k i
    unfold EM
    rw [f1 106 (by omega), f1 107 (by omega), f1 108 (by omega), f1 105 (by omega), f1 109 (by omega), f1 110 (by omega), f1 111 (by omega), f1 112 (by omega), f1 80 (by omega)]
  -- the list of lists, in every state between
  have RL : ∀ (A2 : Nat → Nat) (B2 : Nat → Nat → Nat) (S2 : Nat → Nat → Int) (h2 : hw), Pic G A2 B2 S2 h2 → (∀ k, k < 180 → A2 k = A k) → S2 81 = S 81 → ∀ K : Nat → Prop, K (A2 (170 + s)) → rdR h2 (A 80) 12 15 (fun v => (isO h2 v 14 ∧ wp_Jx4a65c_get_915e3 G v (ii (s : Int)) h2 (fun r => (isO h2 r 14 ∧ K r)))) := by
    intro A2 B2 S2 h2 P2 a2 f81 K hK
    have h3 : S2 81 3 ≠ 0 := by rw [f81, r2, if_neg (by omega)]; decide
    have hs2 : (s : Int) < S2 81 2 := by rw [f81]; exact hs81
    have c81 : ctn G A2 B2 S2 81 = some (.inr (14, [.int (ii (S2 81 0)), .ref (A2 82), .int (ii (S2 81 2))])) := by
      show some (ctL G (S2 81) (A2 82)) = _
      unfold ctL; rw [if_neg h3]
    have c82 : ctn G A2 B2 S2 82 = some (.inl (G.2.2.1.2.2.2.2, 10, .inr (.inr (.inr (.inr (fun i => if (i : Int) < S2 81 2 then some (A2 (170 + i)) else none)))))) := by
      show ctLA G A2 (S2 81) 170 = _
      unfold ctLA; rw [if_neg h3]
    rw [← a2 80 (by omega)]
    refine P2.rR (k := 80) rfl rfl ⟨P2.o (k := 81) rfl, ?_⟩
    exact P2.get c81 c82 rfl hs2 (by omega) (by rw [f81]; omega) (if_pos hs2) ⟨P2.o (ctn_170 hs2 (by rw [f81]; omega)), hK⟩
  refine RL A B S1 h1 P1 (fun _ _ => rfl) (f1 81 (by omega)) _ ?_
  refine P1.rI (k := 80) rfl rfl ?_
  refine ⟨by omega, by omega, ?_⟩
  rw [f1 80 (by omega)]
  refine P1.box (v := S 80 1) rfl (fun b h2 P2 hb => ?_)
  have s170 : S1 (170 + s) = S (170 + s) := f1 _ (by omega)
  have li1 : LI S1 s := by unfold LI; rw [s170]; exact ⟨l0, l1, l2, l3⟩
  have e81 : S1 81 = S 81 := f1 81 (by omega)
  obtain ⟨c1, hc1⟩ : ∃ c1 : Nat, c1 = if S (170 + s) 2 = S (170 + s) 3 then 1 else 0 := ⟨_, rfl⟩
  obtain ⟨g1, hg1⟩ : ∃ g1 : Nat, g1 = if S (170 + s) 2 = S (170 + s) 3 then (gr (S (170 + s) 3)).toNat else 0 := ⟨_, rfl⟩
  obtain ⟨c2, hc2⟩ : ∃ c2 : Nat, c2 = if S (170 + s) 2 + 1 = S (170 + s) 3 then 1 else 0 := ⟨_, rfl⟩
  obtain ⟨g2, hg2⟩ : ∃ g2 : Nat, g2 = if S (170 + s) 2 + 1 = S (170 + s) 3 then (gr (S (170 + s) 3)).toNat else 0 := ⟨_, rfl⟩
  have room : c1 + c2 ≤ 1 ∧ (g1 + g2 + 2 : Nat) ≤ bs := by
    by_cases w : S (170 + s) 2 = S (170 + s) 3
    · rw [if_pos w] at hc1 hg1
      rw [if_neg (by omega)] at hc2 hg2
      rw [if_neg (by omega)] at hbs
      omega
    · rw [if_neg w] at hc1 hg1
      by_cases w2 : S (170 + s) 2 + 1 = S (170 + s) 3
      · rw [if_pos w2] at hc2 hg2
        rw [if_neg (by omega)] at hbs
        omega
      · rw [if_neg w2] at hc2 hg2
        omega
  refine ⟨c1, g1, by omega, by omega, P2.o (ctn_170 (by rw [e81]; exact hs81) (by rw [e81]; omega)), ?_⟩
  refine P2.addI (by rw [e81]; exact hs81) (by rw [e81]; omega) (by rw [f1 50 (by omega), f1 51 (by omega)]; exact r50) li1 hb (fun w => ?_) (fun A3 B3 h3 P3 a3 => ?_)
  · rw [s170] at w ⊢
    rw [if_pos w] at hc1 hg1
    refine ⟨by omega, ?_⟩
    rw [hg1]
    unfold grw gr
    rw [if_pos w]
    split <;> omega
  have a3' : ∀ k, k < 180 → A3 k = A k := fun k hk => a3 k (by omega)
  obtain ⟨S3, e3⟩ : ∃ S3, S3 = liu S1 s (S 80 1) := ⟨_, rfl⟩
  rw [← e3] at P3
  have f3 : ∀ k, k ≠ 113 → k ≠ 170 + s → k ≠ 190 + s → S3 k = S k := fun k k1 k2 k3 => by rw [e3, liu_k k2 k3, f1 k k1]
  have s3n : S3 (170 + s) 2 = S (170 + s) 2 + 1 := by rw [e3, liu_2, s170]
  have s3c : S3 (170 + s) 3 = grw (S (170 + s) 2) (S (170 + s) 3) := by rw [e3, liu_3, s170]
  refine RL A3 B3 S3 h3 P3 a3' (f3 81 (by omega) (by omega) (by omega)) _ ?_
  refine ⟨by omega, by omega, ?_⟩
  refine P3.box (v := c) rfl (fun b2 h4 P4 hb2 => ?_)
  have f81 : S3 81 = S 81 := f3 81 (by omega) (by omega) (by omega)
  have gle : S (170 + s) 2 + 1 ≤ grw (S (170 + s) 2) (S (170 + s) 3) ∧ 10 ≤ grw (S (170 + s) 2) (S (170 + s) 3) ∧ grw (S (170 + s) 2) (S (170 + s) 3) ≤ 900010 := by
    unfold grw
    split
    · split <;> omega
    · omega
  have li3 : LI S3 s := by
    unfold LI
    rw [s3n, s3c]
    exact ⟨by omega, by omega, Or.inr (by omega), by omega⟩
  refine ⟨c2, g2, by omega, by omega, P4.o (ctn_170 (by rw [f81]; exact hs81) (by rw [f81]; omega)), ?_⟩
  refine P4.addI (by rw [f81]; exact hs81) (by rw [f81]; omega) (by rw [f3 50 (by omega) (by omega) (by omega), f3 51 (by omega) (by omega) (by omega)]; exact r50) li3 hb2 (fun w => ?_) (fun A5 B5 h5 P5 a5 => ?_)
  · rw [s3n, s3c] at w
    rw [s3n, s3c, grw2 l0 l1 l2]
    have w2 : S (170 + s) 2 + 1 = S (170 + s) 3 := by
      unfold grw at w
      split at w
      · split at w <;> omega
      · exact w
    rw [if_pos w2] at hc2 hg2
    refine ⟨by omega, ?_⟩
    rw [hg2]
    unfold cap2
    rw [if_neg (by omega)]
    omega
  obtain ⟨S5, e5⟩ : ∃ S5, S5 = liu S3 s c := ⟨_, rfl⟩
  rw [← e5] at P5
  have f5 : ∀ k, k ≠ 113 → k ≠ 170 + s → k ≠ 190 + s → S5 k = S k := fun k k1 k2 k3 => by rw [e5, liu_k k2 k3, f3 k k1 k2 k3]
  have s5n : S5 (170 + s) 2 = S (170 + s) 2 + 2 := by rw [e5, liu_2, s3n]; omega
  have s5c : S5 (170 + s) 3 = cap2 (S (170 + s) 2) (S (170 + s) 3) := by rw [e5, liu_3, s3n, s3c, grw2 l0 l1 l2]
  have v3 : S3 (190 + s) = up (S (190 + s)) (S (170 + s) 2).toNat (S 80 1) := by rw [e3, liu_v, s170, f1 (190 + s) (by omega)]
  have v5 : S5 (190 + s) = up (S3 (190 + s)) (S (170 + s) 2 + 1).toNat c := by rw [e5, liu_v, s3n]
  refine ⟨by omega, by omega, ?_⟩
  refine q A5 B5 S5 h5 P5 (fun k hk => by rw [a5 k (by omega), a3' k hk]) f5 ?_ s5n s5c (fun d => ?_) ?_ (fun i hi => ?_)
  · rw [e5, liu_k (by omega) (by omega), e3, liu_k (by omega) (by omega), e1]; exact su_up _ _ _
  · unfold LM
    rw [s5n, show (S (170 + s) 2 + 2).toNat / 2 = (S (170 + s) 2).toNat / 2 + 1 by omega]
    show (if S5 (190 + s) (2 * ((S (170 + s) 2).toNat / 2)) ≤ d then S5 (190 + s) (2 * ((S (170 + s) 2).toNat / 2) + 1) else lmf (S5 (190 + s)) d ((S (170 + s) 2).toNat / 2)) = _
    rw [show 2 * ((S (170 + s) 2).toNat / 2) = (S (170 + s) 2).toNat by omega]
    have q1 : S5 (190 + s) (S (170 + s) 2).toNat = S 80 1 := by rw [v5, up_ne (by omega), v3, up_at]
    have q2 : S5 (190 + s) ((S (170 + s) 2).toNat + 1) = c := by rw [v5, show (S (170 + s) 2 + 1).toNat = (S (170 + s) 2).toNat + 1 by omega, up_at]
    rw [q1, q2]
    by_cases w : S 80 1 ≤ d
    · rw [if_pos w, if_pos w]
    · rw [if_neg w, if_neg w]
      refine lmf_of (fun i hi => ?_)
      rw [v5, up_ne (by omega), v3, up_ne (by omega)]
  · unfold LI
    rw [s5n, s5c]
    unfold cap2 gr
    split
    · omega
    · split <;> omega
  · rw [s5n] at hi
    rw [v5, show (S (170 + s) 2 + 1).toNat = (S (170 + s) 2).toNat + 1 by omega]
    by_cases y : i = (S (170 + s) 2).toNat + 1
    · rw [y, up_at]; exact hcr
    · rw [up_ne y, v3]
      by_cases y2 : i = (S (170 + s) 2).toNat
      · rw [y2, up_at]; exact hday
      · rw [up_ne y2]; exact lvv i (by omega)
end MS
