/-! the class's losses kept ready; what stations do to each other -/
def wk (ap : Int) : Int := if ap = 0 then 0 else if ap = 1 then 300 else 500
def lvE (E : Nat → Nat → Int) (j : Nat) : Int := E 6 j - lossE E (E 4 j).toNat (E 5 j).toNat
def hmE (E : Nat → Nat → Int) (o s : Nat) (ap : Int) : Int := E 6 o - lossE E (E 4 o).toNat (E 5 s).toNat - wk ap
def tog (a b : Int) : Int := mx a b + mx (30 - ab (a - b) / 4) 0
def nrm (ch : Nat → Int) (s i : Nat) : Bool := decide (i ≠ s ∧ ch i ≠ -1 ∧ ab (ch i - ch s) < 3)
/-- all that harms s, of the first i -/
def hs (E : Nat → Nat → Int) (s : Nat) (ch : Nat → Int) : Nat → Option Int
  | 0 => none
  | i + 1 => if nrm ch s i = true then (match hs E s ch i with
    | none => some (hmE E i s (ab (ch i - ch s)))
    | some a => some (tog a (hmE E i s (ab (ch i - ch s))))) else hs E s ch i
def nt (E : Nat → Nat → Int) : Nat := (E 8 1).toNat
def kp (E : Nat → Nat → Int) (s : Nat) (ch : Nat → Int) : Bool := match hs E s ch (nt E) with
  | none => true
  | some a => decide (E 8 0 ≤ lvE E s - a)
def sf1 (E : Nat → Nat → Int) (s o : Nat) (ap : Int) : Bool := decide (E 7 s = 1) && decide (lvE E s - hmE E o s ap < E 8 0)
def brA (E : Nat → Nat → Int) (a b : Nat) (ap : Int) : Bool := decide (ap < 3) && (sf1 E a b ap || sf1 E b a ap)
def br2 (E : Nat → Nat → Int) (a : Nat) (c : Int) (b : Nat) (d : Int) : Bool := brA E a b (ab (c - d))
def bI (b : Bool) : Int := if b = true then 1 else 0
/-- those that must keep it and are on keep their level -/
def alk (E : Nat → Nat → Int) (ch : Nat → Int) : Prop := ∀ i : Nat, i < nt E → E 7 i = 1 → ch i ≠ -1 → kp E i ch = true
section HM
variable {E : Nat → Nat → Int}
theorem brA_sym (a b : Nat) (ap : Int) : brA E a b ap = brA E b a ap := by unfold brA; rw [Bool.or_comm]
theorem ab_sym (x y : Int) : ab (x - y) = ab (y - x) := by unfold ab; omega
theorem br2_sym (a : Nat) (c : Int) (b : Nat) (d : Int) : br2 E a c b d = br2 E b d a c := by unfold br2; rw [brA_sym, ab_sym]
theorem lvE_le (hE : EOK E) (j : Nat) : -3500 ≤ lvE E j ∧ lvE E j ≤ 500 := by
  have h1 := lossE_le hE (E 4 j).toNat (E 5 j).toNat
  have h2 := hE.2.2.2.2.2.2.1 j
  unfold lvE; omega
theorem hmE_le (hE : EOK E) (o s : Nat) (ap : Int) : -4000 ≤ hmE E o s ap ∧ hmE E o s ap ≤ 500 := by
  have h1 := lossE_le hE (E 4 o).toNat (E 5 s).toNat
  have h2 := hE.2.2.2.2.2.2.1 o
  unfold hmE wk
  split
  · omega
  · split <;> omega
theorem tog_le {a b m : Int} (h1 : -4000 ≤ a ∧ a ≤ m) (h2 : -4000 ≤ b ∧ b ≤ m) : -4000 ≤ tog a b ∧ tog a b ≤ m + 30 := by
  unfold tog mx ab
  omega
theorem hs_le (hE : EOK E) (s : Nat) (ch : Nat → Int) (i : Nat) : ∀ a, hs E s ch i = some a → -4000 ≤ a ∧ a ≤ 500 + 30 * i := by
  induction i with
  | zero => intro a h; cases h
  | succ i ih =>
    intro a h
    unfold hs at h
    have hm := hmE_le hE i s (ab (ch i - ch s))
    split at h
    · split at h
      · cases h; omega
      · rename_i b hb
        cases h
        have := ih b hb
        have := tog_le (a := b) (b := hmE E i s (ab (ch i - ch s))) (m := 500 + 30 * i) (by omega) (by omega)
        omega
    · have := ih a h; omega
end HM
section CA
variable {G : Gx} {A : Nat → Nat} {B : Nat → Nat → Nat} {S : Nat → Nat → Int} {h : hw}
theorem Pic.measureAll (P : Pic G A B S h) (hK : KL S) (hd : ∀ a : Nat, a < 10 → S 31 (a * 10 + a) = 0) {post : hw → Prop} (q : ∀ S' h', Pic G A B S' h' → KI S' → (∀ k, k ≠ 31 → S' k = S k) → (∀ a : Nat, a < 10 → S' 31 (a * 10 + a) = 0) → post h') : wp_X3_measureAll G (A 2) h post := by
  have h10 := hK.1.1.2.1
  have h0 := hK.1.1.1
  -- first < second, below the bounds, are right
  have F : ∀ S' : Nat → Nat → Int, (∀ k, k ≠ 31 → S' k = S k) → (∀ k, kl k → S' k = S k) := fun S' e k hk => e k (fun z => by subst z; rcases hk with z | z | z <;> omega)
  intro J hJ
  have main : ∀ n : Nat, n ≤ (S 50 2).toNat - 1 → ∀ (S' : Nat → Nat → Int) (h' : hw), Pic G A B S' h' → (∀ k, k ≠ 31 → S' k = S k) → (∀ a : Nat, a < 10 → S' 31 (a * 10 + a) = 0) → (∀ a b : Nat, a < b → b < n + 1 → S' 31 (a * 10 + b) = lossO (EC S) a b ∧ S' 31 (b * 10 + a) = lossO (EC S) a b) → J (ii ((n + 1 : Nat) : Int)) h' := by
    intro n hn
    refine lp_up (J := fun n : Nat => ∀ (S' : Nat → Nat → Int) (h' : hw), Pic G A B S' h' → (∀ k, k ≠ 31 → S' k = S k) → (∀ a : Nat, a < 10 → S' 31 (a * 10 + a) = 0) → (∀ a b : Nat, a < b → b < n + 1 → S' 31 (a * 10 + b) = lossO (EC S) a b ∧ S' 31 (b * 10 + a) = lossO (EC S) a b) → J (ii ((n + 1 : Nat) : Int)) h') (n := (S 50 2).toNat - 1) ?_ ?_ hn
    · intro S' h' P' e1 e2 e3
      apply hJ
      refine P'.nS ?_
      rw [e1 50 (by omega), ii_le ⟨by omega, by omega⟩ ⟨by omega, by omega⟩]
      refine ⟨fun _ => ?_, fun c => absurd (show S 50 2 ≤ ((((S 50 2).toNat - 1 + 1 : Nat)) : Int) by omega) c⟩
      refine q S' h' P' ⟨hK.of (F S' e1), fun a b ha hb => ?_⟩ e1 e2
      rw [e1 50 (by omega)] at ha hb
      rw [EC_of (F S' e1)]
      unfold lossE
      by_cases c1 : a = b
      · subst c1; rw [if_pos rfl]; exact e2 a (by omega)
      · rw [if_neg c1]
        by_cases c2 : a < b
        · rw [if_pos c2]; exact (e3 a b c2 (by omega)).1
        · rw [if_neg c2]; exact (e3 b a (by omega) (by omega)).2
    · intro n hn ih S' h' P' e1 e2 e3
      apply hJ
      refine P'.nS ?_
      rw [e1 50 (by omega), ii_le ⟨by omega, by omega⟩ ⟨by omega, by omega⟩]
      refine ⟨fun c => absurd c (by omega), fun _ => ?_⟩
      intro J2 hJ2
      have inner : ∀ f : Nat, f ≤ n + 1 → ∀ (S' : Nat → Nat → Int) (h' : hw), Pic G A B S' h' → (∀ k, k ≠ 31 → S' k = S k) → (∀ a : Nat, a < 10 → S' 31 (a * 10 + a) = 0) → (∀ a b : Nat, a < b → (b < n + 1 ∨ (b = n + 1 ∧ a < f)) → S' 31 (a * 10 + b) = lossO (EC S) a b ∧ S' 31 (b * 10 + a) = lossO (EC S) a b) → J2 (ii (f : Int)) h' := by
        intro f hf
        refine lp_up (J := fun f : Nat => ∀ (S' : Nat → Nat → Int) (h' : hw), Pic G A B S' h' → (∀ k, k ≠ 31 → S' k = S k) → (∀ a : Nat, a < 10 → S' 31 (a * 10 + a) = 0) → (∀ a b : Nat, a < b → (b < n + 1 ∨ (b = n + 1 ∧ a < f)) → S' 31 (a * 10 + b) = lossO (EC S) a b ∧ S' 31 (b * 10 + a) = lossO (EC S) a b) → J2 (ii (f : Int)) h') (n := n + 1) ?_ ?_ hf
        · intro S' h' P' e1 e2 e3
          apply hJ2
          rw [ii_le ⟨by omega, by omega⟩ ⟨by omega, by omega⟩]
          refine ⟨fun _ => ?_, fun c => absurd (Int.le_refl _) c⟩
          rw [ii_inc']
          exact ih S' h' P' e1 e2 (fun a b hab hb => e3 a b hab (by omega))
        · intro f hf ih2 S' h' P' e1 e2 e3
          have hK' := hK.of (F S' e1)
          have e50 : S' 50 2 = S 50 2 := by rw [e1 50 (by omega)]
          apply hJ2
          rw [ii_le ⟨by omega, by omega⟩ ⟨by omega, by omega⟩]
          refine ⟨fun c => absurd c (by omega), fun _ => ?_⟩
          refine P'.gS hK'.1 rfl (by omega) ?_
          refine P'.gS hK'.1 rfl (by omega) ?_
          refine ⟨P'.o (k := 2) rfl, ?_⟩
          refine P'.measure hK' (by omega) (by omega) ?_
          rw [EC_of (F S' e1)]
          refine P'.oput (i := f * 10 + (n + 1)) (z := lossO (EC S) f (n + 1)) (k := 2) (r := 11) (rk := 31) rfl rfl ⟨by omega, by omega⟩ ?_ rfl (show _ < 100 by omega) (fun h2' P2 => ?_)
          · rw [il_10, ii_mul, ii_add]; exact congrArg ii (by omega)
          refine P2.oput (i := (n + 1) * 10 + f) (z := lossO (EC S) f (n + 1)) (k := 2) (r := 11) (rk := 31) rfl rfl ⟨by omega, by omega⟩ ?_ rfl (show _ < 100 by omega) (fun h3' P3 => ?_)
          · rw [il_10, ii_mul, ii_add]; exact congrArg ii (by omega)
          rw [ii_inc']
          refine ih2 _ _ P3 (fun k hk => by rw [su_row _ _ hk, su_row _ _ hk, e1 k hk]) (fun a ha => ?_) (fun a b hab hb => ?_)
          · rw [su_nei _ _ _ (by omega), su_nei _ _ _ (by omega)]; exact e2 a ha
          · show su (su S' 31 (f * 10 + (n + 1)) (lossO (EC S) f (n + 1))) 31 ((n + 1) * 10 + f) (lossO (EC S) f (n + 1)) 31 (a * 10 + b) = _ ∧ su (su S' 31 (f * 10 + (n + 1)) (lossO (EC S) f (n + 1))) 31 ((n + 1) * 10 + f) (lossO (EC S) f (n + 1)) 31 (b * 10 + a) = _
            by_cases c : b = n + 1 ∧ a = f
            · obtain ⟨rfl, rfl⟩ := c
              refine ⟨?_, su_at _ _ _⟩
              rw [su_nei _ _ _ (by omega)]
              exact su_at _ _ _
            · have := e3 a b hab (by omega)
              rw [su_nei _ _ _ (by omega), su_nei _ _ _ (by omega), su_nei _ _ _ (by omega), su_nei _ _ _ (by omega)]
              exact this
      exact inner 0 (by omega) S' h' P' e1 e2 (fun a b hab hb => e3 a b hab (by omega))
  exact main 0 (by omega) S h P (fun _ _ => rfl) hd (fun a b hab hb => by omega)
theorem Pic.loss (P : Pic G A B S h) (hK : KI S) {a b : Nat} {x y : Int32} (hx : x = ii (a : Int)) (hy : y = ii (b : Int)) (ha : (a : Int) < S 50 2) (hb : (b : Int) < S 50 2) {post : Int32 → Prop} (q : post (ii (lossE (EC S) a b))) : wp_X3_lossBetween G (A 2) x y h post := by
  have h10 := hK.1.1.1.2.1
  subst hx hy
  refine P.oat (i := a * 10 + b) (k := 2) (r := 11) (rk := 31) rfl rfl ⟨by omega, by omega⟩ ?_ (show _ < 100 by omega) ?_
  · rw [il_10, ii_mul, ii_add]; exact congrArg ii (by omega)
  · rw [show S 31 (a * 10 + b) = _ from hK.2 a b ha hb]; exact q
/-- a station's own fields -/
theorem KI.ends (hK : KI S) {j : Nat} (hj : (j : Int) < S 51 2) : (0 ≤ S (70 + j) 1 ∧ S (70 + j) 1 < S 50 2 ∧ S (70 + j) 1 = EC S 4 j) ∧ (0 ≤ S (70 + j) 2 ∧ S (70 + j) 2 < S 50 2 ∧ S (70 + j) 2 = EC S 5 j) ∧ S (70 + j) 3 = EC S 6 j ∧ S (70 + j) 4 = EC S 7 j ∧ S (70 + j) 0 = j ∧ j < 8 := by
  obtain ⟨⟨hL, hE, hn⟩, -⟩ := hK
  have h8 := hL.2.2.1
  have e4 := EC_4 (S := S) (i := j) (by omega)
  have e5 := EC_5 (S := S) (i := j) (by omega)
  have r4 := hE.2.2.2.2.1 j
  have r5 := hE.2.2.2.2.2.1 j
  have t4 := r4.2.2 hj
  have t5 := r5.2.2 hj
  rw [EC_s] at t4 t5
  refine ⟨⟨by omega, by omega, e4.symm⟩, ⟨by omega, by omega, e5.symm⟩, (EC_6 (by omega)).symm, (EC_7 (by omega)).symm, hn j hj, by omega⟩
theorem Pic.level (P : Pic G A B S h) (hK : KI S) {j : Nat} (hj : (j : Int) < S 51 2) {post : Int32 → Prop} (q : post (ii (lvE (EC S) j))) : wp_X0_levelOf G (A 1) (A (70 + j)) h post := by
  have h8 := hK.1.1.2.2.1
  have kj := ctn_st (G := G) (A := A) (B := B) hj (by omega)
  obtain ⟨⟨a1, a2, a3⟩, ⟨b1, b2, b3⟩, c1, -⟩ := hK.ends hj
  refine P.rI kj rfl ?_
  refine P.rR (k := 1) rfl rfl ?_
  refine P.rI kj rfl ?_
  refine P.rI kj rfl ?_
  refine ⟨P.o (k := 2) rfl, ?_⟩
  refine P.loss hK (a := (S (70 + j) 1).toNat) (b := (S (70 + j) 2).toNat) (by rw [Int.toNat_of_nonneg a1]) (by rw [Int.toNat_of_nonneg b1]) (by omega) (by omega) ?_
  rw [ii_sub, a3, b3, c1]
  exact q
theorem Pic.harmOf (P : Pic G A B S h) (hK : KI S) {o s : Nat} (ho : (o : Int) < S 51 2) (hs : (s : Int) < S 51 2) {ap : Int} (hap : 0 ≤ ap ∧ ap < 3) {x : Int32} (hx : x = ii ap) {post : Int32 → Prop} (q : post (ii (hmE (EC S) o s ap))) : wp_X0_harmOf G (A 1) (A (70 + o)) (A (70 + s)) x h post := by
  have h8 := hK.1.1.2.2.1
  have ko := ctn_st (G := G) (A := A) (B := B) ho (by omega)
  have ks := ctn_st (G := G) (A := A) (B := B) hs (by omega)
  obtain ⟨⟨a1, a2, a3⟩, -, c1, -⟩ := hK.ends ho
  obtain ⟨-, ⟨b1, b2, b3⟩, -⟩ := hK.ends hs
  subst hx
  intro J hJ
  have tail : ∀ w : Int, w = wk ap → J (ii w) := by
    intro w hw
    apply hJ
    refine P.rI ko rfl ?_
    refine P.rR (k := 1) rfl rfl ?_
    refine P.rI ko rfl ?_
    refine P.rI ks rfl ?_
    refine ⟨P.o (k := 2) rfl, ?_⟩
    refine P.loss hK (a := (S (70 + o) 1).toNat) (b := (S (70 + s) 2).toNat) (by rw [Int.toNat_of_nonneg a1]) (by rw [Int.toNat_of_nonneg b1]) (by omega) (by omega) ?_
    rw [ii_sub, ii_sub, a3, b3, c1, hw]
    exact q
  rw [il_0, il_1, il_300, il_500, ii_eq ⟨by omega, by omega⟩ ⟨by decide, by decide⟩, ii_eq ⟨by omega, by omega⟩ ⟨by decide, by decide⟩]
  refine ⟨fun c => ⟨fun c2 => tail _ ?_, fun c2 => tail _ ?_⟩, fun c => tail _ ?_⟩
  · unfold wk; rw [if_neg c, if_neg c2]
  · unfold wk; rw [if_neg c, if_pos c2]
  · unfold wk; rw [if_pos c]
theorem tog_of {a b : Int} (h1 : -100000 ≤ a ∧ a ≤ 100000) (h2 : -100000 ≤ b ∧ b ≤ 100000) {post : Int32 → Prop} (q : post (ii (tog a b))) : wp_X0_together G (ii a) (ii b) h post := by
  refine ⟨by decide, ?_⟩
  have hab : 0 ≤ ab (a - b) ∧ ab (a - b) ≤ 200000 := by unfold ab; omega
  rw [ii_mx ⟨by omega, by omega⟩ ⟨by omega, by omega⟩, ii_sub, ii_ab ⟨by omega, by omega⟩, il_4, ii_div ⟨by omega, by omega⟩ ⟨by omega, by omega⟩ (by omega), tdv hab.1, il_30, ii_sub, il_0, ii_mx ⟨by omega, by omega⟩ ⟨by omega, by omega⟩, ii_add]
  exact q
/-- channels are -1 .. 7 -/
def chs (ch : Nat → Int) : Prop := ∀ i, -1 ≤ ch i ∧ ch i ≤ 7
theorem Pic.allHarm (P : Pic G A B S h) (hK : KI S) {s r : Nat} (hs1 : (s : Int) < S 51 2) (hr : r = 12 ∨ r = 29) (hc : chs (S (r + 20))) {post : Int32 → Prop} (q : post (ii (match hs (EC S) s (S (r + 20)) (nt (EC S)) with | none => -1000000 | some a => a))) : wp_X0_allHarm G (A 1) (A (70 + s)) (A r) h post := by
  have h8 := hK.1.1.2.2.1
  have h0 := hK.1.1.2.1
  have ks := ctn_st (G := G) (A := A) (B := B) hs1 (by omega)
  have hr30 : 10 ≤ r ∧ r < 30 := by omega
  have hrl : rl r = 8 := by rcases hr with rfl | rfl <;> rfl
  have hn : S 51 2 = ((nt (EC S) : Nat) : Int) := by show S 51 2 = (((S 51 2).toNat : Nat) : Int); omega
  have hnum : S (70 + s) 0 = s := (hK.ends hs1).2.2.2.2.1
  intro J hJ
  have main : ∀ i : Nat, i ≤ nt (EC S) → J (ii (match hs (EC S) s (S (r + 20)) i with | none => -1000000 | some a => a)) (ii (i : Int)) := by
    intro i hi
    refine lp_up (J := fun i : Nat => J (ii (match hs (EC S) s (S (r + 20)) i with | none => -1000000 | some a => a)) (ii (i : Int))) (n := nt (EC S)) ?_ ?_ hi
    · apply hJ
      refine P.nT ?_
      rw [hn, ii_le ⟨by omega, by omega⟩ ⟨by omega, by omega⟩]
      exact ⟨fun _ => q, fun c => absurd (Int.le_refl _) c⟩
    · intro i hi ih
      apply hJ
      refine P.nT ?_
      rw [hn, ii_le ⟨by omega, by omega⟩ ⟨by omega, by omega⟩]
      refine ⟨fun c => absurd c (by omega), fun _ => ?_⟩
      refine P.gT hK.1.1 rfl (by omega) ?_
      refine ⟨P.o (ctn_r hr30.1 hr30.2), P.at hr30.1 ⟨hr30.2, rfl⟩ rfl (by omega) ?_⟩
      refine P.rI ks rfl ?_
      rw [hnum]
      refine ⟨P.o (ctn_r hr30.1 hr30.2), P.at hr30.1 ⟨hr30.2, rfl⟩ rfl (by omega) ?_⟩
      have ci := hc i
      have cs := hc s
      have hab : 0 ≤ ab (S (r + 20) i - S (r + 20) s) ∧ ab (S (r + 20) i - S (r + 20) s) ≤ 8 := by unfold ab; omega
      intro J2 hJ2
      have skip : nrm (S (r + 20)) s i = false → J2 (ii (match hs (EC S) s (S (r + 20)) i with | none => -1000000 | some a => a)) := by
        intro e
        apply hJ2
        rw [ii_inc']
        have e2 : hs (EC S) s (S (r + 20)) (i + 1) = hs (EC S) s (S (r + 20)) i := by show (if nrm (S (r + 20)) s i = true then _ else _) = _; rw [e]; rfl
        rw [e2] at ih
        exact ih
      refine ⟨fun c => skip ?_, fun c => ?_⟩
      · have : i = s := by
          have ki := ctn_st (G := G) (A := A) (B := B) (j := i) (S := S) (by omega) (by omega)
          have := P.2.1 (70 + i) (70 + s) _ _ ki ks c
          omega
        unfold nrm; exact decide_eq_false (fun z => z.1 this)
      have hne : i ≠ s := fun z => c (by rw [z])
      refine ⟨P.o (ctn_r hr30.1 hr30.2), P.at hr30.1 ⟨hr30.2, rfl⟩ rfl (by omega) ?_⟩
      rw [il_m1, ii_eq ⟨by omega, by omega⟩ ⟨by decide, by decide⟩, ii_sub, ii_ab ⟨by omega, by omega⟩, il_3, ii_le ⟨by decide, by decide⟩ ⟨by omega, by omega⟩]
      refine ⟨fun c2 => skip ?_, fun c2 => ⟨fun c3 => skip ?_, fun c3 => ?_⟩⟩
      · unfold nrm; exact decide_eq_false (fun z => z.2.1 c2)
      · unfold nrm; exact decide_eq_false (fun z => absurd z.2.2 (by omega))
      · have e : nrm (S (r + 20)) s i = true := decide_eq_true ⟨hne, c2, by omega⟩
        refine ⟨P.o (k := 1) rfl, ?_⟩
        refine P.harmOf hK (by omega) hs1 (ap := ab (S (r + 20) i - S (r + 20) s)) ⟨by omega, by omega⟩ rfl ?_
        have hm := hmE_le hK.1.2.1 i s (ab (S (r + 20) i - S (r + 20) s))
        intro J3 hJ3
        have e2 : hs (EC S) s (S (r + 20)) (i + 1) = (match hs (EC S) s (S (r + 20)) i with | none => some (hmE (EC S) i s (ab (S (r + 20) i - S (r + 20) s))) | some a => some (tog a (hmE (EC S) i s (ab (S (r + 20) i - S (r + 20) s))))) := by show (if nrm (S (r + 20)) s i = true then _ else _) = _; rw [e]; rfl
        rw [e2] at ih
        cases hh : hs (EC S) s (S (r + 20)) i with
        | none =>
          rw [hh] at ih
          refine ⟨fun c4 => absurd (by rw [il_m6]) c4, fun _ => ?_⟩
          apply hJ3
          apply hJ2
          rw [ii_inc']
          exact ih
        | some a =>
          rw [hh] at ih
          have ha := hs_le hK.1.2.1 s (S (r + 20)) i a hh
          dsimp only at ih ⊢
          rw [il_m6, ii_eq ⟨by omega, by omega⟩ ⟨by decide, by decide⟩]
          refine ⟨fun _ => ?_, fun c4 => by omega⟩
          refine tog_of ⟨by omega, by omega⟩ ⟨by omega, by omega⟩ ?_
          apply hJ3
          apply hJ2
          rw [ii_inc']
          exact ih
  exact main 0 (by omega)
theorem bI_0 {b : Bool} : ii (bI b) = 0 ↔ b = false := by cases b <;> decide
theorem bI_1 {b : Bool} : ¬ ii (bI b) = 0 ↔ b = true := by cases b <;> decide
theorem Pic.keeps (P : Pic G A B S h) (hK : KI S) {s r : Nat} (hs1 : (s : Int) < S 51 2) (hr : r = 12 ∨ r = 29) (hc : chs (S (r + 20))) {post : Int32 → Prop} (q : post (ii (bI (kp (EC S) s (S (r + 20)))))) : wp_X0_keepsLevel G (A 1) (A (70 + s)) (A r) h post := by
  refine ⟨P.o (k := 1) rfl, ?_⟩
  refine P.allHarm hK hs1 hr hc ?_
  intro J hJ
  cases hh : hs (EC S) s (S (r + 20)) (nt (EC S)) with
  | none =>
    refine ⟨fun _ => ?_, fun c => absurd (by rw [il_m6]) c⟩
    apply hJ
    have : kp (EC S) s (S (r + 20)) = true := by unfold kp; rw [hh]
    rw [this] at q
    exact q
  | some a =>
    have ha := hs_le hK.1.2.1 s (S (r + 20)) _ a hh
    have hn : nt (EC S) ≤ 8 := by have := hK.1.1.2.2.1; show (S 51 2).toNat ≤ 8; omega
    have hl := lvE_le hK.1.2.1 s
    have hra := hK.1.2.1.2.2.2.2.2.2.2.2.1
    dsimp only
    rw [il_m6, ii_eq ⟨by omega, by omega⟩ ⟨by decide, by decide⟩]
    refine ⟨fun c => by omega, fun _ => ?_⟩
    refine ⟨P.o (k := 1) rfl, ?_⟩
    refine P.level hK hs1 ?_
    refine P.rI (k := 1) rfl rfl ?_
    have e0 : EC S 8 0 = S 1 2 := rfl
    have ek : kp (EC S) s (S (r + 20)) = decide (EC S 8 0 ≤ lvE (EC S) s - a) := by unfold kp; rw [hh]
    rw [ek] at q
    rw [ii_sub, ii_lt ⟨by omega, by omega⟩ ⟨by omega, by omega⟩]
    refine ⟨fun c => ?_, fun c => ?_⟩
    · rw [decide_eq_false (by omega)] at q; exact q
    · apply hJ
      rw [decide_eq_true (by omega)] at q; exact q
theorem Pic.allKeep (P : Pic G A B S h) (hK : KI S) {r : Nat} (hr : r = 12 ∨ r = 29) (hc : chs (S (r + 20))) {post : Int32 → Prop} (q1 : alk (EC S) (S (r + 20)) → post 1) (q0 : ¬ alk (EC S) (S (r + 20)) → post 0) : wp_X0_allKeep G (A 1) (A r) h post := by
  have h8 := hK.1.1.2.2.1
  have h0 := hK.1.1.2.1
  have hr30 : 10 ≤ r ∧ r < 30 := by omega
  have hrl : rl r = 8 := by rcases hr with rfl | rfl <;> rfl
  have hn : S 51 2 = ((nt (EC S) : Nat) : Int) := by show S 51 2 = (((S 51 2).toNat : Nat) : Int); omega
  intro J hJ
  have main : ∀ i : Nat, i ≤ nt (EC S) → (∀ j, j < i → EC S 7 j = 1 → S (r + 20) j ≠ -1 → kp (EC S) j (S (r + 20)) = true) → J (ii (i : Int)) := by
    intro i hi
    refine lp_up (J := fun i : Nat => (∀ j, j < i → EC S 7 j = 1 → S (r + 20) j ≠ -1 → kp (EC S) j (S (r + 20)) = true) → J (ii (i : Int))) (n := nt (EC S)) ?_ ?_ hi
    · intro g
      apply hJ
      refine P.nT ?_
      rw [hn, ii_le ⟨by omega, by omega⟩ ⟨by omega, by omega⟩]
      exact ⟨fun _ => q1 g, fun c => absurd (Int.le_refl _) c⟩
    · intro i hi ih g
      apply hJ
      refine P.nT ?_
      rw [hn, ii_le ⟨by omega, by omega⟩ ⟨by omega, by omega⟩]
      refine ⟨fun c => absurd c (by omega), fun _ => ?_⟩
      have ki := ctn_st (G := G) (A := A) (B := B) (j := i) (S := S) (by omega) (by omega)
      obtain ⟨-, -, -, e7, -, hi8⟩ := hK.ends (j := i) (by omega)
      refine P.gT hK.1.1 rfl (by omega) ?_
      refine P.rI ki rfl ?_
      rw [e7]
      have p01 := hK.1.2.1.2.2.2.2.2.2.2.1 i
      intro J2 hJ2
      have go : (EC S 7 i = 1 → S (r + 20) i ≠ -1 → kp (EC S) i (S (r + 20)) = true) → J2 := by
        intro z
        apply hJ2
        rw [ii_inc']
        refine ih (fun j hj => ?_)
        by_cases c : j = i
        · subst c; exact z
        · exact g j (by omega)
      rw [il_0, ii_eq ⟨by omega, by omega⟩ ⟨by decide, by decide⟩]
      refine ⟨fun c => go (fun z => by omega), fun c => ?_⟩
      refine ⟨P.o (ctn_r hr30.1 hr30.2), P.at hr30.1 ⟨hr30.2, rfl⟩ rfl (by omega) ?_⟩
      have ci := hc i
      rw [il_m1, ii_eq ⟨by omega, by omega⟩ ⟨by decide, by decide⟩]
      refine ⟨fun c2 => go (fun _ z => absurd c2 z), fun c2 => ?_⟩
      refine ⟨P.o (k := 1) rfl, ?_⟩
      refine P.keeps hK (by omega) hr hc ?_
      rw [← il_0, bI_1, bI_0]
      refine ⟨fun c3 => go (fun _ _ => c3), fun c3 => ?_⟩
      refine q0 (fun z => ?_)
      have := z i hi (by omega) c2
      rw [c3] at this
      cases this
  exact main 0 (by omega) (fun j hj => by omega)
theorem Pic.suffers (P : Pic G A B S h) (hK : KI S) {s o : Nat} (hs1 : (s : Int) < S 51 2) (ho : (o : Int) < S 51 2) {ap : Int} (hap : 0 ≤ ap ∧ ap ≤ 1000) {x : Int32} (hx : x = ii ap) {post : Int32 → Prop} (q : post (ii (bI (decide (ap < 3) && sf1 (EC S) s o ap)))) : wp_X0_suffers G (A 1) (A (70 + s)) (A (70 + o)) x h post := by
  have h8 := hK.1.1.2.2.1
  have ks := ctn_st (G := G) (A := A) (B := B) hs1 (by omega)
  obtain ⟨-, -, -, e7, -, -⟩ := hK.ends hs1
  have p01 := hK.1.2.1.2.2.2.2.2.2.2.1 s
  have hm := hmE_le hK.1.2.1 o s ap
  have hl := lvE_le hK.1.2.1 s
  have hra := hK.1.2.1.2.2.2.2.2.2.2.2.1
  have e0 : EC S 8 0 = S 1 2 := rfl
  subst hx
  refine P.rI ks rfl ?_
  intro J hJ
  have no : (decide (ap < 3) && sf1 (EC S) s o ap) = false → J := by
    intro z
    apply hJ
    rw [z] at q
    exact q
  rw [e7, il_0, ii_eq ⟨by omega, by omega⟩ ⟨by decide, by decide⟩, il_3, ii_le ⟨by decide, by decide⟩ ⟨by omega, by omega⟩]
  refine ⟨fun c => no ?_, fun c => ⟨fun c2 => no ?_, fun c2 => ?_⟩⟩
  · unfold sf1; rw [decide_eq_false (p := EC S 7 s = 1) (by omega)]; simp
  · rw [decide_eq_false (by omega)]; rfl
  · refine ⟨P.o (k := 1) rfl, P.level hK hs1 ?_⟩
    refine ⟨P.o (k := 1) rfl, P.harmOf hK ho hs1 ⟨hap.1, by omega⟩ rfl ?_⟩
    refine P.rI (k := 1) rfl rfl ?_
    rw [ii_sub, ii_le ⟨by omega, by omega⟩ ⟨by omega, by omega⟩]
    refine ⟨fun c3 => no ?_, fun c3 => ?_⟩
    · unfold sf1; rw [decide_eq_false (p := lvE (EC S) s - hmE (EC S) o s ap < EC S 8 0) (by omega)]; simp
    · have : (decide (ap < 3) && sf1 (EC S) s o ap) = true := by
        unfold sf1; rw [decide_eq_true (by omega), decide_eq_true (by omega), decide_eq_true (by omega)]; rfl
      rw [this] at q
      exact q
theorem Pic.bar (P : Pic G A B S h) (hK : KI S) {a b : Nat} (ha : (a : Int) < S 51 2) (hb : (b : Int) < S 51 2) {ap : Int} (hap : 0 ≤ ap ∧ ap ≤ 1000) {x : Int32} (hx : x = ii ap) {post : Int32 → Prop} (q : post (ii (bI (brA (EC S) a b ap)))) : wp_X0_barEachOther G (A 1) (A (70 + a)) (A (70 + b)) x h post := by
  refine ⟨P.o (k := 1) rfl, P.suffers hK ha hb hap hx ?_⟩
  intro J hJ
  rw [bI_1, bI_0]
  unfold brA at q
  refine ⟨fun c => ?_, fun c => ?_⟩
  · apply hJ
    rw [Bool.and_or_distrib_left, c, Bool.true_or] at q
    exact q
  · refine ⟨P.o (k := 1) rfl, P.suffers hK hb ha hap hx ?_⟩
    rw [Bool.and_or_distrib_left, c, Bool.false_or] at q
    rw [bI_1, bI_0]
    refine ⟨fun c2 => ?_, fun c2 => ?_⟩
    · rw [c2] at q; exact q
    · apply hJ
      rw [c2] at q; exact q
end CA
