/-! what stands all through, once the land is built -/
def fxk (k : Nat) : Prop := k = 1 ∨ k = 7 ∨ k = 30 ∨ k = 31 ∨ k = 46 ∨ (50 ≤ k ∧ k < 80)
def FX (G : Gx) (S : Nat → Nat → Int) : Prop := KI S ∧ (∀ j, j < 8 → 0 ≤ S (70 + j) 5 ∧ S (70 + j) 5 ≤ 9999) ∧ BD S ∧ S 50 2 = 10 ∧ S 51 2 = 6 ∧ (∀ j, j < 6 → EC S 7 j = bI (prt G j)) ∧ (∀ j, j < 6 → S (70 + j) 5 = pk G (170 + j) 60) ∧ S 7 2 = 4 ∧ ∀ i, i < 4 → S 46 (i * 3) = pk G (190 + 3 * i) 90 ∧ S 46 (i * 3 + 1) = pk G (190 + 3 * i) 90 / 2 ∧ S 46 (i * 3 + 2) = pk G (190 + 3 * i) 90 / 3
def RGX (S : Nat → Nat → Int) (c : Nat) : Prop := RI S c ∧ (S 8 1 = 0 → alk (EC S) (S 32)) ∧ ∀ j, nt (EC S) ≤ j → j < 8 → S 32 j = -1
def SEX (S : Nat → Nat → Int) : Prop := FA S ∧ (∀ j, j < 8 → -1 ≤ S 42 j ∧ S 42 j ≤ 9999) ∧ (S 6 1 = 0 ∨ S 6 1 = 1) ∧ (0 ≤ S 6 2 ∧ S 6 2 ≤ 8) ∧ ∀ j, bt (ii (S 6 3)) j = true → j < nt (EC S) ∧ EC S 7 j = 1
def MVX (S : Nat → Nat → Int) : Prop := (S 8 1 = 0 ∨ S 8 1 = 1) ∧ ∀ j, j < 8 → -1 ≤ S 48 j ∧ S 48 j ≤ 16
def VI (G : Gx) (S : Nat → Nat → Int) (c : Nat) : Prop := FX G S ∧ RGX S c ∧ BR S ∧ SEX S ∧ FB S ∧ MVX S ∧ chs (S 39) ∧ chs (S 49)
section VIS
variable {G : Gx} {S S' : Nat → Nat → Int} {c : Nat}
theorem fx_kl (h : ∀ k, fxk k → S' k = S k) : ∀ k, kl k → S' k = S k := fun k hk => h k (by unfold kl at hk; unfold fxk; omega)
theorem fx_of (h : ∀ k, fxk k → S' k = S k) (F : FX G S) : FX G S' := by
  have eC : EC S' = EC S := EC_of (fx_kl h)
  have e7 : ∀ j, j < 10 → S' (70 + j) = S (70 + j) := fun j hj => h _ (by unfold fxk; omega)
  obtain ⟨f1, f2, f3, f4, f5, f6, f7, f8, f9⟩ := F
  refine ⟨f1.of (fx_kl h) (h 31 (by unfold fxk; omega)), fun j hj => ?_, ?_, ?_, ?_, fun j hj => ?_, fun j hj => ?_, ?_, fun i hi => ?_⟩
  · rw [e7 j (by omega)]; exact f2 j hj
  · unfold BD; rw [h 7 (by unfold fxk; omega), h 46 (by unfold fxk; omega)]; exact f3
  · rw [h 50 (by unfold fxk; omega)]; exact f4
  · rw [h 51 (by unfold fxk; omega)]; exact f5
  · rw [eC]; exact f6 j hj
  · rw [e7 j (by omega)]; exact f7 j hj
  · rw [h 7 (by unfold fxk; omega)]; exact f8
  · rw [h 46 (by unfold fxk; omega)]; exact f9 i hi
theorem rx_of (h : ∀ k, fxk k → S' k = S k) (h2 : ∀ k, kg k → S' k = S k) (h8 : S' 8 = S 8) (R : RGX S c) : RGX S' c := by
  have eC : EC S' = EC S := EC_of (fx_kl h)
  have e32 : S' 32 = S 32 := h2 32 (by unfold kg; omega)
  refine ⟨R.1.of h2, ?_, ?_⟩
  · rw [h8, eC, e32]; exact R.2.1
  · rw [eC, e32]; exact R.2.2
theorem br_of (h3 : S' 3 = S 3) (h36 : S' 36 = S 36) (h37 : S' 37 = S 37) (h38 : S' 38 = S 38) (b : BR S) : BR S' := by
  unfold BR; rw [h3, h36, h37, h38]; exact b
theorem se_of (h : ∀ k, fxk k → S' k = S k) (h6 : S' 6 = S 6) (h42 : S' 42 = S 42) (h43 : S' 43 = S 43) (s : SEX S) : SEX S' := by
  have eC : EC S' = EC S := EC_of (fx_kl h)
  unfold SEX FA; rw [h6, h42, h43, eC]; exact s
theorem fb_of (h7 : S' 7 = S 7) (h44 : S' 44 = S 44) (h45 : S' 45 = S 45) (h46 : S' 46 = S 46) (b : FB S) : FB S' := by
  unfold FB nB; rw [h7, h44, h45, h46]; exact b
theorem mv_of (h8 : S' 8 = S 8) (h48 : S' 48 = S 48) (b : MVX S) : MVX S' := by
  unfold MVX; rw [h8, h48]; exact b
/-- the keys that say nothing from call to call -/
def scr (k : Nat) : Prop := k = 5 ∨ k = 39 ∨ k = 40 ∨ k = 41 ∨ k = 49 ∨ k = 90
theorem vi_scr (I : VI G S c) (h : ∀ k, ¬ scr k → S' k = S k) (c39 : chs (S' 39)) (c49 : chs (S' 49)) : VI G S' c := by
  have e : ∀ k, k ≠ 5 → k ≠ 39 → k ≠ 40 → k ≠ 41 → k ≠ 49 → k ≠ 90 → S' k = S k := fun k a1 a2 a3 a4 a5 a6 => h k (by unfold scr; omega)
  have hf : ∀ k, fxk k → S' k = S k := fun k hk => e k (by unfold fxk at hk; omega) (by unfold fxk at hk; omega) (by unfold fxk at hk; omega) (by unfold fxk at hk; omega) (by unfold fxk at hk; omega) (by unfold fxk at hk; omega)
  have hg : ∀ k, kg k → S' k = S k := fun k hk => e k (by unfold kg at hk; omega) (by unfold kg at hk; omega) (by unfold kg at hk; omega) (by unfold kg at hk; omega) (by unfold kg at hk; omega) (by unfold kg at hk; omega)
  have el : ∀ k, k ≠ 5 ∧ k ≠ 39 ∧ k ≠ 40 ∧ k ≠ 41 ∧ k ≠ 49 ∧ k ≠ 90 → S' k = S k := fun k a => e k a.1 a.2.1 a.2.2.1 a.2.2.2.1 a.2.2.2.2.1 a.2.2.2.2.2
  obtain ⟨i1, i2, i3, i4, i5, i6, -, -⟩ := I
  exact ⟨fx_of hf i1, rx_of hf hg (el 8 (by decide)) i2, br_of (el 3 (by decide)) (el 36 (by decide)) (el 37 (by decide)) (el 38 (by decide)) i3, se_of hf (el 6 (by decide)) (el 42 (by decide)) (el 43 (by decide)) i4, fb_of (el 7 (by decide)) (el 44 (by decide)) (el 45 (by decide)) (el 46 (by decide)) i5, mv_of (el 8 (by decide)) (el 48 (by decide)) i6, c39, c49⟩
theorem vi_ki (I : VI G S c) : KI S := I.1.1
theorem vi_as (I : VI G S c) : ∀ j, j < 8 → 0 ≤ S (70 + j) 5 ∧ S (70 + j) 5 ≤ 9999 := I.1.2.1
theorem vi_bd (I : VI G S c) : BD S := I.1.2.2.1
theorem vi_50 (I : VI G S c) : S 50 2 = 10 := I.1.2.2.2.1
theorem vi_51 (I : VI G S c) : S 51 2 = 6 := I.1.2.2.2.2.1
theorem vi_pr (I : VI G S c) : ∀ j, j < 6 → EC S 7 j = bI (prt G j) := I.1.2.2.2.2.2.1
theorem vi_aj (I : VI G S c) : ∀ j, j < 6 → S (70 + j) 5 = pk G (170 + j) 60 := I.1.2.2.2.2.2.2.1
theorem vi_72 (I : VI G S c) : S 7 2 = 4 := I.1.2.2.2.2.2.2.2.1
theorem vi_wo (I : VI G S c) : ∀ i, i < 4 → S 46 (i * 3) = pk G (190 + 3 * i) 90 ∧ S 46 (i * 3 + 1) = pk G (190 + 3 * i) 90 / 2 ∧ S 46 (i * 3 + 2) = pk G (190 + 3 * i) 90 / 3 := I.1.2.2.2.2.2.2.2.2
theorem vi_ri (I : VI G S c) : RI S c := I.2.1.1
theorem vi_al (I : VI G S c) : S 8 1 = 0 → alk (EC S) (S 32) := I.2.1.2.1
theorem vi_of (I : VI G S c) : ∀ j, nt (EC S) ≤ j → j < 8 → S 32 j = -1 := I.2.1.2.2
theorem vi_br (I : VI G S c) : BR S := I.2.2.1
theorem vi_se (I : VI G S c) : SEX S := I.2.2.2.1
theorem vi_fb (I : VI G S c) : FB S := I.2.2.2.2.1
theorem vi_mv (I : VI G S c) : MVX S := I.2.2.2.2.2.1
theorem vi_39 (I : VI G S c) : chs (S 39) := I.2.2.2.2.2.2.1
theorem vi_49 (I : VI G S c) : chs (S 49) := I.2.2.2.2.2.2.2
theorem vi_32 (I : VI G S c) : chs (S 32) := I.2.1.1.2.2.2.1
theorem vi_nt (I : VI G S c) : nt (EC S) = 6 := by
  have := vi_51 I
  show (S 51 2).toNat = 6
  rw [this]; rfl
theorem vi_p1 (I : VI G S c) {j : Nat} (hj : j < 6) : EC S 7 j = 1 ↔ prt G j = true := by
  rw [vi_pr I j hj]
  cases prt G j <;> decide
theorem vi_day (I : VI G S c) (hc : c ≤ 511) : 0 ≤ S 3 1 ∧ S 3 1 ≤ 50589 := by
  have := (vi_ri I).today
  omega
theorem vi_st (I : VI G S c) {j : Nat} (hj : j < 6) : vst S (j : Int) := ⟨by omega, by rw [vi_51 I]; omega⟩
theorem vi_si (I : VI G S c) {j : Nat} (hj : j < 10) : vsi S (j : Int) := ⟨by omega, by rw [vi_50 I]; omega⟩
theorem rg_n {n : Nat} (h : n ≤ 100000) : rg (n : Int) := ⟨by omega, by omega⟩
end VIS
