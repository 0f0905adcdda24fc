/-! who is on keeps its level, and bars nobody, till there is a move -/
theorem fl_on : ∀ a : Nat, a < 7 → ((FP.fdiv (FP.i2f (ii (a : Int))) 1086324736 &&& 0x7fffffff ≤ 0x7f800000) ∧ Op.cmpValue (FP.fcmp (FP.fdiv (FP.i2f (ii (a : Int))) (FP.i2f (ii 6))) (FP.fdiv (FP.i2f (ii (a : Int))) 1086324736)) CmpOp.l = 0) := by decide +kernel
section KEP
variable {G : Gx} {A : Nat → Nat} {B : Nat → Nat → Nat} {S : Nat → Nat → Int} {h : hw} {c : Nat} {post : Int32 → hw → Prop} {xp : String → hw → Prop}
theorem cnt_86 (I : VI G S c) : cnt (onf S) 8 = cnt (onf S) 6 := by
  have n6 := vi_nt I
  have f : ∀ j, 6 ≤ j → j < 8 → onf S j = false := fun j h1 h2 => by
    unfold onf
    rw [vi_of I j (by omega) h2]; decide
  show cnt (onf S) 6 + bI (onf S 6) + bI (onf S 7) = _
  rw [f 6 (by decide) (by decide), f 7 (by decide) (by decide)]
  show cnt (onf S) 6 + 0 + 0 = _
  omega
theorem Pic.kept (P : Pic G A B S h) (I : VI G S c) (hc : c ≤ 511) (hL : GsL G ≤ 260) {w : Bool} (hw9 : w = false → S 8 1 = 0) {x y : Int32} (hx : x = ii (S 3 1)) (hy : y = ii (bI w)) {bc bs : Nat} (hbc : 700 ≤ bc) (hbs : 4800 ≤ bs) (q : post 1 h) : wp_L_areKept G (A 0) (Gsb G) x y h bc bs post xp := by
  subst hx hy
  have n6 := vi_nt I
  have c32 := vi_32 I
  have r32 : ∀ j, rg (S 32 j) := fun j => by have := c32 j; exact ⟨by omega, by omega⟩
  have rm1 : rg (-1) := ⟨by decide, by decide⟩
  refine ⟨P.o (k := 0) rfl, P.c_isSound (vi_ki I) hc (vi_ri I) (vi_bd I) (vi_fb I) (vi_se I).1 (vi_se I).2.1 (vi_mv I).1 (vi_al I) ?_⟩
  intro J hJ
  have m1 : ∀ i : Nat, i ≤ 6 → ∀ uc us : Nat, uc ≤ 115 * i → us ≤ 782 * i → J 1 (ii (cnt (onf S) i)) (ii (i : Int)) h uc us := by
    intro i hi
    refine lp_up (J := fun i : Nat => ∀ uc us : Nat, uc ≤ 115 * i → us ≤ 782 * i → J 1 (ii (cnt (onf S) i)) (ii (i : Int)) h uc us) (n := 6) ?_ ?_ hi
    · intro uc us hu hs
      refine hJ _ _ _ _ _ _ ?_
      intro J255 h255
      have g : J255 := by
        refine h255 ?_
        intro J278 _
        refine ⟨fun z => absurd z (by decide), fun _ => ⟨by omega, by omega, P.o (k := 0) rfl, ?_⟩⟩
        refine P.c_onShare (vi_ki I) c32 (fun _ => ?_) (fun z => absurd z (by rw [vi_51 I]; decide))
        have ct := cnt_in (onf S) 6
        rw [cnt_86 I, vi_51 I]
        obtain ⟨a, ha⟩ : ∃ a : Nat, cnt (onf S) 6 = a := ⟨(cnt (onf S) 6).toNat, by omega⟩
        obtain ⟨f1, f2⟩ := fl_on a (by omega)
        rw [ha]
        exact ⟨f1, fun z => absurd f2 z, fun _ => ⟨by omega, by omega, q⟩⟩
      exact ⟨fun _ => g, fun z => absurd (by decide) z⟩
    · intro i hi ih uc us hu hs
      refine hJ _ _ _ _ _ _ ?_
      intro J255 _
      rw [lei (m := 6) (by decide) (by decide) (by omega), ii_inc' i]
      refine ⟨fun z => absurd z (by omega), fun _ => ⟨fun z => absurd z (by decide), fun _ => ⟨by omega, by omega, ?_⟩⟩⟩
      refine P.k25 I hc hi rfl rfl ⟨by omega, by omega, ?_⟩
      refine P.a23 I hi rfl (fun v rv va vb => ⟨by omega, by omega, ?_⟩)
      refine P.a22 I hi rfl (fun u ru ua ub => ?_)
      intro J70 h70
      have g : J70 (ii (cnt (onf S) i)) (ii (bI (onf S i))) := by
        refine h70 _ _ (told_of rfl ?_)
        intro J144 h144
        have g1 : J144 1 := by
          refine h144 1 ?_
          intro J149 h149
          have e5 : ii (cnt (onf S) i) + ii (bI (onf S i)) = ii (cnt (onf S) (i + 1)) := by rw [ii_add]; rfl
          rw [e5] at h149
          have m2 : ∀ d : Nat, d ≤ i → ∀ uc us : Nat, uc ≤ 115 * i + 15 + 20 * d → us ≤ 782 * i + 102 + 136 * d → J149 1 (ii (d : Int)) h uc us := by
            intro d hd
            refine lp_up (J := fun d : Nat => ∀ uc us : Nat, uc ≤ 115 * i + 15 + 20 * d → us ≤ 782 * i + 102 + 136 * d → J149 1 (ii (d : Int)) h uc us) (n := i) ?_ ?_ hd
            · intro uc us hu hs
              refine h149 _ _ _ _ _ ?_
              intro J249 h249
              have g0 : J249 := h249 (ih _ _ (by omega) (by omega))
              exact ⟨fun _ => g0, fun z => absurd (by rw [ii_le ⟨by omega, by omega⟩ ⟨by omega, by omega⟩]; exact Int.le_refl _) z⟩
            · intro d hd ih2 uc us hu hs
              refine h149 _ _ _ _ _ ?_
              intro J249 h249
              have g0 : J249 := h249 (ih _ _ (by omega) (by omega))
              rw [lei (m := i) rfl (by omega) (by omega), ii_inc' d, iieq (a := S 32 i) il_m1 (r32 i) rm1]
              refine ⟨fun z => absurd z (by omega), fun _ => ⟨fun z => absurd z (by decide), fun _ => ⟨fun _ => g0, fun y1 => ⟨by omega, by omega, ?_⟩⟩⟩⟩
              refine P.k25 I hc (j := d) (by omega) rfl rfl ?_
              intro J241 h241 J236 h236
              have g4 : ∀ uc us, uc ≤ 115 * i + 15 + 20 * (d + 1) → us ≤ 782 * i + 102 + 136 * (d + 1) → J236 h uc us := fun uc us hu hs => h236 _ _ _ (h241 _ _ _ _ (ih2 uc us hu hs))
              rw [iieq (a := S 32 d) il_m1 (r32 d) rm1]
              refine ⟨fun _ => g4 _ _ (by omega) (by omega), fun y2 => ⟨by omega, by omega, ?_⟩⟩
              have ci := c32 i
              have cd := c32 d
              refine P.k24 I hi (b := d) (by omega) (by omega) (u := S 32 i) (v := S 32 d) ⟨by omega, by omega⟩ ⟨by omega, by omega⟩ rfl rfl rfl rfl ⟨by omega, by omega, ?_⟩
              refine P.k24 I (a := d) (b := i) (by omega) hi (by omega) (u := S 32 d) (v := S 32 i) ⟨by omega, by omega⟩ ⟨by omega, by omega⟩ rfl rfl rfl rfl ?_
              rw [br2_sym d (S 32 d) i (S 32 i)]
              intro J240 _
              refine ⟨fun z => absurd rfl z, fun _ => ⟨fun _ => g4 _ _ (by omega) (by omega), fun z3 => ⟨by omega, by omega, ?_⟩⟩⟩
              have nb : br2 (EC S) i (S 32 i) d (S 32 d) = false := alk_br (vi_al I (hw9 (bI_0.mp z3))) (by omega) (by omega) (by omega) y1 y2
              refine P.k24 I hi (b := d) (by omega) (by omega) (u := S 32 i) (v := S 32 d) ⟨by omega, by omega⟩ ⟨by omega, by omega⟩ rfl rfl rfl rfl ?_
              rw [nb]
              exact ⟨fun z => absurd rfl z, fun _ => g4 _ _ (by omega) (by omega)⟩
          exact m2 0 (by omega) _ _ (by omega) (by omega)
        rw [iieq (a := S 32 i) il_m1 (r32 i) rm1]
        refine ⟨fun y1 => ?_, fun y1 => ?_⟩
        · have ev := vb y1
          subst ev
          intro J143 _ J125 h125
          have g2 : J125 := by
            refine h125 ?_
            intro J139 h139
            have g3 : J139 := h139 g1
            rw [iieq (a := u) im5 ru ⟨by decide, by decide⟩]
            refine ⟨fun _ => g3, fun z5 => ?_⟩
            rw [ub y1 z5]
            exact ⟨fun z => absurd rfl z, fun _ => g3⟩
          refine ⟨fun _ => g2, fun z1 => ?_⟩
          refine isProt_of hL (by omega) rfl ⟨fun _ => g2, fun zp => ⟨fun z3 => ?_, fun _ => g2⟩⟩
          have kt := vi_al I (hw9 (bI_0.mp z3)) i (by omega) ((vi_p1 I hi).mpr (bI_1.mp zp)) y1
          rw [kt] at z1
          exact absurd rfl z1
        · have ev := va y1
          have eu := ua y1
          subst ev eu
          intro J102 _
          exact ⟨fun z => absurd im4.symm z, fun _ => ⟨fun z => absurd im4.symm z, fun _ => g1⟩⟩
      rw [iieq (a := S 32 i) il_m1 (r32 i) rm1]
      refine ⟨fun y1 => ?_, fun y1 => ?_⟩
      · have e : onf S i = false := by unfold onf; rw [y1]; decide
        rw [e] at g; exact g
      · have e : onf S i = true := decide_eq_true y1
        rw [e] at g; exact g
  exact m1 0 (by decide) 0 0 (by decide) (by decide)
end KEP
