/-! losses: the same both ways, none to itself, at least 200, by fours -/
theorem loss_f {E : Nat → Nat → Int} (hE : EOK E) {a b : Nat} (h : a ≠ b) : 200 ≤ lossE E a b ∧ (lossE E a b - 200) % 4 = 0 := by
  have k : ∀ x y : Nat, (lossO E x y - 200) % 4 = 0 := fun x y => by unfold lossO; omega
  unfold lossE
  rw [if_neg h]
  split
  · exact ⟨(lossO_le hE a b).1, k a b⟩
  · exact ⟨(lossO_le hE b a).1, k b a⟩
section LOS
variable {G : Gx} {A : Nat → Nat} {B : Nat → Nat → Nat} {S : Nat → Nat → Int} {h : hw} {c : Nat} {post : Int32 → hw → Prop}
theorem Pic.losses (P : Pic G A B S h) (I : VI G S c) {bc bs : Nat} (hbc : 1000 ≤ bc) (hbs : 6800 ≤ bs) (q : post 1 h) : wp_L_areLosses G (A 0) h bc bs post := by
  have hE := (vi_ki I).1.2.1
  intro J hJ
  have m1 : ∀ i, i ≤ 10 → ∀ uc us : Nat, uc ≤ 100 * i → us ≤ 680 * i → J 1 (ii (i : Int)) h uc us := by
    intro i hi
    refine lp_up (J := fun i : Nat => ∀ uc us : Nat, uc ≤ 100 * i → us ≤ 680 * i → J 1 (ii (i : Int)) h uc us) (n := 10) ?_ ?_ hi
    · intro uc us hu hs
      exact hJ _ _ _ _ _ ⟨fun _ => ⟨by omega, by omega, Or.inr rfl, q⟩, fun z => absurd (by decide) z⟩
    · intro i hi ih uc us hu hs
      refine hJ _ _ _ _ _ ?_
      rw [lei (m := 10) (by decide) (by decide) (by omega), ii_inc' i]
      refine ⟨fun z => absurd z (by omega), fun _ => ?_⟩
      intro J2 hJ2
      have m2 : ∀ j, j ≤ 10 → ∀ uc us : Nat, uc ≤ 100 * i + 10 * j → us ≤ 680 * i + 68 * j → J2 1 (ii (j : Int)) h uc us := by
        intro j hj
        refine lp_up (J := fun j : Nat => ∀ uc us : Nat, uc ≤ 100 * i + 10 * j → us ≤ 680 * i + 68 * j → J2 1 (ii (j : Int)) h uc us) (n := 10) ?_ ?_ hj
        · intro uc us hu hs
          exact hJ2 _ _ _ _ _ ⟨fun _ => ih _ _ (by omega) (by omega), fun z => absurd (by decide) z⟩
        · intro j hj ih2 uc us hu hs
          refine hJ2 _ _ _ _ _ ?_
          rw [lei (m := 10) (by decide) (by decide) (by omega), ii_inc' j]
          refine ⟨fun z => absurd z (by omega), fun _ => ⟨by omega, by omega, ?_⟩⟩
          refine P.k20 I hi hj rfl rfl ?_
          intro J82 h82 J81 h81
          refine ⟨fun z => absurd z (by decide), fun _ => ⟨by omega, by omega, ?_⟩⟩
          refine P.k20 I hj hi rfl rfl ?_
          rw [lossE_sym (a := j) (b := i)]
          refine ⟨fun z => absurd rfl z, fun _ => ?_⟩
          intro J77 h77
          have g : J77 := h77 (h82 _ _ _ _ (ih2 _ _ (by omega) (by omega)))
          have hr := lossE_le hE i j
          rw [iieq (b := (j : Int)) rfl ⟨by omega, by omega⟩ ⟨by omega, by omega⟩]
          refine ⟨fun z => ?_, fun z => ?_⟩
          · obtain ⟨f1, f2⟩ := loss_f hE (a := i) (b := j) (by omega)
            rw [iilt (a := lossE (EC S) i j) (b := 200) rfl il_200 ⟨by omega, by omega⟩ ⟨by omega, by omega⟩]
            refine ⟨fun z => absurd z (by omega), fun _ => ⟨by decide, ?_⟩⟩
            rw [show ii (lossE (EC S) i j) - 200 = ii (lossE (EC S) i j - 200) by rw [il_200, ii_sub], mod_of (m := 4) (by omega) ⟨by omega, by omega⟩ ⟨by decide, by decide⟩ il_4]
            have f2 : (lossE (EC S) i j - 200) % ((4 : Nat) : Int) = 0 := f2
            rw [f2]
            exact ⟨fun z => absurd rfl z, fun _ => g⟩
          · have e : i = j := by omega
            have e0 : lossE (EC S) i j = 0 := if_pos e
            rw [e0]
            exact ⟨fun z => absurd rfl z, fun _ => g⟩
      exact m2 0 (by decide) uc us (by omega) (by omega)
  exact m1 0 (by decide) 0 0 (by decide) (by decide)
end LOS
