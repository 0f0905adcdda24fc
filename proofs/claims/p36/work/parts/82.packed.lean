/-! packings bar nobody; none of fewer channels is there where a wider one is not -/
theorem okp_C {E : Nat → Nat → Int} {m : Nat → Bool} {C D : Int} {s : Nat} {p : Nat → Int} (h : C ≤ D) (q : okp E m C s p) : okp E m D s p := by
  obtain ⟨p', h1, h2⟩ := q
  exact ⟨p', h1, fun t a b d => ⟨⟨(h2 t a b d).1.1, by have := (h2 t a b d).1.2; omega⟩, (h2 t a b d).2⟩⟩
section PAC
variable {G : Gx} {A : Nat → Nat} {B : Nat → Nat → Nat} {S : Nat → Nat → Int} {h : hw} {c : Nat} {post : Int32 → hw → Prop}
theorem vi_pm (I : VI G S c) {j : Nat} (hj : j < 6) (e : prt G j = true) : prm (EC S) j = true := by
  have n6 := vi_nt I
  unfold prm; rw [decide_eq_true ((vi_p1 I hj).mpr e), decide_eq_true (by omega)]; rfl
theorem Pic.packs (P : Pic G A B S h) (I : VI G S c) (hL : GsL G ≤ 260) {bc bs : Nat} (hbc : 3000 ≤ bc) (hbs : 20000 ≤ bs) (q : ∀ S' h', Pic G A B S' h' → VI G S' c → FR S S' → post 1 h') : wp_L_arePacked G (A 0) (Gsb G) h bc bs post := by
  obtain ⟨E, hE⟩ : ∃ E, E = EC S := ⟨_, rfl⟩
  obtain ⟨S0, hS0⟩ : ∃ S0, S0 = S := ⟨_, rfl⟩
  rw [← hS0] at q
  have ef : ∀ {S1 : Nat → Nat → Int}, FR S0 S1 → EC S1 = E := fun f => by rw [f.ec, hS0, hE]
  intro J hJ
  have m1 : ∀ n : Nat, n ≤ 8 → ∀ (b0 : Bool) (S : Nat → Nat → Int) (h : hw) (uc us : Nat), Pic G A B S h → VI G S c → FR S0 S → (b0 = true → okp E (prm E) (n : Int) 0 (fun _ => -1)) → uc ≤ 340 * n → us ≤ 2400 * n → J 1 (ii (bI b0)) (ii ((n + 1 : Nat) : Int)) h uc us := by
    intro n hn
    refine lp_up (J := fun n : Nat => ∀ (b0 : Bool) (S : Nat → Nat → Int) (h : hw) (uc us : Nat), Pic G A B S h → VI G S c → FR S0 S → (b0 = true → okp E (prm E) (n : Int) 0 (fun _ => -1)) → uc ≤ 340 * n → us ≤ 2400 * n → J 1 (ii (bI b0)) (ii ((n + 1 : Nat) : Int)) h uc us) (n := 8) ?_ ?_ hn
    · intro b0 S h uc us P I f _ hu hs
      exact hJ _ _ _ _ _ _ ⟨fun _ => ⟨by omega, by omega, Or.inr rfl, q S h P I f⟩, fun z => absurd (by decide) z⟩
    · intro n hn ih b0 S h uc us P I f hb0 hu hs
      have e := ef f
      refine hJ _ _ _ _ _ _ ?_
      rw [lei (m := 9) (by decide) (by decide) (by omega), ii_inc' (n + 1)]
      refine ⟨fun z => absurd z (by omega), fun _ => ⟨fun z => absurd z (by decide), fun _ => ⟨by omega, by omega, ?_⟩⟩⟩
      refine P.a27 I (C := n + 1) ⟨by omega, by omega⟩ rfl (fun b hb S1 h1 P1 I1 f1 => ?_)
      rw [e] at hb
      have f1 := f.tr f1
      intro J36 h36
      refine tb1 (X := J36) (h36 _ ?_)
      intro J52 h52 J47 h47
      have g : J47 := by
        refine h47 (h52 1 ?_)
        intro J59 h59
        have m2 : ∀ a : Nat, a ≤ 6 → ∀ (S : Nat → Nat → Int) (h : hw) (uc us : Nat), Pic G A B S h → VI G S c → FR S0 S → uc ≤ 340 * n + 5 + 55 * a → us ≤ 2400 * n + 34 + 374 * a → J59 1 (ii (a : Int)) h uc us := by
          intro a ha
          refine lp_up (J := fun a : Nat => ∀ (S : Nat → Nat → Int) (h : hw) (uc us : Nat), Pic G A B S h → VI G S c → FR S0 S → uc ≤ 340 * n + 5 + 55 * a → us ≤ 2400 * n + 34 + 374 * a → J59 1 (ii (a : Int)) h uc us) (n := 6) ?_ ?_ ha
          · intro S h uc us P I f hu hs
            refine h59 _ _ _ _ _ ?_
            intro J222 h222
            have g : J222 := h222 (ih b S h _ _ P I f hb.mp (by omega) (by omega))
            exact ⟨fun _ => g, fun z => absurd (by decide) z⟩
          · intro a ha ih2 S h uc us P I f hu hs
            have e := ef f
            refine h59 _ _ _ _ _ ?_
            intro J222 h222
            rw [lei (m := 6) (by decide) (by decide) (by omega), ii_inc' a]
            refine ⟨fun z => absurd z (by omega), fun _ => ⟨fun z => absurd z (by decide), fun _ => ⟨by omega, by omega, ?_⟩⟩⟩
            refine P.a28 I (C := n + 1) ⟨by omega, by omega⟩ ha rfl rfl (fun v rv va vb vc S2 h2 P2 I2 f2 => ?_)
            rw [e] at vb vc
            have f2 := f.tr f2
            refine isProt_of hL (by omega) rfl ?_
            intro J145 h145
            have g : J145 1 := by
              refine h145 1 ?_
              intro J149 h149
              have m3 : ∀ d : Nat, d ≤ a → ∀ (S : Nat → Nat → Int) (h : hw) (uc us : Nat), Pic G A B S h → VI G S c → FR S0 S → uc ≤ 340 * n + 5 + 55 * a + 5 + 10 * d → us ≤ 2400 * n + 34 + 374 * a + 34 + 68 * d → J149 1 (ii (d : Int)) h uc us := by
                intro d hd
                refine lp_up (J := fun d : Nat => ∀ (S : Nat → Nat → Int) (h : hw) (uc us : Nat), Pic G A B S h → VI G S c → FR S0 S → uc ≤ 340 * n + 5 + 55 * a + 5 + 10 * d → us ≤ 2400 * n + 34 + 374 * a + 34 + 68 * d → J149 1 (ii (d : Int)) h uc us) (n := a) ?_ ?_ hd
                · intro S h uc us P I f hu hs
                  refine h149 _ _ _ _ _ ?_
                  intro J216 h216
                  have g : J216 := h216 (ih2 S h _ _ P I f (by omega) (by omega))
                  exact ⟨fun _ => g, fun z => absurd (by rw [ii_le ⟨by omega, by omega⟩ ⟨by omega, by omega⟩]; exact Int.le_refl _) z⟩
                · intro d hd ih3 S h uc us P I f hu hs
                  have e := ef f
                  refine h149 _ _ _ _ _ ?_
                  intro J216 h216
                  have g0 : J216 := h216 (ih2 S h _ _ P I f (by omega) (by omega))
                  rw [lei (m := a) rfl (by omega) (by omega), ii_inc' d]
                  refine ⟨fun z => absurd z (by omega), fun _ => ⟨fun z => absurd z (by decide), fun _ => ⟨fun _ => g0, fun hb1 => ⟨fun _ => g0, fun hv => ?_⟩⟩⟩⟩
                  rw [iilt (a := v) (b := 0) rfl il_0 rv ⟨by omega, by omega⟩] at hv
                  have hbt : b = true := bI_1.mp hb1
                  have ok := hb.mp hbt
                  refine isProt_of hL (by omega) rfl ?_
                  intro J209 h209 J204 h204
                  have g4 : ∀ S h uc us, Pic G A B S h → VI G S c → FR S0 S → uc ≤ 340 * n + 5 + 55 * a + 5 + 10 * (d + 1) → us ≤ 2400 * n + 34 + 374 * a + 34 + 68 * (d + 1) → J204 h uc us := fun S h uc us P I f hu hs => h204 _ _ _ (h209 _ _ _ _ (ih3 S h uc us P I f hu hs))
                  refine ⟨fun _ => g4 S h uc us P I f (by omega) (by omega), fun pd1 => ⟨by omega, by omega, ?_⟩⟩
                  have pd : prt G d = true := bI_1.mp pd1
                  have pa : prt G a = true := by
                    cases y : prt G a with
                    | true => rfl
                    | false => have := va y; omega
                  obtain ⟨p, fp, rfl, v0, v1⟩ := vc pa ok
                  refine P.a28 I (C := n + 1) ⟨by omega, by omega⟩ (j := d) (by omega) rfl rfl (fun w rw_ wa wb wc S3 h3 P3 I3 f3 => ?_)
                  rw [e] at wc
                  have f3 := f.tr f3
                  have e3 := ef f3
                  obtain ⟨p', fp', rfl, w0, w1⟩ := wc pd ok
                  have ma : prm E a = true := by have := vi_pm I ha pa; rw [e] at this; exact this
                  have md : prm E d = true := by have := vi_pm I (j := d) (by omega) pd; rw [e] at this; exact this
                  have ep : p' d = p d := fst_one (fun i hi _ => by omega) fp' fp d (by omega) md
                  have nb : br2 E a (p a) d (p d) = false := (fp.2 a (by omega) (by omega) ma).2.1 d hd md
                  refine ⟨by omega, by omega, ?_⟩
                  refine P3.k24 I3 ha (b := d) (by omega) (by omega) (u := p a) (v := p' d) ⟨by omega, by omega⟩ ⟨by omega, by omega⟩ rfl rfl rfl rfl ?_
                  rw [e3, ep, nb]
                  exact ⟨fun z => absurd rfl z, fun _ => g4 S3 h3 _ _ P3 I3 f3 (by omega) (by omega)⟩
              exact m3 0 (by omega) S2 h2 _ _ P2 I2 f2 (by omega) (by omega)
            cases pa : prt G a with
            | false =>
              rw [va pa]
              exact ⟨fun z => absurd rfl z, fun _ => ⟨fun z => absurd (by decide) z, fun _ => g⟩⟩
            | true =>
              refine ⟨fun _ => ⟨fun z => ?_, fun z => ?_⟩, fun z => absurd z (by decide)⟩
              · have hbf : b = false := bI_0.mp z
                rw [vb pa (fun o => by rw [hb.mpr o] at hbf; cases hbf)]
                exact ⟨fun z => absurd (by decide) z, fun _ => g⟩
              · have ok := hb.mp (bI_1.mp z)
                obtain ⟨p, -, -, v0, v1⟩ := vc pa ok
                intro J128 _
                rw [iilt (a := v) (b := 0) rfl il_0 rv ⟨by omega, by omega⟩, iile (a := ((n + 1 : Nat) : Int)) (b := v) rfl rfl ⟨by omega, by omega⟩ rv]
                exact ⟨fun z => absurd z (by omega), fun _ => ⟨fun z => absurd z (by omega), fun _ => g⟩⟩
        exact m2 0 (by decide) S1 h1 _ _ P1 I1 f1 (by omega) (by omega)
      refine ⟨fun _ => g, fun z => ⟨fun z2 => ?_, fun _ => g⟩⟩
      have y : b0 = true := bI_1.mp z2
      rw [hb.mpr (okp_C (by omega) (hb0 y))] at z
      exact absurd z (by decide)
  exact m1 0 (by decide) false S h 0 0 P I (by rw [hS0]; exact FR.rf) (fun z => by cases z) (by decide) (by decide)
end PAC
