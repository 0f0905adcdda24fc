/-! the law: setGround -/
theorem EM_cell {S S' : Nat → Nat → Int} {p : Nat} {g : Int} (hp : p < 400) (h : ∀ k, 106 ≤ k → k ≤ 112 → S' k = S k) (h80 : ∀ i, 2 ≤ i → i ≤ 4 → S' 80 i = S 80 i) (h105 : S' 105 = up (S 105) p g) (k i : Nat) : EM S' k i = if k = 3 ∧ i = p then g else EM S k i := by
  unfold EM
  rw [h 106 (by decide) (by decide), h 107 (by decide) (by decide), h 108 (by decide) (by decide), h 109 (by decide) (by decide), h 110 (by decide) (by decide), h 111 (by decide) (by decide), h 112 (by decide) (by decide), h105, h80 2 (by decide) (by decide), h80 3 (by decide) (by decide), h80 4 (by decide) (by decide)]
  by_cases k3 : k = 3
  · subst k3
    by_cases w : i = p
    · subst w
      rw [if_pos (show 3 = 3 ∧ i = i from ⟨rfl, rfl⟩)]
      show (if i < 400 then up (S 105) i g i else 0) = g
      rw [if_pos hp, up_at]
    · rw [if_neg (show ¬ (3 = 3 ∧ i = p) from fun z => w z.2)]
      show (if i < 400 then up (S 105) p g i else 0) = (if i < 400 then S 105 i else 0)
      rw [up_ne w]
  · rw [if_neg (show ¬ (k = 3 ∧ i = p) from fun z => k3 z.1), if_neg k3, if_neg k3]
section LWI
variable {G : Gx} {A : Nat → Nat} {B : Nat → Nat → Nat} {S : Nat → Nat → Int} {h : hw} {c : Nat}
variable {N : Nat} {xs : Nat → Int32} {i : Int32} {uc us : Nat} {J : hw → Nat → Nat → Prop}
theorem Pic.w192 (P : Pic G A B S h) (I : IV S c) (v1 : vp_in (i + 1) N) (v2 : vp_in (i + 2) N) (v3 : vp_in (i + 3) N) (hu : uc + 70 ≤ 603072) (hv : us + 48 * c + 260 ≤ 7219306) (q : CK G (A 0) (A 80) (A 90) (A 91) c uc us J) : wp_law_192 G N xs (A 0) (A 80) (A 90) (A 91) i h uc us J := by
  obtain ⟨z1, e1, r1⟩ := ii_ex (xs (Int32.toNatClampNeg (i + 1)))
  obtain ⟨z2, e2, r2⟩ := ii_ex (xs (Int32.toNatClampNeg (i + 2)))
  obtain ⟨z3, e3, r3⟩ := ii_ex (xs (Int32.toNatClampNeg (i + 3)))
  unfold wp_law_192
  rw [e1, e2, e3]
  refine ⟨v1, v2, v3, by omega, by omega, P.o (k := 0) rfl, ?_⟩
  have ao0 := alloff I (S2 := S) rfl rfl
  refine P.c_setGround I.ki I.dg I.ri.2.2.2.1 r1 r2 r3 (fun a b d s S1 h1 P1 k1 d1 f1 w1 => ?_) (fun a => ?_) (fun a b d => ?_) (fun a b d s => ?_)
  · have vb : 0 ≤ gix (EC S) z1 z2 ∧ gix (EC S) z1 z2 ≤ 99 := I.ki.1.2.1.2.2.2.1 _
    have vr : rg (gix (EC S) z1 z2) := ⟨by omega, by omega⟩
    refine P1.out vr (fun h2 P2 => ⟨v1, v2, v3, P2.o (k := 80) rfl, ?_⟩)
    obtain ⟨S2, hS2⟩ : ∃ S2, S2 = su S1 90 0 (gix (EC S) z1 z2) := ⟨_, rfl⟩
    rw [← hS2] at P2
    have e2 : ∀ k, k ≠ 90 → S2 k = S1 k := fun k x => by rw [hS2, su_row _ _ x]
    have f2 : ∀ k, k ≠ 30 → k ≠ 31 → k ≠ 90 → S2 k = S k := fun k x y w => by rw [e2 k w, f1 k x y]
    obtain ⟨mo2, eM2, eN2⟩ := I.mo.of (S' := S2) (fun k hk => f2 k (by omega) (by omega) (by omega))
    have ao := alloff I (f2 113 (by decide) (by decide) (by decide)) eN2
    refine P2.m_setGround mo2 r1 r2 r3 (fun _ _ _ _ h3 P3 => ?_) (fun a' => absurd ⟨a, b⟩ a') (fun _ _ d' => absurd d d') (fun _ _ _ s' => absurd (ao.mpr s) s')
    rw [eM2, I.eE]
    obtain ⟨S3, hS3⟩ : ∃ S3, S3 = su (su S2 80 0 0) 105 (20 * z2 + z1).toNat z3 := ⟨_, rfl⟩
    rw [← hS3] at P3
    have f3 : ∀ k, k ≠ 80 → k ≠ 105 → S3 k = S2 k := fun k x y => by rw [hS3, su_row _ _ y, su_row _ _ x]
    have g3 : ∀ k, k ≠ 30 → k ≠ 31 → k ≠ 90 → k ≠ 80 → k ≠ 105 → S3 k = S k := fun k a1 a2 a3 a4 a5 => by rw [f3 k a4 a5, f2 k a1 a2 a3]
    have g80 : ∀ i, i ≠ 0 → S3 80 i = S 80 i := fun i hi => by rw [hS3, su_row _ _ (by decide), su_nei _ _ _ hi, f2 80 (by decide) (by decide) (by decide)]
    have c30 : S3 30 = up (S 30) (z1 * 20 + z2).toNat z3 := by rw [f3 30 (by decide) (by decide), e2 30 (by decide), w1]
    have c3 := EC_30 (S := S) (g := z3) a b (S' := S3) (fun k hk kk => g3 k hk (by unfold kl at kk; omega) (by unfold kl at kk; omega) (by unfold kl at kk; omega) (by unfold kl at kk; omega)) c30
    have m3 := EM_cell (S := S) (S' := S3) (p := (20 * z2 + z1).toNat) (g := z3) (by omega) (fun k x y => g3 k (by omega) (by omega) (by omega) (by omega) (by omega)) (fun i x _ => g80 i (by omega)) (by rw [hS3, su_up, su_row _ _ (by decide), f2 105 (by decide) (by decide) (by decide)])
    have eE : EM S3 = EC S3 := funext fun k => funext fun i => by rw [m3 k i, c3 k i, I.eE]
    have eN : nt (EC S3) = nt (EC S) := by unfold nt; rw [c3, if_neg (fun z => absurd z.1 (by decide))]
    have eNM : ntM S3 = ntM S := by unfold ntM; rw [g80 4 (by decide)]
    have g8 := (nt8 I.ki).1
    have ki3 : KI S3 := k1.of (fun k kk => by rw [f3 k (by unfold kl at kk; omega) (by unfold kl at kk; omega), e2 k (by unfold kl at kk; omega)]) (by rw [f3 31 (by decide) (by decide), e2 31 (by decide)])
    have I3 : IV S3 c := ivLand I (fun k hk hs => g3 k (fun z => hk (by unfold lk; omega)) (fun z => hk (by unfold lk; omega)) (fun z => hs (by unfold scr; omega)) (fun z => hs (by unfold scr; omega)) (fun z => hk (by unfold lk; omega))) (fun i hi _ _ => g80 i hi) (I.pl.of (g3 130 (by decide) (by decide) (by decide) (by decide) (by decide)) (g3 131 (by decide) (by decide) (by decide) (by decide) (by decide))) (by rw [g3 39 (by decide) (by decide) (by decide) (by decide) (by decide)]; exact I.c39) (by rw [g3 49 (by decide) (by decide) (by decide) (by decide) (by decide)]; exact I.c49) ki3 (fun x hx => by rw [f3 31 (by decide) (by decide), e2 31 (by decide)]; exact d1 x hx) (by unfold L3; rw [g3 50 (by decide) (by decide) (by decide) (by decide) (by decide), g3 51 (by decide) (by decide) (by decide) (by decide) (by decide), g3 81 (by decide) (by decide) (by decide) (by decide) (by decide)]; exact I.l3) eE (by omega) (fun j _ => by rw [c3, if_neg (fun z => absurd z.1 (by decide))]) (fun j hj d => LM_of (g3 (170 + j) (by omega) (by omega) (by omega) (by omega) (by omega)) (g3 (190 + j) (by omega) (by omega) (by omega) (by omega) (by omega)) d) (fun j hj hj2 => by omega) (I.rgm.of (fun k hk => g3 k (by omega) (by omega) (by omega) (by omega) (by omega)) (g80 4 (by decide))) (fun s hs => Or.inl (by rw [g3 (170 + s) (by omega) (by omega) (by omega) (by omega) (by omega)]; exact ⟨rfl, rfl⟩)) (fun j hj => Or.inl (by rw [g3 (70 + j) (by omega) (by omega) (by omega) (by omega) (by omega)])) (fun _ i hi _ hc => absurd (s i (by omega)) hc)
    exact P3.tlJ (by rw [hS3, su_row _ _ (by decide), su_at]) vr (by rw [f3 90 (by decide) (by decide), hS2, su_at]) (q A B _ h3 _ _ P3 ⟨rfl, rfl, rfl, rfl⟩ I3.nx (by omega) (by omega))
  · refine ⟨fun z => absurd z (by decide), fun z => absurd z (by decide), fun _ => ⟨v1, v2, v3, P.o (k := 80) rfl, ?_⟩, Or.inr (Or.inr rfl)⟩
    exact P.m_setGround I.mo r1 r2 r3 (fun a' b' => absurd ⟨a', b'⟩ a) (fun _ h3 P3 => P3.endX I (Or.inl rfl) il_1 q (by omega) (by omega)) (fun a' b' => absurd ⟨a', b'⟩ a) (fun a' b' => absurd ⟨a', b'⟩ a)
  · refine ⟨fun _ => ⟨v1, v2, v3, P.o (k := 80) rfl, ?_⟩, fun z => absurd z (by decide), fun z => absurd z (by decide), Or.inl rfl⟩
    exact P.m_setGround I.mo r1 r2 r3 (fun _ _ d' => absurd d' d) (fun a' => absurd ⟨a, b⟩ a') (fun _ _ _ h3 P3 => P3.endX I (Or.inr (Or.inl rfl)) il_2 q (by omega) (by omega)) (fun _ _ d' => absurd d' d)
  · refine ⟨fun z => absurd z (by decide), fun _ => ⟨v1, v2, v3, P.o (k := 80) rfl, ?_⟩, fun z => absurd z (by decide), Or.inr (Or.inl rfl)⟩
    exact P.m_setGround I.mo r1 r2 r3 (fun _ _ _ s' => absurd (ao0.mp s') s) (fun a' => absurd ⟨a, b⟩ a') (fun _ _ d' => absurd d d') (fun _ _ _ _ h3 P3 => P3.endX I (Or.inr (Or.inr (Or.inl rfl))) il_3 q (by omega) (by omega))
end LWI
