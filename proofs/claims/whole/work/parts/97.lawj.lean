/-! the law: addSite -/
theorem up_lt {f : Nat → Int} {n m i : Nat} {v : Int} (hn : n < m) : (if i < m then up f n v i else 0) = if i = n then v else if i < m then f i else 0 := by
  by_cases w : i = n
  · subst w; rw [if_pos hn, if_pos rfl, up_at]
  · rw [if_neg w, up_ne w]
theorem EM_hi {S : Nat → Nat → Int} (k i : Nat) (hk : 8 ≤ k) : EM S k i = if i = 0 then S 80 2 else if i = 1 then S 80 4 else if i = 2 then S 80 3 else 0 := by
  unfold EM; rw [if_neg (show ¬ k = 0 by omega), if_neg (show ¬ k = 1 by omega), if_neg (show ¬ k = 2 by omega), if_neg (show ¬ k = 3 by omega), if_neg (show ¬ k = 4 by omega), if_neg (show ¬ k = 5 by omega), if_neg (show ¬ k = 6 by omega), if_neg (show ¬ k = 7 by omega)]
theorem EC_hi {S : Nat → Nat → Int} (k i : Nat) (hk : 8 ≤ k) : EC S k i = if i = 0 then S 1 2 else if i = 1 then S 51 2 else if i = 2 then S 50 2 else 0 := by
  unfold EC; rw [if_neg (show ¬ k = 0 by omega), if_neg (show ¬ k = 1 by omega), if_neg (show ¬ k = 2 by omega), if_neg (show ¬ k = 3 by omega), if_neg (show ¬ k = 4 by omega), if_neg (show ¬ k = 5 by omega), if_neg (show ¬ k = 6 by omega), if_neg (show ¬ k = 7 by omega)]
theorem EMC {S : Nat → Nat → Int} (a0 : S 80 2 = S 1 2) (a1 : S 80 4 = S 51 2) (a2 : S 80 3 = S 50 2) (hk : ∀ k, k < 8 → ∀ i, EM S k i = EC S k i) : EM S = EC S := by
  funext k i
  by_cases w : k < 8
  · exact hk k w i
  · rw [EM_hi k i (by omega), EC_hi k i (by omega), a0, a1, a2]
theorem k8 {k : Nat} (h : k < 8) : k = 0 ∨ k = 1 ∨ k = 2 ∨ k = 3 ∨ k = 4 ∨ k = 5 ∨ k = 6 ∨ k = 7 := by omega
section LWJ
variable {G : Gx} {A : Nat → Nat} {B : Nat → Nat → Nat} {S : Nat → Nat → Int} {h : hw} {c : Nat}
variable {N : Nat} {xs : Nat → Int32} {i : Int32} {uc us : Nat} {J : hw → Nat → Nat → Prop}
/-- one more site stands in both -/
theorem ivSite (I : IV S c) {S3 : Nat → Nat → Int} {z1 z2 z3 : Int} {n : Nat} (en : S 50 2 = (n : Int)) (hn : n < 10) (g3 : ∀ k, k ≠ 31 → k ≠ 90 → k ≠ 80 → k ≠ 106 → k ≠ 107 → k ≠ 108 → S3 k = lsu S 50 60 (siteR z1 z2 z3) k) (g80 : ∀ i, i ≠ 0 → i ≠ 3 → S3 80 i = S 80 i) (h803 : S3 80 3 = S 50 2 + 1) (h106 : S3 106 = up (S 106) n z1) (h107 : S3 107 = up (S 107) n z2) (h108 : S3 108 = up (S 108) n z3) (ki3 : KI S3) (dg3 : dg S3) : IV S3 c := by
  have f3 : ∀ k, k ≠ 31 → k ≠ 90 → k ≠ 80 → (k < 106 ∨ 108 < k) → k ≠ 50 → k ≠ 60 + n → S3 k = S k := fun k a1 a2 a3 a4 a5 a6 => by rw [g3 k a1 a2 a3 (by omega) (by omega) (by omega), lsu_k a5 (by omega)]
  have cC : EC S3 = EC (lsu S 50 60 (siteR z1 z2 z3)) := EC_of (fun k kk => g3 k (by unfold kl at kk; omega) (by unfold kl at kk; omega) (by unfold kl at kk; omega) (by unfold kl at kk; omega) (by unfold kl at kk; omega) (by unfold kl at kk; omega))
  have cs := EC_site (S := S) en hn (r := siteR z1 z2 z3)
  have s50 : S3 50 2 = S 50 2 + 1 := by rw [g3 50 (by decide) (by decide) (by decide) (by decide) (by decide) (by decide), lsu_2]
  have s503 : S3 50 3 = 10 := by rw [g3 50 (by decide) (by decide) (by decide) (by decide) (by decide) (by decide), lsu_3]
  have s51 : S3 51 = S 51 := f3 51 (by decide) (by decide) (by decide) (by decide) (by decide) (by omega)
  have eE : EM S3 = EC S3 := EMC (by rw [g80 2 (by decide) (by decide), f3 1 (by decide) (by decide) (by decide) (by decide) (by decide) (by omega)]; exact congrFun (congrFun I.eE 8) 0) (by rw [g80 4 (by decide) (by decide), s51]; exact I.n4) (by rw [h803, s50]) (fun k hk i => by
    rw [cC]
    rcases k8 hk with z | z | z | z | z | z | z | z <;> subst z
    · rw [cs.1 i, ← I.eE]
      show (if i < 10 then S3 106 i else 0) = if i = n then z1 else if i < 10 then S 106 i else 0
      rw [h106]; exact up_lt hn
    · rw [cs.2.1 i, ← I.eE]
      show (if i < 10 then S3 107 i else 0) = if i = n then z2 else if i < 10 then S 107 i else 0
      rw [h107]; exact up_lt hn
    · rw [cs.2.2.1 i, ← I.eE]
      show (if i < 10 then S3 108 i else 0) = if i = n then z3 else if i < 10 then S 108 i else 0
      rw [h108]; exact up_lt hn
    · rw [cs.2.2.2.1 3 (by decide) (by decide), ← I.eE]
      show (if i < 400 then S3 105 i else 0) = if i < 400 then S 105 i else 0
      rw [f3 105 (by decide) (by decide) (by decide) (by decide) (by decide) (by omega)]
    · rw [cs.2.2.2.1 4 (by decide) (by decide), ← I.eE]
      show (if i < 8 then S3 109 i else 0) = if i < 8 then S 109 i else 0
      rw [f3 109 (by decide) (by decide) (by decide) (by decide) (by decide) (by omega)]
    · rw [cs.2.2.2.1 5 (by decide) (by decide), ← I.eE]
      show (if i < 8 then S3 110 i else 0) = if i < 8 then S 110 i else 0
      rw [f3 110 (by decide) (by decide) (by decide) (by decide) (by decide) (by omega)]
    · rw [cs.2.2.2.1 6 (by decide) (by decide), ← I.eE]
      show (if i < 8 then S3 111 i else 0) = if i < 8 then S 111 i else 0
      rw [f3 111 (by decide) (by decide) (by decide) (by decide) (by decide) (by omega)]
    · rw [cs.2.2.2.1 7 (by decide) (by decide), ← I.eE]
      show (if i < 8 then S3 112 i else 0) = if i < 8 then S 112 i else 0
      rw [f3 112 (by decide) (by decide) (by decide) (by decide) (by decide) (by omega)])
  have eN : nt (EC S3) = nt (EC S) := by rw [cC]; unfold nt; rw [cs.2.2.2.2.2.1]
  have eNM : ntM S3 = ntM S := by unfold ntM; rw [g80 4 (by decide) (by decide)]
  obtain ⟨g8, gN⟩ := nt8 I.ki
  have o := I.ki.1.2.1
  have a4 : ∀ i, i < nt (EC S) → (EC S 4 i).toNat < n := fun i hi => by
    have w := (o.2.2.2.2.1 i).2.2 (show (i : Int) < S 51 2 by omega)
    have w0 := (o.2.2.2.2.1 i).1
    have e : EC S 8 2 = S 50 2 := rfl
    omega
  have a5 : ∀ i, i < nt (EC S) → (EC S 5 i).toNat < n := fun i hi => by
    have w := (o.2.2.2.2.2.1 i).2.2 (show (i : Int) < S 51 2 by omega)
    have w0 := (o.2.2.2.2.2.1 i).1
    have e : EC S 8 2 = S 50 2 := rfl
    omega
  have lo : ∀ a, a < n → ∀ k, k ≤ 2 → EC S3 k a = EC S k a := fun a ha k hk => by
    rw [cC]
    have : k = 0 ∨ k = 1 ∨ k = 2 := by omega
    rcases this with z | z | z <;> subst z
    · rw [cs.1, if_neg (by omega)]
    · rw [cs.2.1, if_neg (by omega)]
    · rw [cs.2.2.1, if_neg (by omega)]
  have hi : ∀ k, 3 ≤ k → k ≤ 7 → EC S3 k = EC S k := fun k a b => by rw [cC]; exact cs.2.2.2.1 k a b
  have row : ∀ k, 170 ≤ k → S3 k = S k := fun k hk => f3 k (by omega) (by omega) (by omega) (by omega) (by omega) (by omega)
  have sc : ∀ k, k = 39 ∨ k = 49 ∨ k = 81 ∨ k = 130 ∨ k = 131 → S3 k = S k := fun k hk => f3 k (by omega) (by omega) (by omega) (by omega) (by omega) (by omega)
  refine ivLand I (fun k hk hs => f3 k (fun z => hk (by unfold lk; omega)) (fun z => hs (by unfold scr; omega)) (fun z => hs (by unfold scr; omega)) (by unfold lk at hk; omega) (fun z => hk (by unfold lk; omega)) (fun z => hk (by unfold lk; omega))) (fun i a b _ => g80 i a b) (I.pl.of (sc 130 (by omega)) (sc 131 (by omega))) (by rw [sc 39 (by omega)]; exact I.c39) (by rw [sc 49 (by omega)]; exact I.c49) ki3 dg3 ?_ eE (by omega) (fun j _ => by rw [hi 7 (by decide) (by decide)]) (fun j hj d => LM_of (row _ (by omega)) (row _ (by omega)) d) (fun j _ _ => by omega) ?_ (fun s _ => Or.inl (by rw [row _ (by omega)]; exact ⟨rfl, rfl⟩)) (fun j hj => Or.inl (by rw [f3 (70 + j) (by omega) (by omega) (by omega) (by omega) (by omega) (by omega)])) (fun z => ?_)
  · have l3 := I.l3
    unfold L3 at l3 ⊢
    rw [s503, s50, s51, sc 81 (by omega), if_neg (by omega)]
    exact ⟨rfl, l3.2⟩
  · obtain ⟨x1, x2, x3, x4⟩ := I.rgm
    refine ⟨by rw [sc 81 (by omega), g80 4 (by decide) (by decide)]; exact x1, by rw [sc 81 (by omega)]; exact x2, ⟨by rw [s50]; omega, by rw [s51]; exact x3.2⟩, fun s hs => ?_⟩
    rw [sc 81 (by omega)] at hs
    have w := x4 s hs
    unfold LI LV at w ⊢
    rw [row (170 + s) (by omega), row (190 + s) (by omega)]; exact w
  · refine alk_cgE (by omega) (fun j _ _ => by omega) (by rw [cC]; exact cs.2.2.2.2.1) (fun j _ => by rw [hi 4 (by decide) (by decide), hi 5 (by decide) (by decide), hi 6 (by decide) (by decide)]; exact ⟨rfl, rfl, rfl⟩) (fun j _ => by rw [hi 7 (by decide) (by decide)]) (fun x y hx hy => lossE_cg (fun k hk => ⟨lo _ (a4 x hx) k hk, lo _ (a5 y hy) k hk⟩) (hi 3 (by decide) (by decide))) (I.al z)
theorem Pic.w272 (P : Pic G A B S h) (I : IV S c) (v1 : vp_in (i + 1) N) (v2 : vp_in (i + 2) N) (v3 : vp_in (i + 3) N) (hu : uc + 70 ≤ 603072) (hv : us + 48 * c + 260 ≤ 7219306) (q : CK G (A 0) (A 80) (A 90) (A 91) c uc us J) : wp_law_272 G N xs (A 0) (A 80) (A 90) (A 91) i h uc us J := by
  obtain ⟨z1, e1, r1⟩ := ii_ex (xs (Int32.toNatClampNeg (i + 1)))
  obtain ⟨z2, e2, r2⟩ := ii_ex (xs (Int32.toNatClampNeg (i + 2)))
  obtain ⟨z3, e3, r3⟩ := ii_ex (xs (Int32.toNatClampNeg (i + 3)))
  unfold wp_law_272
  rw [e1, e2, e3]
  refine ⟨v1, v2, v3, by omega, by omega, P.o (k := 0) rfl, ?_⟩
  have n3 := I.n3
  have b10 := I.ki.1.1.1
  refine P.c_addSite I.ki I.dg I.l3 r1 r2 r3 (fun a b d s A1 S1 h1 P1 x k1 d1 f1 => ?_) (fun a => ?_) (fun a b d => ?_) (fun a b d s => ?_)
  · obtain ⟨x0, x80, x90, x91⟩ := x
    have vr : rg (S 50 2) := ⟨by omega, by omega⟩
    rw [← x90, ← x80]
    refine P1.out vr (fun h2 P2 => ⟨v1, v2, v3, P2.o (k := 80) rfl, ?_⟩)
    obtain ⟨S2, hS2⟩ : ∃ S2, S2 = su S1 90 0 (S 50 2) := ⟨_, rfl⟩
    rw [← hS2] at P2
    obtain ⟨n, en⟩ : ∃ n : Nat, S 50 2 = (n : Int) := ⟨(S 50 2).toNat, by omega⟩
    have hn : n < 10 := by omega
    have e2 : ∀ k, k ≠ 90 → S2 k = S1 k := fun k x => by rw [hS2, su_row _ _ x]
    have f2 : ∀ k, k ≠ 31 → k ≠ 90 → k ≠ 50 → k ≠ 60 + n → S2 k = S k := fun k x y z w => by rw [e2 k y, f1 k x, lsu_k z (by omega)]
    have s803 : S2 80 3 = S 50 2 := by rw [f2 80 (by decide) (by decide) (by decide) (by omega)]; exact n3
    obtain ⟨mo2, eM2, eN2⟩ := I.mo.of (S' := S2) (fun k hk => f2 k (by omega) (by omega) (by omega) (by omega))
    refine P2.m_addSite mo2 r1 r2 r3 (fun _ _ _ _ h3 P3 => ?_) (fun a' => absurd ⟨a, b⟩ a') (fun _ _ d' => absurd d d') (fun _ _ _ s' => by omega)
    rw [s803] at P3 ⊢
    have et : (S 50 2).toNat = n := by omega
    rw [et] at P3
    obtain ⟨S3, hS3⟩ : ∃ S3, S3 = su (su (su (su (su S2 80 0 0) 106 n z1) 107 n z2) 108 n z3) 80 3 (S 50 2 + 1) := ⟨_, rfl⟩
    rw [← hS3] at P3
    have f3 : ∀ k, k ≠ 80 → k ≠ 106 → k ≠ 107 → k ≠ 108 → S3 k = S2 k := fun k x y z w => by rw [hS3, su_row _ _ x, su_row _ _ w, su_row _ _ z, su_row _ _ y, su_row _ _ x]
    have I3 : IV S3 c := ivSite I (z1 := z1) (z2 := z2) (z3 := z3) en hn (fun k a1 a2 a3 a4 a5 a6 => by rw [f3 k a3 a4 a5 a6, e2 k a2, f1 k a1]) (fun i hi h3 => by rw [hS3, su_nei _ _ _ h3, su_row _ _ (by decide), su_row _ _ (by decide), su_row _ _ (by decide), su_nei _ _ _ hi, f2 80 (by decide) (by decide) (by decide) (by omega)]) (by rw [hS3, su_at]) (by rw [hS3, su_row _ _ (by decide), su_row _ _ (by decide), su_row _ _ (by decide), su_up, su_row _ _ (by decide), f2 106 (by decide) (by decide) (by decide) (by omega)]) (by rw [hS3, su_row _ _ (by decide), su_row _ _ (by decide), su_up, su_row _ _ (by decide), su_row _ _ (by decide), f2 107 (by decide) (by decide) (by decide) (by omega)]) (by rw [hS3, su_row _ _ (by decide), su_up, su_row _ _ (by decide), su_row _ _ (by decide), su_row _ _ (by decide), f2 108 (by decide) (by decide) (by decide) (by omega)]) (k1.of (fun k kk => by rw [f3 k (by unfold kl at kk; omega) (by unfold kl at kk; omega) (by unfold kl at kk; omega) (by unfold kl at kk; omega), e2 k (by unfold kl at kk; omega)]) (by rw [f3 31 (by decide) (by decide) (by decide) (by decide), e2 31 (by decide)])) (fun x hx => by rw [f3 31 (by decide) (by decide) (by decide) (by decide), e2 31 (by decide)]; exact d1 x hx)
    exact P3.tlJ (by rw [hS3, su_nei _ _ _ (by decide), su_row _ _ (by decide), su_row _ _ (by decide), su_row _ _ (by decide), su_at]) vr (by rw [f3 90 (by decide) (by decide) (by decide) (by decide), hS2, su_at]) (q A1 B S3 h3 _ _ P3 ⟨x0, x80, x90, x91⟩ I3.nx (by omega) (by omega))
  · refine ⟨fun z => absurd z (by decide), fun z => absurd z (by decide), fun _ => ⟨v1, v2, v3, P.o (k := 80) rfl, ?_⟩, Or.inr (Or.inr rfl)⟩
    exact P.m_addSite I.mo r1 r2 r3 (fun a' b' => absurd ⟨a', b'⟩ a) (fun _ h3 P3 => P3.endX I (Or.inl rfl) il_1 q (by omega) (by omega)) (fun a' b' => absurd ⟨a', b'⟩ a) (fun a' b' => absurd ⟨a', b'⟩ a)
  · refine ⟨fun _ => ⟨v1, v2, v3, P.o (k := 80) rfl, ?_⟩, fun z => absurd z (by decide), fun z => absurd z (by decide), Or.inl rfl⟩
    exact P.m_addSite I.mo r1 r2 r3 (fun _ _ d' => absurd d' d) (fun a' => absurd ⟨a, b⟩ a') (fun _ _ _ h3 P3 => P3.endX I (Or.inr (Or.inl rfl)) il_2 q (by omega) (by omega)) (fun _ _ d' => absurd d' d)
  · refine ⟨fun z => absurd z (by decide), fun _ => ⟨v1, v2, v3, P.o (k := 80) rfl, ?_⟩, fun z => absurd z (by decide), Or.inr (Or.inl rfl)⟩
    exact P.m_addSite I.mo r1 r2 r3 (fun _ _ _ s' => by omega) (fun a' => absurd ⟨a, b⟩ a') (fun _ _ d' => absurd d d') (fun _ _ _ _ h3 P3 => P3.endX I (Or.inr (Or.inr (Or.inl rfl))) il_3 q (by omega) (by omega))
end LWJ
