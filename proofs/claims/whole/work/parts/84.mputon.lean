/-! the reference: putting on -/
section MPO
variable {G : Gx} {A : Nat → Nat} {B : Nat → Nat → Nat} {S : Nat → Nat → Int} {h : hw}
theorem Pic.m_needsYes (P : Pic G A B S h) (hM : MO S) (hB : BM S) {s c : Nat} (hs : s < 8) (hc : c < 8) {x y : Int32} (hx : x = ii (s : Int)) (hy : y = ii (c : Int)) {post : Int32 → Prop} (q : post (ii (bI (decide (S 116 c = 1) && nrb (EM S) s)))) : wp_X12_needsYes G (A 80) x y h post := by
  have b := hB.1 c hc
  have r4 := hM.1.2.2.2.2.1 s; have r5 := hM.1.2.2.2.2.2.1 s
  have e4 := EM_4 (S := S) hs; have e5 := EM_5 (S := S) hs
  have c4 := hM.1.1 (EM S 4 s).toNat; have c5 := hM.1.1 (EM S 5 s).toNat
  refine P.zd (k := 116) (i := c) ⟨by decide, by decide, rfl, rfl⟩ hy (show _ < 8 from hc) ?_
  intro J hJ
  have no : (decide (S 116 c = 1) && nrb (EM S) s) = false → J := fun z => by apply hJ; rw [z] at q; exact q
  rw [il_0, ii_eq ⟨by omega, by omega⟩ ⟨by decide, by decide⟩]
  refine ⟨fun z => no (by rw [decide_eq_false (by omega), Bool.false_and]), fun z => ?_⟩
  have z1 : decide (S 116 c = 1) = true := decide_eq_true (by omega)
  refine P.rR (k := 80) rfl rfl ?_
  refine P.md (k := 109) (i := s) ⟨by decide, by decide, rfl, rfl⟩ hx (show _ < 8 from hs) ?_
  refine P.mld (k := 106) (i := (EM S 4 s).toNat) (by decide) (by decide) rfl (by rw [← e4]; exact congrArg ii (by omega)) (show _ < 10 by omega) ?_
  intro J41 hJ41
  have yes : nrb (EM S) s = true → J41 := fun w => by apply hJ41; rw [z1, w] at q; exact q
  rw [← EM_0 (S := S) (show (EM S 4 s).toNat < 10 by omega), il_15, ii_le ⟨by omega, by omega⟩ ⟨by omega, by omega⟩]
  refine ⟨fun w => yes (by unfold nrb; rw [decide_eq_true w, Bool.true_or]), fun w => ?_⟩
  refine P.rR (k := 80) rfl rfl ?_
  refine P.md (k := 110) (i := s) ⟨by decide, by decide, rfl, rfl⟩ hx (show _ < 8 from hs) ?_
  refine P.mld (k := 106) (i := (EM S 5 s).toNat) (by decide) (by decide) rfl (by rw [← e5]; exact congrArg ii (by omega)) (show _ < 10 by omega) ?_
  rw [← EM_0 (S := S) (show (EM S 5 s).toNat < 10 by omega), ii_lt ⟨by omega, by omega⟩ ⟨by omega, by omega⟩]
  refine ⟨fun w2 => no (by unfold nrb; rw [decide_eq_false w, decide_eq_false (p := 15 ≤ EM S 0 (EM S 5 s).toNat) (by omega)]; simp), fun w2 => yes (by unfold nrb; rw [decide_eq_true (p := 15 ≤ EM S 0 (EM S 5 s).toNat) (by omega), Bool.or_true])⟩
theorem pnx_n {E : Nat → Nat → Int} {s : Nat} {c : Int} {now : Nat → Int} {j : Nat} (h : pnx E s c now j = true) : j < nt E := by
  unfold pnx sil at h
  rw [Bool.and_eq_true, Bool.and_eq_true, decide_eq_true_eq (p := j < nt E ∧ E 7 j ≠ 1 ∧ now j ≠ -1)] at h
  exact h.2.1.1
theorem pnx_at {E : Nat → Nat → Int} {s : Nat} {c : Int} {now now' : Nat → Int} {j : Nat} (h : now j = now' j) : pnx E s c now j = pnx E s c now' j := by unfold pnx sil; rw [h]
theorem Pic.m_putOn (P : Pic G A B S h) (hM : MO S) (hB : BM S) (hR : RG S) (hlm : ∀ j : Nat, j < ntM S → ∀ d, S 80 1 ≤ d → LM S j d = S 113 j) (hday : 0 ≤ S 80 1 ∧ S 80 1 ≤ 100000) (hcap : ∀ t, t < 8 → S (170 + t) 3 ≤ 4000) {bc bs : Nat} (hroom : ∀ (S' : Nat → Nat → Int) (uc us : Nat), RT S S' uc us → uc ≤ bc ∧ us ≤ bs) {v c : Int} (hv : rg v) (hc : rg c) {post : Int32 → hw → Prop} (q : inM S v → (0 ≤ c ∧ c ≤ 7) → (S 116 c.toNat = 1 → nrb (EM S) v.toNat = true → yesM S (8 * v.toNat + c.toNat) = true) → alk (EM S) (pno (EM S) v.toNat c (S 113)) → ∀ A' B' S' h' uc' us', Pic G A' B' S' h' → (∀ k, k < 180 → A' k = A k) → (∀ k, ¬ kM k → k ≠ 132 → k ≠ 133 → S' k = su S 80 0 0 k) → (∀ j, S' 113 j = if j < ntM S then pno (EM S) v.toNat c (S 113) j else S 113 j) → RM S S' → RT S S' uc' us' → post (ii (cnt (pnx (EM S) v.toNat c (S 113)) (ntM S))) h') (x1 : ¬ inM S v → ∀ h', Pic G A B (su S 80 0 1) h' → post 0 h') (x2 : inM S v → ¬ (0 ≤ c ∧ c ≤ 7) → ∀ h', Pic G A B (su S 80 0 2) h' → post 0 h') (x3 : inM S v → (0 ≤ c ∧ c ≤ 7) → S 116 c.toNat = 1 → nrb (EM S) v.toNat = true → yesM S (8 * v.toNat + c.toNat) = false → ∀ h', Pic G A B (su S 80 0 3) h' → post 0 h') (x4 : inM S v → (0 ≤ c ∧ c ≤ 7) → (S 116 c.toNat = 1 → nrb (EM S) v.toNat = true → yesM S (8 * v.toNat + c.toNat) = true) → ¬ alk (EM S) (pno (EM S) v.toNat c (S 113)) → ∀ S' h', Pic G A B S' h' → (∀ k, k ≠ 132 → k ≠ 133 → S' k = su S 80 0 4 k) → post 0 h') : wp_X12_putOn G (A 80) (ii v) (ii c) h bc bs post := by
  obtain ⟨n8, n4, n5⟩ := ntM_8 hM
  obtain ⟨hM1, e1, e2⟩ := hM.t 0
  have f113 : su S 80 0 0 113 = S 113 := su_row _ _ (by decide)
  refine P.thr0 (fun h1 P1 => P1.mNo hM hv (Or.inl rfl) rfl il_1 (fun z h' P' => ⟨fun _ => ⟨Nat.zero_le _, Nat.zero_le _, x1 z h' P'⟩, fun u => absurd u (by decide)⟩) (fun z => ⟨fun u => absurd rfl u, fun _ => ?_⟩))
  have z2 := z
  unfold inM at z2
  refine P1.mCh hc (Or.inr (Or.inl rfl)) rfl il_2 (fun w h' P' => ⟨fun _ => ⟨Nat.zero_le _, Nat.zero_le _, x2 z w h' P'⟩, fun u => absurd u (by decide)⟩) (fun w => ⟨fun u => absurd rfl u, fun _ => ?_⟩)
  have q := q z w; have x3 := x3 z w; have x4 := x4 z w
  obtain ⟨s, es⟩ : ∃ s : Nat, s = v.toNat := ⟨_, rfl⟩
  rw [← es] at q x3 x4
  have hs : s < ntM S := by omega
  have ev : ii v = ii (s : Int) := congrArg ii (by omega)
  have p7 := hM.1.2.2.2.2.2.2.2.1
  obtain ⟨pf, hpf⟩ : ∃ pf, pf = pnx (EM S) s c (S 113) := ⟨_, rfl⟩
  refine ⟨P1.o (k := 80) rfl, P1.m_needsYes hM1 (hB.t 0) (s := s) (c := c.toNat) (by omega) (by omega) ev (congrArg ii (by omega)) ?_⟩
  have f116 : su S 80 0 0 116 = S 116 := su_row _ _ (by decide)
  rw [e1, f116]
  intro J54 hJ54 J53 hJ53
  have go : (S 116 c.toNat = 1 → nrb (EM S) s = true → yesM S (8 * s + c.toNat) = true) → J53 (A 80) := by
    intro yy
    have q := q yy; have x4 := x4 yy
    apply hJ53; apply hJ54
    refine P1.mF (b := false) (e := 3) (Or.inr (Or.inr (Or.inl rfl))) rfl il_3 (fun u => by cases u) (fun _ => ⟨fun _ => ?_, fun u => absurd rfl u⟩)
    -- the last loop: what has changed comes into the register
    have stE : ∀ (S4 : Nat → Nat → Int) (h4 : hw) (off : Int32), Pic G A B S4 h4 → (∀ k, k ≠ 132 → k ≠ 133 → S4 k = su S 80 0 0 k) → (∀ j, j < ntM S → S4 132 j = S 113 j) → (∀ j, j < ntM S → S4 133 j = pno (EM S) s c (S 113) j) → alk (EM S) (pno (EM S) s c (S 113)) → off = ii (cnt pf (ntM S)) → ∀ J220 : Int32 → hw → Nat → Nat → Prop, (∀ (x5_30 : Int32) (h31 : hw) (uc32 : Nat) (us33 : Nat), (rdI h31 (A 80) 12 4 (fun v34 => ((v34 ≤ x5_30 → (uc32 ≤ bc ∧ us33 ≤ bs ∧ post off h31)) ∧ (¬ v34 ≤ x5_30 → rdR h31 (A 80) 12 33 (fun v35 => ldI G h31 v35 x5_30 (fun v36 => rdR h31 (A 80) 12 32 (fun v37 => ldI G h31 v37 x5_30 (fun v38 => ∀ J259 : hw → Nat → Nat → Prop, (∀ (h39 : hw) (uc40 : Nat) (us41 : Nat), (J220 (x5_30 + 1) h39 uc40 us41) → J259 h39 uc40 us41) → ((v36 = v38 → J259 h31 uc32 us33) ∧ (¬ v36 = v38 → rdR h31 (A 80) 12 33 (fun v42 => ldI G h31 v42 x5_30 (fun v43 => ∃ bc44 bs45 : Nat, uc32 + bc44 ≤ bc ∧ us33 + bs45 ≤ bs ∧ (isO h31 (A 80) 12 ∧ wp_X12_set G (A 80) x5_30 v43 h31 bc44 bs45 (fun h46 => J259 h46 (uc32 + bc44) (us33 + bs45))))))))))))))) → J220 x5_30 h31 uc32 us33) → J220 0 h4 0 0 := by
      intro S4 h4 off P4 k4 k5 k6 hal hoff J220 hJ220
      have pin : ∀ j, j < 8 → -1 ≤ pno (EM S) s c (S 113) j ∧ pno (EM S) s c (S 113) j ≤ 7 := fun j hj => by
        have := hM.2 j hj
        unfold pno; split
        · omega
        · split <;> omega
      have main : ∀ i : Nat, i ≤ ntM S → ∀ (A' : Nat → Nat) (B' : Nat → Nat → Nat) (S' : Nat → Nat → Int) (h' : hw) (uc us : Nat), Pic G A' B' S' h' → (∀ k, k < 180 → A' k = A k) → (∀ k, ¬ kM k → S' k = S4 k) → (∀ j, S' 113 j = if j < i then pno (EM S) s c (S 113) j else S 113 j) → RM S S' → RT S S' uc us → MO S' → (∀ j, i ≤ j → j < 8 → S' (170 + j) = S (170 + j)) → J220 (ii (i : Int)) h' uc us := by
        intro i hi
        refine lp_up (J := fun i : Nat => ∀ (A' : Nat → Nat) (B' : Nat → Nat → Nat) (S' : Nat → Nat → Int) (h' : hw) (uc us : Nat), Pic G A' B' S' h' → (∀ k, k < 180 → A' k = A k) → (∀ k, ¬ kM k → S' k = S4 k) → (∀ j, S' 113 j = if j < i then pno (EM S) s c (S 113) j else S 113 j) → RM S S' → RT S S' uc us → MO S' → (∀ j, i ≤ j → j < 8 → S' (170 + j) = S (170 + j)) → J220 (ii (i : Int)) h' uc us) (n := ntM S) ?_ ?_ hi
        · intro A' B' S' h' uc us P' a1 m1 m2 m3 m4 m5 m6
          have r := hroom _ _ _ m4
          have e84 : S' 80 4 = S 80 4 := by rw [m1 80 (fun z => by unfold kM at z; omega), k4 80 (by decide) (by decide), su_nei _ _ _ (by decide)]
          apply hJ220
          rw [← a1 80 (by decide)]
          refine P'.rI (k := 80) rfl rfl ?_
          rw [e84, n4, ii_le ⟨by omega, by omega⟩ ⟨by omega, by omega⟩]
          refine ⟨fun _ => ⟨r.1, r.2, ?_⟩, fun z => absurd (Int.le_refl _) z⟩
          rw [hoff, hpf]
          exact q hal A' B' S' h' uc us P' a1 (fun k b d e => by rw [m1 k b, k4 k d e]) m2 m3 m4
        · intro i hi ih A' B' S' h' uc us P' a1 m1 m2 m3 m4 m5 m6
          have e84 : S' 80 4 = S 80 4 := by rw [m1 80 (fun z => by unfold kM at z; omega), k4 80 (by decide) (by decide), su_nei _ _ _ (by decide)]
          have e801 : S' 80 1 = S 80 1 := m3.2.1
          have eN : ntM S' = ntM S := by unfold ntM; rw [e84]
          have e132 : S' 132 i = S 113 i := by rw [m1 132 (fun z => by unfold kM at z; omega)]; exact k5 i hi
          have e133 : S' 133 i = pno (EM S) s c (S 113) i := by rw [m1 133 (fun z => by unfold kM at z; omega)]; exact k6 i hi
          have pi := pin i (by omega)
          have ni := hM.2 i (by omega)
          apply hJ220
          rw [← a1 80 (by decide)]
          refine P'.rI (k := 80) rfl rfl ?_
          rw [e84, n4, ii_le ⟨by omega, by omega⟩ ⟨by omega, by omega⟩]
          refine ⟨fun z => absurd z (by omega), fun _ => ?_⟩
          refine P'.md (k := 133) (i := i) ⟨by decide, by decide, rfl, rfl⟩ rfl (show _ < 8 by omega) ?_
          refine P'.md (k := 132) (i := i) ⟨by decide, by decide, rfl, rfl⟩ rfl (show _ < 8 by omega) ?_
          intro J259 hJ259
          rw [e132, e133, ii_eq ⟨by omega, by omega⟩ ⟨by omega, by omega⟩]
          refine ⟨fun z => ?_, fun z => ?_⟩
          · apply hJ259; rw [ii_inc']
            refine ih A' B' S' h' uc us P' a1 m1 (fun j => ?_) m3 m4 m5 (fun j hj => m6 j (by omega))
            rw [m2 j]
            by_cases y : j = i
            · subst y; rw [if_neg (by omega), if_pos (by omega), z]
            · exact ite_iff (by omega)
          · refine P'.md (k := 133) (i := i) ⟨by decide, by decide, rfl, rfl⟩ rfl (show _ < 8 by omega) ?_
            rw [e133]
            refine P'.mset2 m5 m3 m4 (fun t ht => (hR.2.2.2 t (by rw [hR.1]; omega)).1) eN (s := i) (by rw [eN]; exact hi) (by rw [m6 i (Nat.le_refl _) (by omega)]; omega) pi (by rw [e801]; exact hday) hcap hroom rfl rfl (post := J259) (fun A2 B2 S2 h2 uc2 us2 P2 a2 g1 g2 g3 g4 g5 g6 g7 => ?_)
            apply hJ259; rw [ii_inc']
            refine ih A2 B2 S2 h2 uc2 us2 P2 (fun k hk => by rw [a2 k hk, a1 k hk]) (fun k hk => by rw [g1 k hk, m1 k hk]) (fun j => ?_) g3 g4 g5 (fun j hj hj8 => by rw [g7 j hj8 (by omega)]; exact m6 j (by omega) hj8)
            rw [g2]; unfold up
            by_cases y : j = i
            · subst y; rw [if_pos rfl, if_pos (by omega)]
            · rw [if_neg y, m2 j]; exact ite_iff (by omega)
      refine main 0 (Nat.zero_le _) A B S4 h4 0 0 P4 (fun _ _ => rfl) (fun _ _ => rfl) (fun j => ?_) ?_ ?_ ?_ (fun j _ hj => ?_)
      · rw [if_neg (by omega), k4 113 (by decide) (by decide), f113]
      · refine RM.of (S1 := S) (fun k hk => ?_) ?_ ?_ (RM.base hR hlm)
        · rw [k4 k (by omega) (by omega), su_row _ _ (by omega)]
        · rw [k4 80 (by decide) (by decide), su_nei _ _ _ (by decide)]
        · rw [k4 80 (by decide) (by decide), su_nei _ _ _ (by decide)]
      · exact RT.base.of (fun t ht => by rw [k4 _ (by omega) (by omega), su_row _ _ (by omega)])
      · refine (hM.ofi (S' := S4) (fun k b d => ?_) (fun i b d => ?_)).1
        · rw [k4 k (by omega) (by omega), su_row _ _ (by omega)]
        · rw [k4 80 (by decide) (by decide), su_nei _ _ _ (by omega)]
      · rw [k4 _ (by omega) (by omega), su_row _ _ (by omega)]
    -- A: the channels before
    intro J68 hJ68
    have mainA : ∀ i : Nat, i ≤ ntM S → ∀ h', Pic G A B (sf (su S 80 0 0) 132 i (S 113)) h' → J68 (ii (i : Int)) h' := by
      intro i hi
      refine lp_up (J := fun i : Nat => ∀ h', Pic G A B (sf (su S 80 0 0) 132 i (S 113)) h' → J68 (ii (i : Int)) h') (n := ntM S) ?_ ?_ hi
      · intro h' P'
        obtain ⟨S2, hS2⟩ : ∃ S2, S2 = sf (su S 80 0 0) 132 (ntM S) (S 113) := ⟨_, rfl⟩
        rw [← hS2] at P'
        have k2 : ∀ k, k ≠ 132 → S2 k = su S 80 0 0 k := fun k hk => by rw [hS2]; exact sf_ne hk
        have k132 : ∀ j, j < ntM S → S2 132 j = S 113 j := fun j hj => by rw [hS2]; exact sf_at hj
        have e84 : S2 80 4 = S 80 4 := by rw [k2 80 (by decide), su_nei _ _ _ (by decide)]
        apply hJ68
        refine P'.rI (k := 80) rfl rfl ?_
        rw [e84, n4, ii_le ⟨by omega, by omega⟩ ⟨by omega, by omega⟩]
        refine ⟨fun _ => ?_, fun u => absurd (Int.le_refl _) u⟩
        refine P'.rI (k := 80) rfl rfl ?_
        intro J105 hJ105
        -- B: secondary ones go off
        have mainB : ∀ i : Nat, i ≤ ntM S → ∀ (S' : Nat → Nat → Int) (h' : hw), Pic G A B S' h' → (∀ k, k ≠ 113 → S' k = S2 k) → S' 113 = (fun j => if pf j = true ∧ i ≤ j then -1 else S 113 j) → J105 (ii (cnt pf (ntM S) - cnt pf i)) (ii ((i : Int) - 1)) h' := by
          intro i
          induction i with
          | zero =>
            intro _ S' h' P' m1 m2
            have e84 : S' 80 4 = S 80 4 := by rw [m1 80 (by decide), e84]
            apply hJ105
            rw [il_0, ii_lt ⟨by omega, by omega⟩ ⟨by omega, by omega⟩]
            refine ⟨fun _ => ?_, fun u => absurd (show ((0 : Nat) : Int) - 1 < 0 by omega) u⟩
            rw [show cnt pf (ntM S) - cnt pf 0 = cnt pf (ntM S) by show cnt pf (ntM S) - 0 = _; omega]
            -- C: it is put on
            refine P'.ms (k := 113) (i := s) (z := c) ⟨by decide, by decide, rfl, rfl⟩ ev rfl (show _ < 8 by omega) (fun h3 P3 => ?_)
            obtain ⟨S3, hS3⟩ : ∃ S3, S3 = su S' 113 s c := ⟨_, rfl⟩
            rw [← hS3] at P3
            have m3 : ∀ k, k ≠ 113 → S3 k = S2 k := fun k hk => by rw [hS3, su_row _ _ hk, m1 k hk]
            have n3 : S3 113 = pno (EM S) s c (S 113) := by
              rw [hS3, su_up, m2]
              funext j
              unfold up pno
              rw [← hpf]
              by_cases y : j = s
              · rw [if_pos y, if_pos y]
              · rw [if_neg y, if_neg y]
                dsimp only
                by_cases k : pf j = true
                · rw [if_pos ⟨k, Nat.zero_le _⟩, if_pos k]
                · rw [if_neg (fun u => k u.1), if_neg k]
            have pin : ∀ j, j < 8 → -1 ≤ S3 113 j ∧ S3 113 j ≤ 7 := fun j hj => by
              have := hM.2 j hj
              rw [n3]; unfold pno; split
              · omega
              · split <;> omega
            have eE3 : EM S3 = EM S := by
              funext k i
              unfold EM
              rw [m3 106 (by decide), m3 107 (by decide), m3 108 (by decide), m3 105 (by decide), m3 109 (by decide), m3 110 (by decide), m3 111 (by decide), m3 112 (by decide), m3 80 (by decide), k2 106 (by decide), k2 107 (by decide), k2 108 (by decide), k2 105 (by decide), k2 109 (by decide), k2 110 (by decide), k2 111 (by decide), k2 112 (by decide), k2 80 (by decide), su_row _ _ (show 106 ≠ 80 by decide), su_row _ _ (show 107 ≠ 80 by decide), su_row _ _ (show 108 ≠ 80 by decide), su_row _ _ (show 105 ≠ 80 by decide), su_row _ _ (show 109 ≠ 80 by decide), su_row _ _ (show 110 ≠ 80 by decide), su_row _ _ (show 111 ≠ 80 by decide), su_row _ _ (show 112 ≠ 80 by decide), su_nei _ _ _ (show 2 ≠ 0 by decide), su_nei _ _ _ (show 4 ≠ 0 by decide), su_nei _ _ _ (show 3 ≠ 0 by decide)]
            have hM3 : MO S3 := ⟨by rw [eE3]; exact hM.1, pin⟩
            have e843 : S3 80 4 = S 80 4 := by rw [m3 80 (by decide), k2 80 (by decide), su_nei _ _ _ (by decide)]
            -- D: the channels behind; as before
            have mainD : ∀ (J154 : Int32 → hw → Prop), (∀ h4, Pic G A B (sf (sf S3 133 (ntM S) (S3 113)) 113 (ntM S) (S3 132)) h4 → J154 (ii (ntM S : Nat)) h4) → (∀ (x5_23 : Int32) (h24 : hw), ¬ ii (ntM S : Nat) ≤ x5_23 → (rdR h24 (A 80) 12 33 (fun v47 => rdR h24 (A 80) 12 13 (fun v48 => ldI G h24 v48 x5_23 (fun v49 => stI G h24 v47 x5_23 v49 (fun h50 => rdR h50 (A 80) 12 13 (fun v51 => rdR h50 (A 80) 12 32 (fun v52 => ldI G h50 v52 x5_23 (fun v53 => stI G h50 v51 x5_23 v53 (fun h54 => J154 (x5_23 + 1) h54))))))))) → rdI h24 (A 80) 12 4 (fun v25 => v25 = ii (ntM S : Nat)) → J154 x5_23 h24) → J154 0 h3 := by
              intro J154 hfin hstep
              have g : ∀ i : Nat, i ≤ ntM S → ∀ h', Pic G A B (sf (sf S3 133 i (S3 113)) 113 i (S3 132)) h' → J154 (ii (i : Int)) h' := by
                intro i hi
                refine lp_up (J := fun i : Nat => ∀ h', Pic G A B (sf (sf S3 133 i (S3 113)) 113 i (S3 132)) h' → J154 (ii (i : Int)) h') (n := ntM S) hfin ?_ hi
                intro i hi ih h' P'
                have f : ∀ k, k ≠ 113 → k ≠ 133 → sf (sf S3 133 i (S3 113)) 113 i (S3 132) k = S3 k := fun k a b => by rw [sf_ne a, sf_ne b]
                refine hstep _ _ (by rw [ii_le ⟨by omega, by omega⟩ ⟨by omega, by omega⟩]; omega) ?_ (P'.rI (k := 80) rfl rfl (by rw [f 80 (by decide) (by decide), e843, n4]))
                have g113 : sf (sf S3 133 i (S3 113)) 113 i (S3 132) 113 i = S3 113 i := by unfold sf; rw [if_neg (fun u => by omega), if_neg (fun u => by omega)]
                refine P'.rR (k := 80) rfl rfl (P'.mnow rfl (by omega) ?_)
                refine P'.mst (k := 133) (i := i) (z := S3 113 i) (by decide) (by decide) rfl rfl (by rw [g113]) (show _ < 8 by omega) (fun h5 P5 => ?_)
                have f5 : ∀ k, k ≠ 113 → k ≠ 133 → su (sf (sf S3 133 i (S3 113)) 113 i (S3 132)) 133 i (S3 113 i) k = S3 k := fun k a b => by rw [su_row _ _ b, f k a b]
                refine P5.rR (k := 80) rfl rfl (P5.md (k := 132) (i := i) ⟨by decide, by decide, rfl, rfl⟩ rfl (show _ < 8 by omega) ?_)
                refine P5.mst (k := 113) (i := i) (z := S3 132 i) (by decide) (by decide) rfl rfl (by rw [f5 132 (by decide) (by decide)]) (show _ < 8 by omega) (fun h6 P6 => ?_)
                rw [ii_inc']
                refine ih h6 ?_
                have e : su (su (sf (sf S3 133 i (S3 113)) 113 i (S3 132)) 133 i (S3 113 i)) 113 i (S3 132 i) = sf (sf S3 133 (i + 1) (S3 113)) 113 (i + 1) (S3 132) := by
                  have c1 : su (sf (sf S3 133 i (S3 113)) 113 i (S3 132)) 133 i (S3 113 i) = sf (su (sf S3 133 i (S3 113)) 133 i (S3 113 i)) 113 i (S3 132) := by
                    funext k' i'
                    unfold su sf
                    dsimp only
                    by_cases a : k' = 133 ∧ i' = i
                    · rw [if_pos a, if_neg (fun u => by omega), if_pos a]
                    · rw [if_neg a]
                      by_cases b : k' = 113 ∧ i' < i
                      · rw [if_pos b, if_pos b]
                      · rw [if_neg b, if_neg b, if_neg a]
                  rw [c1, sf_s, sf_s]
                rw [← e]; exact P6
              exact g 0 (Nat.zero_le _) h3 (by rw [sf_0, sf_0]; exact P3)
            -- behind D
            obtain ⟨S4, hS4⟩ : ∃ S4, S4 = sf (sf S3 133 (ntM S) (S3 113)) 113 (ntM S) (S3 132) := ⟨_, rfl⟩
            rw [← hS4] at mainD
            have k4 : ∀ k, k ≠ 132 → k ≠ 133 → S4 k = su S 80 0 0 k := fun k a b => by
              by_cases y : k = 113
              · subst y
                funext j
                rw [hS4, f113]
                unfold sf
                by_cases u : j < ntM S
                · rw [if_pos ⟨rfl, u⟩, m3 132 (by decide)]; exact k132 j u
                · rw [if_neg (fun k => u k.2), if_neg (fun k => by omega), n3]
                  unfold pno
                  rw [if_neg (by omega), if_neg (fun k => u (pnx_n k))]
              · rw [hS4, sf_ne y, sf_ne b, m3 k y, k2 k a]
            have k5 : ∀ j, j < ntM S → S4 132 j = S 113 j := fun j hj => by
              rw [hS4, sf_ne (by decide), sf_ne (by decide), m3 132 (by decide)]; exact k132 j hj
            have k6 : ∀ j, j < ntM S → S4 133 j = pno (EM S) s c (S 113) j := fun j hj => by
              rw [hS4, sf_ne (by decide), sf_at hj, n3]
            have e844 : S4 80 4 = S 80 4 := by rw [k4 80 (by decide) (by decide), su_nei _ _ _ (by decide)]
            refine ⟨P3.o (k := 80) rfl, P3.mallKept hM3 (fun ok => ?_) (fun no => ?_)⟩
            · rw [eE3, n3] at ok
              intro J154 hJ154
              refine mainD J154 (fun h4 P4 => ?_) (fun x5 h24 u1 u2 u3 => ?_)
              · apply hJ154
                refine P4.rI (k := 80) rfl rfl ?_
                rw [e844, n4]
                refine ⟨fun _ => ?_, fun u => absurd (Int32.le_refl _) u⟩
                intro J208 hJ208
                refine ⟨fun _ => ?_, fun u => absurd u (by decide)⟩
                apply hJ208
                refine ⟨P4.o (k := 80) rfl, P4.fails (b := false) (e := 4) (Or.inr (Or.inr (Or.inr rfl))) (by rw [k4 80 (by decide) (by decide), su_at]) rfl il_4 (fun u => by cases u) (fun _ => ⟨fun _ => ?_, fun u => absurd rfl u⟩)⟩
                exact stE S4 h4 _ P4 k4 k5 k6 ok rfl
              · apply hJ154
                obtain ⟨fs, v9, y1, y2, y3⟩ := u3
                exact ⟨fs, v9, y1, y2, by rw [y3]; exact ⟨fun k => absurd k u1, fun _ => u2⟩⟩
            · rw [eE3, n3] at no
              intro J154 hJ154
              refine mainD J154 (fun h4 P4 => ?_) (fun x5 h24 u1 u2 u3 => ?_)
              · apply hJ154
                refine P4.rI (k := 80) rfl rfl ?_
                rw [e844, n4]
                refine ⟨fun _ => ?_, fun u => absurd (Int32.le_refl _) u⟩
                intro J208 hJ208
                refine ⟨fun u => absurd rfl u, fun _ => ?_⟩
                apply hJ208
                refine ⟨P4.o (k := 80) rfl, P4.fails (b := true) (e := 4) (Or.inr (Or.inr (Or.inr rfl))) (by rw [k4 80 (by decide) (by decide), su_at]) rfl il_4 (fun _ h5 P5 => ⟨fun u => absurd u (by decide), fun _ => ⟨Nat.zero_le _, Nat.zero_le _, x4 no _ h5 P5 (fun k a b => ?_)⟩⟩) (fun u => by cases u)⟩
                by_cases y : k = 80
                · subst y
                  funext i
                  by_cases i0 : i = 0
                  · subst i0; rw [su_at, su_at]
                  · rw [su_nei _ _ _ i0, su_nei _ _ _ i0, k4 80 (by decide) (by decide), su_nei _ _ _ i0]
                · rw [su_row _ _ y, k4 k a b, su_row _ _ y, su_row _ _ y]
              · apply hJ154
                obtain ⟨fs, v9, y1, y2, y3⟩ := u3
                exact ⟨fs, v9, y1, y2, by rw [y3]; exact ⟨fun k => absurd k u1, fun _ => u2⟩⟩
          | succ i ih =>
            intro hi S' h' P' m1 m2
            have e84 : S' 80 4 = S 80 4 := by rw [m1 80 (by decide), e84]
            have ei : S' 113 i = S 113 i := by rw [m2]; show (if pf i = true ∧ i + 1 ≤ i then _ else _) = _; rw [if_neg (fun u => by omega)]
            have eE' : EM S' = EM S := by
              funext k i
              unfold EM
              rw [m1 106 (by decide), m1 107 (by decide), m1 108 (by decide), m1 105 (by decide), m1 109 (by decide), m1 110 (by decide), m1 111 (by decide), m1 112 (by decide), m1 80 (by decide), k2 106 (by decide), k2 107 (by decide), k2 108 (by decide), k2 105 (by decide), k2 109 (by decide), k2 110 (by decide), k2 111 (by decide), k2 112 (by decide), k2 80 (by decide), su_row _ _ (show 106 ≠ 80 by decide), su_row _ _ (show 107 ≠ 80 by decide), su_row _ _ (show 108 ≠ 80 by decide), su_row _ _ (show 105 ≠ 80 by decide), su_row _ _ (show 109 ≠ 80 by decide), su_row _ _ (show 110 ≠ 80 by decide), su_row _ _ (show 111 ≠ 80 by decide), su_row _ _ (show 112 ≠ 80 by decide), su_nei _ _ _ (show 2 ≠ 0 by decide), su_nei _ _ _ (show 4 ≠ 0 by decide), su_nei _ _ _ (show 3 ≠ 0 by decide)]
            have hM' : MO S' := ⟨by rw [eE']; exact hM.1, fun j hj => by
              have := hM.2 j hj
              rw [m2]
              show -1 ≤ (if pf j = true ∧ i + 1 ≤ j then (-1 : Int) else S 113 j) ∧ (if pf j = true ∧ i + 1 ≤ j then (-1 : Int) else S 113 j) ≤ 7
              split <;> omega⟩
            have eN' : ntM S' = ntM S := by unfold ntM; rw [e84]
            apply hJ105
            rw [show ii (((i + 1 : Nat) : Int) - 1) = ii (i : Int) from congrArg ii (by omega), il_0, ii_lt ⟨by omega, by omega⟩ ⟨by omega, by omega⟩]
            refine ⟨fun u => absurd u (by omega), fun _ => ?_⟩
            refine ⟨P'.o (k := 80) rfl, P'.moff hM' (k := i) (s := s) (by rw [eN']; omega) (by omega) (by rw [eE']; exact (p7 s).symm) (c := c) ⟨by omega, by omega⟩ rfl ev rfl ?_⟩
            have ep : (decide (EM S' 7 s = 1) && sil (EM S') s c (S' 113) i) = pf i := by
              rw [eE', hpf]; exact pnx_at ei
            rw [ep]
            intro J132 hJ132
            have nx : ii (i : Int) + (-1) = ii ((i : Int) - 1) := by rw [il_m1, ii_add]; exact congrArg ii (by omega)
            have cu : cnt pf (i + 1) = cnt pf i + bI (pf i) := rfl
            rw [← il_0, bI_1, bI_0]
            refine ⟨fun u => ?_, fun u => ?_⟩
            · apply hJ132
              rw [nx, show cnt pf (ntM S) - cnt pf (i + 1) = cnt pf (ntM S) - cnt pf i by rw [cu, u]; show _ - (_ + 0) = _; omega]
              refine ih (by omega) S' h' P' m1 ?_
              rw [m2]; funext j
              by_cases y : j = i
              · subst y; rw [if_neg (fun k => by omega), u, if_neg (fun k => absurd k.1 (by decide))]
              · exact ite_iff ⟨fun k => ⟨k.1, by omega⟩, fun k => ⟨k.1, by omega⟩⟩
            · refine P'.ms (k := 113) (i := i) (z := -1) ⟨by decide, by decide, rfl, rfl⟩ rfl il_m1 (show _ < 8 by omega) (fun h3 P3 => ?_)
              apply hJ132
              rw [nx, il_1, ii_add, show cnt pf (ntM S) - cnt pf (i + 1) + 1 = cnt pf (ntM S) - cnt pf i by rw [cu, u]; show _ - (_ + 1) + 1 = _; omega]
              refine ih (by omega) _ h3 P3 (fun k hk => by rw [su_row _ _ hk, m1 k hk]) ?_
              rw [su_up, m2]; funext j
              unfold up
              by_cases y : j = i
              · subst y; rw [if_pos rfl, if_pos ⟨u, Nat.le_refl _⟩]
              · rw [if_neg y]; exact ite_iff ⟨fun k => ⟨k.1, by omega⟩, fun k => ⟨k.1, by omega⟩⟩
        have g := mainB (ntM S) (Nat.le_refl _) S2 h' P' (fun _ _ => rfl) (by
          rw [k2 113 (by decide), f113]
          funext j
          rw [if_neg (fun u => by have := u.1; rw [hpf] at this; have := pnx_n this; omega)])
        rw [show cnt pf (ntM S) - cnt pf (ntM S) = 0 by omega] at g
        rw [e84, n4, il_1, ii_sub]
        exact g
      · intro i hi ih h' P'
        have f : ∀ k, k ≠ 132 → sf (su S 80 0 0) 132 i (S 113) k = su S 80 0 0 k := fun k hk => sf_ne hk
        apply hJ68
        refine P'.rI (k := 80) rfl rfl ?_
        rw [f 80 (by decide), su_nei _ _ _ (by decide), n4, ii_le ⟨by omega, by omega⟩ ⟨by omega, by omega⟩]
        refine ⟨fun u => absurd u (by omega), fun _ => ?_⟩
        refine P'.rR (k := 80) rfl rfl (P'.mnow rfl (by omega) ?_)
        refine P'.mst (k := 132) (i := i) (z := S 113 i) (by decide) (by decide) rfl rfl (by rw [f 113 (by decide), f113]) (show _ < 8 by omega) (fun h2 P2 => ?_)
        rw [ii_inc']
        rw [sf_s] at P2
        exact ih h2 P2
    exact mainA 0 (Nat.zero_le _) h1 (by rw [sf_0]; exact P1)
  rw [bI_1, bI_0]
  refine ⟨fun u => go (fun y1 y2 => by rw [y1, y2, Bool.and_true, decide_eq_true rfl] at u; cases u), fun u => ?_⟩
  rw [Bool.and_eq_true, decide_eq_true_eq] at u
  refine ⟨P1.o (k := 80) rfl, P1.m_yesF (hB.t 0) (a := s) (b := c.toNat) (by omega) (by omega) ev (congrArg ii (by omega)) ?_⟩
  have ey : yesM (su S 80 0 0) (8 * s + c.toNat) = yesM S (8 * s + c.toNat) := by
    unfold yesM
    have g1 : su S 80 0 0 80 1 = S 80 1 := su_nei _ _ _ (by decide)
    have g2 : su S 80 0 0 117 = S 117 := su_row _ _ (by decide)
    have g4 : su S 80 0 0 118 = S 118 := su_row _ _ (by decide)
    rw [g1, g2, g4]
  rw [ey, bI_1, bI_0]
  refine ⟨fun y => go (fun _ _ => y), fun y => ?_⟩
  apply hJ54
  exact P1.mF (b := true) (e := 3) (Or.inr (Or.inr (Or.inl rfl))) rfl il_3 (fun _ h' P' => ⟨fun k => absurd k (by decide), fun _ => ⟨Nat.zero_le _, Nat.zero_le _, x3 u.1 u.2 y h' P'⟩⟩) (fun k => by cases k)
end MPO
