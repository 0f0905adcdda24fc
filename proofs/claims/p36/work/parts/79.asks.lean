/-! what the law asks, and what it is told -/
section ASK
variable {G : Gx} {A : Nat → Nat} {B : Nat → Nat → Nat} {S : Nat → Nat → Int} {h : hw} {c : Nat} {post : Int32 → hw → Prop}
theorem Pic.k20 (P : Pic G A B S h) (I : VI G S c) {a b : Nat} (ha : a < 10) (hb : b < 10) {x y : Int32} (hx : x = ii (a : Int)) (hy : y = ii (b : Int)) (q : post (ii (lossE (EC S) a b)) h) : wp_L_ask G (A 0) 20 x y h post := by
  subst hx hy
  refine deed_20 (P.o (k := 0) rfl) ?_
  exact P.c_loss (vi_ki I) (rg_n (by omega)) (rg_n (by omega)) (fun _ _ => q) (fun z => absurd ⟨vi_si I ha, vi_si I hb⟩ z)
theorem Pic.k22 (P : Pic G A B S h) (I : VI G S c) {j : Nat} (hj : j < 6) {x y : Int32} (hx : x = ii (j : Int)) (q1 : S 32 j = -1 → post (-20004) h) (q2 : S 32 j ≠ -1 → ∀ a, -4000 ≤ a → a ≤ 1000 → post (ii a) h) (q3 : S 32 j ≠ -1 → kp (EC S) j (S 32) = true → post (-20005) h) : wp_L_ask G (A 0) 22 x y h post := by
  subst hx
  refine deed_22 (P.o (k := 0) rfl) ?_
  refine P.c_harm (vi_ki I) (vi_32 I) (rg_n (by omega)) (fun _ z a ha => ?_) (fun z => absurd (vi_st I hj) z) (fun _ z => xA_uo (q1 z)) (fun _ z w => xA_ns (q3 z ?_))
  · have b := hs_le (vi_ki I).1.2.1 _ _ _ a ha
    rw [vi_nt I] at b
    exact q2 z a (by omega) (by omega)
  · have w : hs (EC S) j (S 32) (nt (EC S)) = none := w
    unfold kp; rw [w]
theorem Pic.k23 (P : Pic G A B S h) (I : VI G S c) {j : Nat} (hj : j < 6) {x y : Int32} (hx : x = ii (j : Int)) (q1 : S 32 j = -1 → post (-20004) h) (q2 : S 32 j ≠ -1 → post (ii (bI (kp (EC S) j (S 32)))) h) : wp_L_ask G (A 0) 23 x y h post := by
  subst hx
  refine deed_23 (P.o (k := 0) rfl) ?_
  exact P.c_keeps (vi_ki I) (vi_32 I) (rg_n (by omega)) (fun _ z => told_of rfl (q2 z)) (fun z => absurd (vi_st I hj) z) (fun _ z => xA_uo (q1 z))
theorem Pic.k24 (P : Pic G A B S h) (I : VI G S c) {a b : Nat} (ha : a < 6) (hb : b < 6) (hab : a ≠ b) {u v : Int} (hu : 0 ≤ u ∧ u ≤ 7) (hv : 0 ≤ v ∧ v ≤ 7) {x y z w : Int32} (hx : x = ii (a : Int)) (hy : y = ii u) (hz : z = ii (b : Int)) (hw : w = ii v) (q : post (ii (bI (br2 (EC S) a u b v))) h) : wp_L_deed G (A 0) 24 x y z w h post := by
  subst hx hy hz hw
  refine deed_24 (P.o (k := 0) rfl) ?_
  exact P.c_bars (vi_ki I) (rg_n (by omega)) ⟨by omega, by omega⟩ (rg_n (by omega)) ⟨by omega, by omega⟩ (fun _ _ _ _ _ => told_of rfl q) (fun z => absurd ⟨vi_st I ha, vi_st I hb⟩ z) (fun _ _ z => absurd ⟨by omega, hu, hv⟩ z)
theorem Pic.k25d (P : Pic G A B S h) (I : VI G S c) (hc : c ≤ 511) {j : Nat} (hj : j < 6) {d : Int} (hd : 0 ≤ d ∧ d ≤ S 3 1) {x y : Int32} (hx : x = ii (j : Int)) (hy : y = ii d) (q : post (ii (LC S j d)) h) : wp_L_ask G (A 0) 25 x y h post := by
  subst hx hy
  have dy := vi_day I hc
  refine deed_25 (P.o (k := 0) rfl) ?_
  exact P.c_chAt (vi_ki I) hc (vi_ri I) (rg_n (by omega)) ⟨by omega, by omega⟩ (fun _ _ => q) (fun z => absurd (vi_st I hj) z) (fun _ z => absurd hd z)
theorem Pic.k25 (P : Pic G A B S h) (I : VI G S c) (hc : c ≤ 511) {j : Nat} (hj : j < 6) {x y : Int32} (hx : x = ii (j : Int)) (hy : y = ii (S 3 1)) (q : post (ii (S 32 j)) h) : wp_L_ask G (A 0) 25 x y h post := by
  have dy := vi_day I hc
  refine P.k25d I hc hj ⟨dy.1, Int.le_refl _⟩ hx hy ?_
  rw [(vi_ri I).holds (by omega)]
  exact q
theorem Pic.k25x (P : Pic G A B S h) (I : VI G S c) (hc : c ≤ 511) {j : Nat} (hj : j < 6) {d : Int} (hd : S 3 1 < d ∧ d ≤ 100000) {x y : Int32} (hx : x = ii (j : Int)) (hy : y = ii d) (q : post (-20002) h) : wp_L_ask G (A 0) 25 x y h post := by
  subst hx hy
  have dy := vi_day I hc
  refine deed_25 (P.o (k := 0) rfl) ?_
  exact P.c_chAt (vi_ki I) hc (vi_ri I) (rg_n (by omega)) ⟨by omega, by omega⟩ (fun _ z => absurd z.2 (by omega)) (fun z => absurd (vi_st I hj) z) (fun _ _ => xA_ia q)
theorem Pic.k26 (P : Pic G A B S h) (I : VI G S c) {j u : Nat} (hj : j < 6) (hu : u < 8) {x y : Int32} (hx : x = ii (j : Int)) (hy : y = ii (u : Int)) (q : post (ii (bI (yes S (j * 8 + u)))) h) : wp_L_ask G (A 0) 26 x y h post := by
  subst hx hy
  refine deed_26 (P.o (k := 0) rfl) ?_
  exact P.c_hasYes (vi_ki I) (vi_br I) (rg_n (by omega)) (rg_n (by omega)) (fun _ _ => told_of rfl q) (fun z => absurd (vi_st I hj) z) (fun _ z => absurd ⟨by omega, by omega⟩ z)
/-- behind a packing -/
theorem vi_kp5 (I : VI G S c) {S' : Nat → Nat → Int} (h : ∀ k, ¬ kp5 k → S' k = S k) (c39 : chs (S' 39)) : VI G S' c ∧ EC S' = EC S := by
  have f : ∀ k, ¬ scr k → S' k = S k := fun k hk => h k (fun z => hk (by unfold kp5 at z; unfold scr; omega))
  exact ⟨vi_scr I f c39 (by rw [h 49 (fun z => by unfold kp5 at z; omega)]; exact vi_49 I), EC_of (fun k hk => h k (fun z => by unfold kp5 at z; unfold kl at hk; omega))⟩
theorem Pic.k27 (P : Pic G A B S h) (I : VI G S c) {C : Nat} (hC : 1 ≤ C ∧ C ≤ 8) {x y : Int32} (hx : x = ii (C : Int)) (q1 : okp (EC S) (prm (EC S)) C 0 (fun _ => -1) → ∀ S' h', Pic G A B S' h' → (∀ k, ¬ kp5 k → S' k = S k) → VI G S' c → EC S' = EC S → post 1 h') (q0 : ¬ okp (EC S) (prm (EC S)) C 0 (fun _ => -1) → ∀ S' h', Pic G A B S' h' → (∀ k, ¬ kp5 k → S' k = S k) → VI G S' c → EC S' = EC S → post 0 h') : wp_L_ask G (A 0) 27 x y h post := by
  subst hx
  refine deed_27 (P.o (k := 0) rfl) ?_
  exact P.c_canPack (vi_ki I) (vi_39 I) (rg_n (by omega)) (fun _ o S' h' P' k c39 => told_of (b := true) rfl (q1 o S' h' P' k (vi_kp5 I k c39).1 (vi_kp5 I k c39).2)) (fun _ o S' h' P' k c39 => told_of (b := false) rfl (q0 o S' h' P' k (vi_kp5 I k c39).1 (vi_kp5 I k c39).2)) (fun z => absurd ⟨by omega, by omega⟩ z)
theorem Pic.k28 (P : Pic G A B S h) (I : VI G S c) {C j : Nat} (hC : 1 ≤ C ∧ C ≤ 8) (hj : j < 6) {x y : Int32} (hx : x = ii (C : Int)) (hy : y = ii (j : Int)) (q1 : EC S 7 j = 1 → ∀ p, fst (EC S) (prm (EC S)) C 0 (fun _ => -1) p → ∀ S' h', Pic G A B S' h' → (∀ k, ¬ kp5 k → S' k = S k) → VI G S' c → EC S' = EC S → post (ii (p j)) h') (q3 : EC S 7 j ≠ 1 → post (-20004) h) (q4 : EC S 7 j = 1 → ¬ okp (EC S) (prm (EC S)) C 0 (fun _ => -1) → ∀ S' h', Pic G A B S' h' → (∀ k, ¬ kp5 k → S' k = S k) → VI G S' c → EC S' = EC S → post (-20005) h') : wp_L_ask G (A 0) 28 x y h post := by
  subst hx hy
  refine deed_28 (P.o (k := 0) rfl) ?_
  exact P.c_packed (vi_ki I) (vi_39 I) (rg_n (by omega)) (rg_n (by omega)) (fun _ _ e p o S' h' P' k c39 => q1 e p o S' h' P' k (vi_kp5 I k c39).1 (vi_kp5 I k c39).2) (fun z => absurd ⟨by omega, by omega⟩ z) (fun _ z => absurd (vi_st I hj) z) (fun _ _ e => xA_uo (q3 e)) (fun _ _ e o S' h' P' k c39 => xA_ns (q4 e o S' h' P' k (vi_kp5 I k c39).1 (vi_kp5 I k c39).2))
theorem Pic.k29 (P : Pic G A B S h) (I : VI G S c) {j : Nat} (hj : j < 6) {x y : Int32} (hx : x = ii (j : Int)) (q1 : S 42 j ≠ -1 → post (ii (S 42 j)) h) (q2 : S 42 j = -1 → post (-20005) h) : wp_L_ask G (A 0) 29 x y h post := by
  subst hx
  refine deed_29 (P.o (k := 0) rfl) ?_
  exact P.c_priceOf (vi_ki I) (vi_se I).2.1 (rg_n (by omega)) (fun _ z => q1 z) (fun z => absurd (vi_st I hj) z) (fun _ z => xA_ns (q2 z))
theorem Pic.k30 (P : Pic G A B S h) (I : VI G S c) {i : Nat} (hi : i ≤ 4) {x y : Int32} (hx : x = ii (i : Int)) (q1 : i < 4 → post (ii (S 44 i)) h) (q2 : i = 4 → post (-20001) h) : wp_L_ask G (A 0) 30 x y h post := by
  subst hx
  have e := vi_72 I
  refine deed_30 (P.o (k := 0) rfl) ?_
  exact P.c_bought (vi_bd I).1 (rg_n (by omega)) (fun z => q1 (by omega)) (fun z => xA_io (q2 (by omega)))
theorem Pic.k31 (P : Pic G A B S h) (I : VI G S c) {i : Nat} (hi : i < 4) {x y : Int32} (hx : x = ii (i : Int)) (q : post (ii (S 45 i)) h) : wp_L_ask G (A 0) 31 x y h post := by
  subst hx
  have e := vi_72 I
  refine deed_31 (P.o (k := 0) rfl) ?_
  refine P.c_pays (vi_bd I).1 (rg_n (by omega)) (fun z => ?_) (fun z => absurd ⟨by omega, by omega⟩ z)
  rw [Int32.toInt32_toInt64]
  exact q
theorem Pic.k32 (P : Pic G A B S h) (I : VI G S c) {j : Nat} (hj : j < 6) {x y : Int32} (hx : x = ii (j : Int)) (q1 : S 48 j ≠ -1 → post (ii (S 48 j)) h) (q2 : S 48 j = -1 → post (-20005) h) : wp_L_ask G (A 0) 32 x y h post := by
  subst hx
  refine deed_32 (P.o (k := 0) rfl) ?_
  exact P.c_phaseOf (vi_ki I) (vi_mv I).2 (rg_n (by omega)) (fun _ z => q1 z) (fun z => absurd (vi_st I hj) z) (fun _ z => xA_ns (q2 z))
end ASK
