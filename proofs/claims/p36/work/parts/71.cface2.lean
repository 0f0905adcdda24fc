/-! the class's own calls: days, prices, bidders, packings -/
section CF2
variable {G : Gx} {A : Nat → Nat} {B : Nat → Nat → Nat} {S : Nat → Nat → Int} {h : hw}
theorem Pic.c_goOn (P : Pic G A B S h) {d : Int} (hd : rg d) {post : Int32 → hw → Prop} {xp : String → hw → Prop} (q1 : (1 ≤ d ∧ d ≤ 99) → ∀ h', Pic G A B (su S 3 1 (S 3 1 + d)) h' → post (ii (S 3 1 + d)) h') (q0 : ¬ (1 ≤ d ∧ d ≤ 99) → xp "java/lang/IllegalArgumentException" h) : wp_X11_goOn G (A 0) (ii d) h post xp := by
  refine ⟨P.o (k := 0) rfl, needR hd (a := 1) (b := 99) ⟨by omega, by omega⟩ ⟨by omega, by omega⟩ rfl il_1 il_99 (fun a b => ?_) q0⟩
  refine P.rR (k := 0) rfl rfl (P.rI (k := 3) rfl rfl ?_)
  refine P.wF (k := 3) (z := S 3 1 + d) ⟨by decide, by decide, by decide, by decide⟩ rfl (show 1 < 5 by decide) (congrArg (fun v => some (Sum.inr (6, [Value.ref (A 12), Value.int v, Value.ref (A 13), Value.ref (A 14), Value.ref (A 15)]))) (by rw [ii_add, su_at])) (fun h1 P1 => ?_)
  refine P1.rR (k := 0) rfl rfl (P1.rI (k := 3) rfl rfl ?_)
  rw [su_at]
  exact q1 ⟨a, b⟩ h1 P1
theorem Pic.c_setAsked (P : Pic G A B S h) (hK : KI S) {v p : Int} (hv : rg v) (hp : rg p) {post : Int32 → hw → Prop} {xp : String → hw → Prop} (q1 : vst S v → (0 ≤ p ∧ p ≤ 9999) → ∀ h', Pic G A B (su S (70 + v.toNat) 5 p) h' → post (ii (S (70 + v.toNat) 5)) h') (q0 : ¬ vst S v → xp "java/lang/IndexOutOfBoundsException" h) (q2 : vst S v → ¬ (0 ≤ p ∧ p ≤ 9999) → xp "java/lang/IllegalArgumentException" h) : wp_X11_setAsked G (A 0) (ii v) (ii p) h post xp := by
  have h8 := hK.1.1.2.2.1
  refine ⟨P.o (k := 0) rfl, P.stAt hK.1.1 hv (fun a => ?_) q0⟩
  refine ⟨P.o (k := 0) rfl, needR hp (a := 0) (b := 9999) ⟨by omega, by omega⟩ ⟨by omega, by omega⟩ rfl il_0 il_9999 (fun b c => ?_) (q2 a)⟩
  have na := vst_n a
  refine P.rI (ctn_st na.2 (by omega)) rfl ?_
  refine P.wF (k := 70 + v.toNat) (z := p) ⟨by omega, by omega, by omega, by omega⟩ (ctn_st na.2 (by omega)) (by show 5 < 6; decide) ?_ (fun h1 P1 => q1 a ⟨b, c⟩ h1 P1)
  rw [ctn_st (by rw [su_ne _ _ _ (by omega)]; exact na.2) (by rw [su_ne _ _ _ (by omega)]; omega), su_nei _ _ _ (show 0 ≠ 5 by decide), su_nei _ _ _ (show 1 ≠ 5 by decide), su_nei _ _ _ (show 2 ≠ 5 by decide), su_nei _ _ _ (show 3 ≠ 5 by decide), su_nei _ _ _ (show 4 ≠ 5 by decide), su_at]
  rfl
theorem Pic.c_priceOf (P : Pic G A B S h) (hK : KI S) (hr : ∀ j, j < 8 → -1 ≤ S 42 j ∧ S 42 j ≤ 9999) {v : Int} (hv : rg v) {post : Int32 → Prop} {xp : String → Prop} (q1 : vst S v → S 42 v.toNat ≠ -1 → post (ii (S 42 v.toNat))) (q0 : ¬ vst S v → xp "java/lang/IndexOutOfBoundsException") (q2 : vst S v → S 42 v.toNat = -1 → xp "java/util/NoSuchElementException") : wp_X11_priceOf G (A 0) (ii v) h post xp := by
  have h8 := hK.1.1.2.2.1
  refine ⟨P.o (k := 0) rfl, P.stAt hK.1.1 hv (fun a => ?_) q0⟩
  have na := vst_n a
  have num := (hK.ends na.2).2.2.2.2.1
  have r := hr v.toNat (by omega)
  refine P.rR (k := 0) rfl rfl (P.rR (k := 6) rfl rfl (P.rI (ctn_st na.2 (by omega)) rfl ⟨P.o (k := 22) rfl, ?_⟩))
  refine P.at (k := 22) (rk := 42) (i := v.toNat) (by omega) (by omega) (by rw [num]) (show _ < 8 by omega) ?_
  rw [il_m1, ii_eq ⟨by omega, by omega⟩ ⟨by omega, by omega⟩]
  exact ⟨fun z => q1 a z, fun z => q2 a z⟩
theorem Pic.c_phaseOf (P : Pic G A B S h) (hK : KI S) (hr : ∀ j, j < 8 → -1 ≤ S 48 j ∧ S 48 j ≤ 16) {v : Int} (hv : rg v) {post : Int32 → Prop} {xp : String → Prop} (q1 : vst S v → S 48 v.toNat ≠ -1 → post (ii (S 48 v.toNat))) (q0 : ¬ vst S v → xp "java/lang/IndexOutOfBoundsException") (q2 : vst S v → S 48 v.toNat = -1 → xp "java/util/NoSuchElementException") : wp_X11_phaseOf G (A 0) (ii v) h post xp := by
  have h8 := hK.1.1.2.2.1
  refine ⟨P.o (k := 0) rfl, P.stAt hK.1.1 hv (fun a => ?_) q0⟩
  have na := vst_n a
  have num := (hK.ends na.2).2.2.2.2.1
  have r := hr v.toNat (by omega)
  refine P.rR (k := 0) rfl rfl (P.rR (k := 8) rfl rfl (P.rI (ctn_st na.2 (by omega)) rfl ⟨P.o (k := 28) rfl, ?_⟩))
  refine P.at (k := 28) (rk := 48) (i := v.toNat) (by omega) (by omega) (by rw [num]) (show _ < 8 by omega) ?_
  rw [il_m1, ii_eq ⟨by omega, by omega⟩ ⟨by omega, by omega⟩]
  exact ⟨fun z => q1 a z, fun z => q2 a z⟩
theorem Pic.c_rounds (P : Pic G A B S h) {post : Int32 → Prop} (q : post (ii (S 6 4))) : wp_X11_rounds G (A 0) h post := P.rR (k := 0) rfl rfl (P.rI (k := 6) rfl rfl q)
theorem Pic.c_dark (P : Pic G A B S h) {post : Int32 → Prop} (q : post (ii (S 8 2))) : wp_X11_dark G (A 0) h post := P.rR (k := 0) rfl rfl (P.rI (k := 8) rfl rfl q)
theorem Pic.needB (P : Pic G A B S h) (hB : 0 ≤ S 7 2 ∧ S 7 2 ≤ 4) {v : Int} (hv : rg v) {post : Prop} {xp : String → Prop} (q1 : 0 ≤ v ∧ v < S 7 2 → post) (q0 : ¬ (0 ≤ v ∧ v < S 7 2) → xp "java/lang/IndexOutOfBoundsException") : wp_X11_needBidder G (A 0) (ii v) h post xp := by
  intro J hJ
  rw [il_0, ii_lt hv ⟨by omega, by omega⟩]
  refine ⟨fun c => hJ (q0 (by omega)), fun c => ?_⟩
  refine P.rR (k := 0) rfl rfl (P.rI (k := 7) rfl rfl ?_)
  rw [ii_lt hv ⟨by omega, by omega⟩]
  exact ⟨fun c2 => q1 ⟨by omega, c2⟩, fun c2 => hJ (q0 (by omega))⟩
theorem Pic.c_bought (P : Pic G A B S h) (hB : 0 ≤ S 7 2 ∧ S 7 2 ≤ 4) {v : Int} (hv : rg v) {post : Int32 → Prop} {xp : String → Prop} (q1 : 0 ≤ v ∧ v < S 7 2 → post (ii (S 44 v.toNat))) (q0 : ¬ (0 ≤ v ∧ v < S 7 2) → xp "java/lang/IndexOutOfBoundsException") : wp_X11_bought G (A 0) (ii v) h post xp := by
  refine ⟨P.o (k := 0) rfl, P.needB hB hv (fun a => ?_) q0⟩
  refine P.rR (k := 0) rfl rfl (P.oat (i := v.toNat) (k := 7) (r := 24) (rk := 44) rfl rfl ⟨by omega, by omega⟩ (congrArg ii (by omega)) (show _ < 4 by omega) (q1 a))
theorem Pic.c_pays (P : Pic G A B S h) (hB : 0 ≤ S 7 2 ∧ S 7 2 ≤ 4) {v : Int} (hv : rg v) {post : Int64 → Prop} {xp : String → Prop} (q1 : 0 ≤ v ∧ v < S 7 2 → post (Int32.toInt64 (ii (S 45 v.toNat)))) (q0 : ¬ (0 ≤ v ∧ v < S 7 2) → xp "java/lang/IndexOutOfBoundsException") : wp_X11_pays G (A 0) (ii v) h post xp := by
  refine ⟨P.o (k := 0) rfl, P.needB hB hv (fun a => ?_) q0⟩
  refine P.rR (k := 0) rfl rfl (P.oat (i := v.toNat) (k := 7) (r := 25) (rk := 45) rfl rfl ⟨by omega, by omega⟩ (congrArg ii (by omega)) (show _ < 4 by omega) (q1 a))
theorem Pic.c_addBidder (P : Pic G A B S h) (hB : BD S) {a b c : Int} (ha : rg a) (hb : rg b) (hc : rg c) {post : Int32 → hw → Prop} {xp : String → hw → Prop} (q1 : (0 ≤ a ∧ a ≤ 9999) → (0 ≤ b ∧ b ≤ a) → (0 ≤ c ∧ c ≤ b) → S 7 2 < 4 → ∀ S' h', Pic G A B S' h' → (∀ k, k ≠ 7 → k ≠ 46 → S' k = S k) → S' 46 = up (up (up (S 46) (nB S * 3) a) (nB S * 3 + 1) b) (nB S * 3 + 2) c → S' 7 2 = S 7 2 + 1 → post (ii (S 7 2)) h') (q0 : ¬ ((0 ≤ a ∧ a ≤ 9999) ∧ (0 ≤ b ∧ b ≤ a) ∧ 0 ≤ c ∧ c ≤ b) → xp "java/lang/IllegalArgumentException" h) (q2 : (0 ≤ a ∧ a ≤ 9999) → (0 ≤ b ∧ b ≤ a) → (0 ≤ c ∧ c ≤ b) → ¬ S 7 2 < 4 → xp "java/lang/IllegalStateException" h) : wp_X11_addBidder G (A 0) (ii a) (ii b) (ii c) h post xp := by
  have hb0 := hB.1
  refine ⟨P.o (k := 0) rfl, needR ha (a := 0) (b := 9999) ⟨by omega, by omega⟩ ⟨by omega, by omega⟩ rfl il_0 il_9999 (fun a0 a1 => ?_) (fun z => q0 (fun w => z w.1))⟩
  refine ⟨P.o (k := 0) rfl, needR hb (a := 0) (b := a) ⟨by omega, by omega⟩ ha rfl il_0 rfl (fun b0 b1 => ?_) (fun z => q0 (fun w => z w.2.1))⟩
  refine ⟨P.o (k := 0) rfl, needR hc (a := 0) (b := b) ⟨by omega, by omega⟩ hb rfl il_0 rfl (fun c0 c1 => ?_) (fun z => q0 (fun w => z w.2.2))⟩
  refine P.rR (k := 0) rfl rfl (P.rI (k := 7) rfl rfl ?_)
  rw [il_4, ii_lt ⟨by omega, by omega⟩ ⟨by omega, by omega⟩]
  refine ⟨fun z => ?_, fun z => q2 ⟨a0, a1⟩ ⟨b0, b1⟩ ⟨c0, c1⟩ z⟩
  refine P.rR (k := 0) rfl rfl ⟨P.o (k := 7) rfl, ?_⟩
  exact P.takeIn hB z (fun S' h' P' k1 k2 k3 => q1 ⟨a0, a1⟩ ⟨b0, b1⟩ ⟨c0, c1⟩ z S' h' P' k1 k2 k3)
theorem Pic.c_buy (P : Pic G A B S h) (hB : BD S) {c : Int} (hc : rg c) {post : Int32 → hw → Prop} {xp : String → hw → Prop} (q1 : (0 ≤ c ∧ c ≤ 8) → ∀ S' h', Pic G A B S' h' → (∀ k, ¬ kb k → S' k = S k) → (∀ i, i < 4 → S' 44 i = dl (S 46) (-1) (nB S) c.toNat i) → (∀ i, i < nB S → S' 45 i = woo (S 46) (dl (S 46) i (nB S) c.toNat) i (nB S) - woo (S 46) (dl (S 46) (-1) (nB S) c.toNat) i (nB S)) → (∀ i, nB S ≤ i → S' 45 i = S 45 i) → post (ii (sm (dl (S 46) (-1) (nB S) c.toNat) (nB S))) h') (q0 : ¬ (0 ≤ c ∧ c ≤ 8) → xp "java/lang/IllegalArgumentException" h) : wp_X11_buy G (A 0) (ii c) h post xp := by
  refine ⟨P.o (k := 0) rfl, needR hc (a := 0) (b := 8) ⟨by omega, by omega⟩ ⟨by omega, by omega⟩ rfl il_0 il_8 (fun a0 a1 => ?_) q0⟩
  refine P.rR (k := 0) rfl rfl ⟨P.o (k := 7) rfl, P.buyRun hB (C := c.toNat) (by omega) (congrArg ii (by omega)) (fun S' h' P' k1 k2 k3 k4 => q1 ⟨a0, a1⟩ S' h' P' k1 k2 k3 k4)⟩
theorem Pic.c_setRatio (P : Pic G A B S h) (hc : chs (S 32)) {r : Int} (hr : rg r) {post : Int32 → hw → Prop} {xp : String → hw → Prop} (q1 : (0 ≤ r ∧ r ≤ 500) → (∀ j, j < 8 → S 32 j = -1) → ∀ h', Pic G A B (su S 1 2 r) h' → post (ii (S 1 2)) h') (q0 : ¬ (0 ≤ r ∧ r ≤ 500) → xp "java/lang/IllegalArgumentException" h) (q2 : (0 ≤ r ∧ r ≤ 500) → ¬ (∀ j, j < 8 → S 32 j = -1) → xp "java/lang/IllegalStateException" h) : wp_X11_setRatio G (A 0) (ii r) h post xp := by
  refine ⟨P.o (k := 0) rfl, needR hr (a := 0) (b := 500) ⟨by omega, by omega⟩ ⟨by omega, by omega⟩ rfl il_0 il_500 (fun a0 a1 => ?_) q0⟩
  refine ⟨P.o (k := 0) rfl, P.needSil hc (fun s => ?_) (q2 ⟨a0, a1⟩)⟩
  refine P.rR (k := 0) rfl rfl (P.rI (k := 1) rfl rfl (P.rR (k := 0) rfl rfl ?_))
  refine P.wF (k := 1) (z := r) ⟨by decide, by decide, by decide, by decide⟩ rfl (show 2 < 3 by decide) (congrArg (fun v => some (Sum.inr (0, [Value.ref (A 2), Value.ref (A 51), Value.int v]))) (by rw [su_at])) (fun h1 P1 => q1 ⟨a0, a1⟩ s h1 P1)
/-- what a packing leaves of the class's cells -/
def kp5 (k : Nat) : Prop := k = 5 ∨ k = 39 ∨ k = 40 ∨ k = 41
theorem kp5_K {S S' : Nat → Nat → Int} (h : ∀ k, ¬ kp5 k → S' k = S k) (hK : KI S) : KI S' ∧ EC S' = EC S ∧ S' 51 2 = S 51 2 ∧ ∀ j, j < 10 → S' (70 + j) = S (70 + j) := by
  have e2 : ∀ k, kl k → S' k = S k := fun k hk => h k (fun z => by rcases z with z | z | z | z <;> subst z <;> rcases hk with z | z | z <;> omega)
  exact ⟨hK.of e2 (h 31 (fun z => by unfold kp5 at z; omega)), EC_of e2, by rw [h 51 (fun z => by unfold kp5 at z; omega)], fun j hj => h _ (fun z => by unfold kp5 at z; omega)⟩
/-- ready for packings into C channels -/
theorem Pic.prep (P : Pic G A B S h) (hK : KI S) (h39 : chs (S 39)) {C : Int} (hC : 0 ≤ C ∧ C ≤ 8) {x : Int32} (hx : x = ii C) {post : hw → Prop} (q : ∀ S' h', Pic G A B S' h' → (∀ k, ¬ kp5 k → S' k = S k) → KI S' → EC S' = EC S → PR S' (EC S) C → post h') : wp_X5_prepare G (A 5) (A 1) x h post := by
  refine P.prepare hK hx (fun S' h' P' k1 k2 k3 k4 => ?_)
  have f : ∀ k, ¬ kp5 k → S' k = S k := fun k hk => k1 k (fun z => hk (Or.inl z)) (fun z => hk (Or.inr (Or.inr (Or.inl z)))) (fun z => hk (Or.inr (Or.inr (Or.inr z))))
  obtain ⟨a1, a2, -⟩ := kp5_K f hK
  refine q S' h' P' f a1 a2 ⟨(nt8 hK).1, k4, k2, hC, MK_0 k3, by rw [k1 39 (by omega) (by omega) (by omega)]; exact h39⟩
/-- those that must keep their level -/
def prm (E : Nat → Nat → Int) (j : Nat) : Bool := decide (j < nt E) && decide (E 7 j = 1)
theorem Pic.c_packs (P : Pic G A B S h) (hK : KI S) (h39 : chs (S 39)) {C : Int} (hC : 0 ≤ C ∧ C ≤ 8) {x : Int32} (hx : x = ii C) {post : Int32 → hw → Prop} (q1 : ∀ S' h', Pic G A B S' h' → (∀ k, ¬ kp5 k → S' k = S k) → chs (S' 39) → fst (EC S) (prm (EC S)) C 0 (fun _ => -1) (S' 39) → post 1 h') (q0 : ∀ S' h', Pic G A B S' h' → (∀ k, ¬ kp5 k → S' k = S k) → chs (S' 39) → ¬ okp (EC S) (prm (EC S)) C 0 (fun _ => -1) → post 0 h') : rdR h (A 0) 11 3 (fun v1 => rdR h (A 0) 11 0 (fun v2 => (isO h v1 5 ∧ wp_X5_prepare G v1 v2 x h (fun h3 => rdR h3 (A 0) 11 3 (fun v4 => rdR h3 (A 0) 11 0 (fun v5 => (isO h3 v5 0 ∧ wp_X0_protectedOnes G v5 h3 (fun r6 => (isO h3 v4 5 ∧ wp_X5_findFirst G v4 r6 h3 post))))))))) := by
  refine P.rR (k := 0) rfl rfl (P.rR (k := 0) rfl rfl ⟨P.o (k := 5) rfl, P.prep hK h39 hC hx (fun S1 h1 P1 f1 hK1 eE hR => ?_)⟩)
  refine P1.rR (k := 0) rfl rfl (P1.rR (k := 0) rfl rfl ⟨P1.o (k := 1) rfl, P1.protOnes hK1 (fun y hy => ⟨P1.o (k := 5) rfl, ?_⟩)⟩)
  rw [eE] at hy
  have em : ∀ i, i < 8 → bt y i = prm (EC S) i := fun i _ => hy i
  refine P1.findFirst hR (fun i hi => ?_) (fun S2 h2 P2 k1 k2 k3 => ?_) (fun S2 h2 P2 k1 k2 k3 => ?_)
  · rw [hy i, Bool.and_eq_true, decide_eq_true_eq] at hi; exact hi.1
  · exact q1 S2 h2 P2 (fun k hk => by rw [k1 k (fun z => hk (Or.inl z)) (fun z => hk (Or.inr (Or.inl z))), f1 k hk]) k2.2.2.2.2.2 (fst_m em k3)
  · exact q0 S2 h2 P2 (fun k hk => by rw [k1 k (fun z => hk (Or.inl z)) (fun z => hk (Or.inr (Or.inl z))), f1 k hk]) k2.2.2.2.2.2 (fun z => k3 (okp_m (fun i hi => (em i hi).symm) z))
theorem Pic.c_canPack (P : Pic G A B S h) (hK : KI S) (h39 : chs (S 39)) {C : Int} (hC : rg C) {post : Int32 → hw → Prop} {xp : String → hw → Prop} (q1 : (1 ≤ C ∧ C ≤ 8) → okp (EC S) (prm (EC S)) C 0 (fun _ => -1) → ∀ S' h', Pic G A B S' h' → (∀ k, ¬ kp5 k → S' k = S k) → chs (S' 39) → post 1 h') (q3 : (1 ≤ C ∧ C ≤ 8) → ¬ okp (EC S) (prm (EC S)) C 0 (fun _ => -1) → ∀ S' h', Pic G A B S' h' → (∀ k, ¬ kp5 k → S' k = S k) → chs (S' 39) → post 0 h') (q0 : ¬ (1 ≤ C ∧ C ≤ 8) → xp "java/lang/IllegalArgumentException" h) : wp_X11_canPack G (A 0) (ii C) h post xp := by
  refine ⟨P.o (k := 0) rfl, needR hC (a := 1) (b := 8) ⟨by omega, by omega⟩ ⟨by omega, by omega⟩ rfl il_1 il_8 (fun a0 a1 => ?_) q0⟩
  refine P.c_packs hK h39 (C := C) ⟨by omega, a1⟩ rfl (fun S' h' P' f k3 k4 => ?_) (fun S' h' P' f k3 k4 => ?_)
  · exact ⟨Or.inr rfl, q1 ⟨a0, a1⟩ (fst_ok k4) S' h' P' f k3⟩
  · exact ⟨Or.inl rfl, q3 ⟨a0, a1⟩ k4 S' h' P' f k3⟩
theorem Pic.c_packed (P : Pic G A B S h) (hK : KI S) (h39 : chs (S 39)) {C v : Int} (hC : rg C) (hv : rg v) {post : Int32 → hw → Prop} {xp : String → hw → Prop} (q1 : (1 ≤ C ∧ C ≤ 8) → vst S v → EC S 7 v.toNat = 1 → ∀ p, fst (EC S) (prm (EC S)) C 0 (fun _ => -1) p → ∀ S' h', Pic G A B S' h' → (∀ k, ¬ kp5 k → S' k = S k) → chs (S' 39) → post (ii (p v.toNat)) h') (q0 : ¬ (1 ≤ C ∧ C ≤ 8) → xp "java/lang/IllegalArgumentException" h) (q2 : (1 ≤ C ∧ C ≤ 8) → ¬ vst S v → xp "java/lang/IndexOutOfBoundsException" h) (q3 : (1 ≤ C ∧ C ≤ 8) → vst S v → EC S 7 v.toNat ≠ 1 → xp "java/lang/UnsupportedOperationException" h) (q4 : (1 ≤ C ∧ C ≤ 8) → vst S v → EC S 7 v.toNat = 1 → ¬ okp (EC S) (prm (EC S)) C 0 (fun _ => -1) → ∀ S' h', Pic G A B S' h' → (∀ k, ¬ kp5 k → S' k = S k) → chs (S' 39) → xp "java/util/NoSuchElementException" h') : wp_X11_packed G (A 0) (ii C) (ii v) h post xp := by
  have h8 := hK.1.1.2.2.1
  refine ⟨P.o (k := 0) rfl, needR hC (a := 1) (b := 8) ⟨by omega, by omega⟩ ⟨by omega, by omega⟩ rfl il_1 il_8 (fun a0 a1 => ?_) q0⟩
  refine ⟨P.o (k := 0) rfl, P.stAt hK.1.1 hv (fun a => ?_) (q2 ⟨a0, a1⟩)⟩
  have na := vst_n a
  have en := hK.ends na.2
  have p01 := hK.1.2.1.2.2.2.2.2.2.2.1 v.toNat
  refine P.rI (ctn_st na.2 (by omega)) rfl ?_
  rw [en.2.2.2.1, il_0, ii_eq ⟨by omega, by omega⟩ ⟨by decide, by decide⟩]
  refine ⟨fun z => ?_, fun z => q3 ⟨a0, a1⟩ a (by omega)⟩
  have z1 : EC S 7 v.toNat = 1 := by omega
  refine P.c_packs hK h39 (C := C) ⟨by omega, a1⟩ rfl (fun S' h' P' f k3 k4 => ?_) (fun S' h' P' f k3 k4 => ?_)
  · refine ⟨fun _ => ?_, fun w => absurd w (by decide)⟩
    obtain ⟨hK', eE, e51, e7⟩ := kp5_K f hK
    refine P'.rR (k := 0) rfl rfl (P'.rR (k := 5) rfl rfl (P'.rI (ctn_st (by rw [e51]; exact na.2) (by rw [e51]; omega)) rfl ⟨P'.o (k := 19) rfl, ?_⟩))
    refine P'.at (k := 19) (rk := 39) (i := v.toNat) (by omega) (by omega) (by rw [e7 _ (by omega), en.2.2.2.2.1]) (show _ < 8 by omega) ?_
    exact q1 ⟨a0, a1⟩ a z1 (S' 39) k4 S' h' P' f k3
  · exact ⟨fun w => absurd rfl w, fun _ => q4 ⟨a0, a1⟩ a z1 k4 S' h' P' f k3⟩
end CF2
