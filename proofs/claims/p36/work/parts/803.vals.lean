/-! the answers, each as one number -/
theorem im1 : (-20001 : Int32) = ii (-20001) := by decide
theorem im2 : (-20002 : Int32) = ii (-20002) := by decide
theorem im3 : (-20003 : Int32) = ii (-20003) := by decide
theorem im4 : (-20004 : Int32) = ii (-20004) := by decide
theorem im5 : (-20005 : Int32) = ii (-20005) := by decide
/-- equal as ints, equal as numbers -/
theorem iieq {a b : Int} {x : Int32} (hx : x = ii b) (h1 : rg a) (h2 : rg b) : (ii a = x) = (a = b) := by
  subst hx
  exact propext (ii_eq h1 h2)
theorem iieq' {a b : Int} {x : Int32} (hx : x = ii b) (h1 : rg a) (h2 : rg b) : (x = ii a) = (b = a) := by
  subst hx
  exact propext (ii_eq h2 h1)
theorem iile {a b : Int} {x y : Int32} (hx : x = ii a) (hy : y = ii b) (h1 : rg a) (h2 : rg b) : (x ≤ y) = (a ≤ b) := by
  subst hx hy
  exact propext (ii_le h1 h2)
theorem iilt {a b : Int} {x y : Int32} (hx : x = ii a) (hy : y = ii b) (h1 : rg a) (h2 : rg b) : (x < y) = (a < b) := by
  subst hx hy
  exact propext (ii_lt h1 h2)
theorem tb1 {b : Bool} {X : Int32 → Prop} (g : X (ii (bI b))) : (¬ ii (bI b) = 1 → X 0) ∧ (ii (bI b) = 1 → X 1) := by
  cases b with
  | true => exact ⟨fun z => absurd rfl z, fun _ => g⟩
  | false => exact ⟨fun _ => g, fun z => absurd z (by decide)⟩
theorem bI_rg (b : Bool) : rg (bI b) := by cases b <;> exact ⟨by decide, by decide⟩
/-- nothing but the packer's own rows differs -/
def FR (S0 S : Nat → Nat → Int) : Prop := ∀ k, ¬ kp5 k → S k = S0 k
theorem FR.rf {S : Nat → Nat → Int} : FR S S := fun _ _ => rfl
theorem FR.tr {S0 S1 S2 : Nat → Nat → Int} (a : FR S0 S1) (b : FR S1 S2) : FR S0 S2 := fun k hk => by rw [b k hk, a k hk]
theorem FR.ec {S0 S1 : Nat → Nat → Int} (a : FR S0 S1) : EC S1 = EC S0 := EC_of (fun k hk => a k (fun z => by unfold kp5 at z; unfold kl at hk; omega))
section VAL
variable {G : Gx} {A : Nat → Nat} {B : Nat → Nat → Nat} {S : Nat → Nat → Int} {h : hw} {c : Nat} {post : Int32 → hw → Prop}
theorem Pic.a22 (P : Pic G A B S h) (I : VI G S c) {j : Nat} (hj : j < 6) {x y : Int32} (hx : x = ii (j : Int)) (q : ∀ v : Int, rg v → (S 32 j = -1 → v = -20004) → (S 32 j ≠ -1 → v = -20005 → kp (EC S) j (S 32) = true) → post (ii v) h) : wp_L_ask G (A 0) 22 x y h post :=
  P.k22 I hj hx (fun z => by rw [im4]; exact q _ ⟨by decide, by decide⟩ (fun _ => rfl) (fun w => absurd z w)) (fun z a h1 h2 => q a ⟨by omega, by omega⟩ (fun w => absurd w z) (fun _ w => by omega)) (fun z w => by rw [im5]; exact q _ ⟨by decide, by decide⟩ (fun w => absurd w z) (fun _ _ => w))
theorem Pic.a23 (P : Pic G A B S h) (I : VI G S c) {j : Nat} (hj : j < 6) {x y : Int32} (hx : x = ii (j : Int)) (q : ∀ v : Int, rg v → (S 32 j = -1 → v = -20004) → (S 32 j ≠ -1 → v = bI (kp (EC S) j (S 32))) → post (ii v) h) : wp_L_ask G (A 0) 23 x y h post :=
  P.k23 I hj hx (fun z => by rw [im4]; exact q _ ⟨by decide, by decide⟩ (fun _ => rfl) (fun w => absurd z w)) (fun z => q _ (bI_rg _) (fun w => absurd w z) (fun _ => rfl))
theorem Pic.a27 (P : Pic G A B S h) (I : VI G S c) {C : Nat} (hC : 1 ≤ C ∧ C ≤ 8) {x y : Int32} (hx : x = ii (C : Int)) (q : ∀ b : Bool, (b = true ↔ okp (EC S) (prm (EC S)) C 0 (fun _ => -1)) → ∀ S' h', Pic G A B S' h' → VI G S' c → FR S S' → post (ii (bI b)) h') : wp_L_ask G (A 0) 27 x y h post :=
  P.k27 I hC hx (fun o S' h' P' k I' _ => q true ⟨fun _ => o, fun _ => rfl⟩ S' h' P' I' k) (fun o S' h' P' k I' _ => q false ⟨(fun z => by cases z), (fun z => absurd z o)⟩ S' h' P' I' k)
theorem Pic.a28 (P : Pic G A B S h) (I : VI G S c) {C j : Nat} (hC : 1 ≤ C ∧ C ≤ 8) (hj : j < 6) {x y : Int32} (hx : x = ii (C : Int)) (hy : y = ii (j : Int)) (q : ∀ v : Int, rg v → (prt G j = false → v = -20004) → (prt G j = true → ¬ okp (EC S) (prm (EC S)) C 0 (fun _ => -1) → v = -20005) → (prt G j = true → okp (EC S) (prm (EC S)) C 0 (fun _ => -1) → ∃ p, fst (EC S) (prm (EC S)) C 0 (fun _ => -1) p ∧ v = p j ∧ 0 ≤ v ∧ v < C) → ∀ S' h', Pic G A B S' h' → VI G S' c → FR S S' → post (ii v) h') : wp_L_ask G (A 0) 28 x y h post := by
  have pj := vi_p1 I hj
  have n6 := vi_nt I
  refine P.k28 I hC hj hx hy (fun e p o S' h' P' e' I' _ => ?_) (fun e => ?_) (fun e o S' h' P' e' I' _ => ?_)
  · have pm : prm (EC S) j = true := by unfold prm; rw [decide_eq_true e, decide_eq_true (by omega)]; rfl
    have w := (o.2 j (by omega) (by omega) pm).1
    refine q (p j) ⟨by omega, by omega⟩ (fun z => ?_) (fun _ z => absurd (fst_ok o) z) (fun _ _ => ⟨p, o, rfl, w⟩) S' h' P' I' e'
    rw [pj.mp e] at z; cases z
  · rw [im4]
    refine q _ ⟨by decide, by decide⟩ (fun _ => rfl) (fun z => absurd (pj.mpr z) e) (fun z => absurd (pj.mpr z) e) S h P I FR.rf
  · rw [im5]
    refine q _ ⟨by decide, by decide⟩ (fun z => ?_) (fun _ _ => rfl) (fun _ z => absurd z o) S' h' P' I' e'
    rw [pj.mp e] at z; cases z
theorem Pic.a29 (P : Pic G A B S h) (I : VI G S c) {j : Nat} (hj : j < 6) {x y : Int32} (hx : x = ii (j : Int)) (q : ∀ v : Int, rg v → (S 42 j = -1 → v = -20005) → (S 42 j ≠ -1 → v = S 42 j ∧ 0 ≤ v) → post (ii v) h) : wp_L_ask G (A 0) 29 x y h post := by
  have w := (vi_se I).2.1 j (by omega)
  exact P.k29 I hj hx (fun z => q _ ⟨by omega, by omega⟩ (fun y => absurd y z) (fun _ => ⟨rfl, by omega⟩)) (fun z => by rw [im5]; exact q _ ⟨by decide, by decide⟩ (fun _ => rfl) (fun y => absurd z y))
theorem Pic.a32 (P : Pic G A B S h) (I : VI G S c) {j : Nat} (hj : j < 6) {x y : Int32} (hx : x = ii (j : Int)) (q : ∀ v : Int, rg v → (S 48 j = -1 → v = -20005) → (S 48 j ≠ -1 → v = S 48 j ∧ 0 ≤ v) → post (ii v) h) : wp_L_ask G (A 0) 32 x y h post := by
  have w := (vi_mv I).2 j (by omega)
  exact P.k32 I hj hx (fun z => q _ ⟨by omega, by omega⟩ (fun y => absurd y z) (fun _ => ⟨rfl, by omega⟩)) (fun z => by rw [im5]; exact q _ ⟨by decide, by decide⟩ (fun _ => rfl) (fun y => absurd z y))
end VAL
