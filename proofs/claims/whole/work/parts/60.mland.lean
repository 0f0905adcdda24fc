/-! the reference: its land -/
def EM (S : Nat → Nat → Int) (k i : Nat) : Int :=
  if k = 0 then (if i < 10 then S 106 i else 0)
  else if k = 1 then (if i < 10 then S 107 i else 0)
  else if k = 2 then (if i < 10 then S 108 i else 0)
  else if k = 3 then (if i < 400 then S 105 i else 0)
  else if k = 4 then (if i < 8 then S 109 i else 0)
  else if k = 5 then (if i < 8 then S 110 i else 0)
  else if k = 6 then (if i < 8 then S 111 i else 0)
  else if k = 7 then (if i < 8 then S 112 i else 0)
  else if i = 0 then S 80 2 else if i = 1 then S 80 4 else if i = 2 then S 80 3 else 0
section ML
variable {G : Gx} {A : Nat → Nat} {B : Nat → Nat → Nat} {S : Nat → Nat → Int} {h : hw}
theorem EM_0 {i : Nat} (q : i < 10) : EM S 0 i = S 106 i := if_pos q
theorem EM_1 {i : Nat} (q : i < 10) : EM S 1 i = S 107 i := if_pos q
theorem EM_2 {i : Nat} (q : i < 10) : EM S 2 i = S 108 i := if_pos q
theorem EM_3 {i : Nat} (q : i < 400) : EM S 3 i = S 105 i := if_pos q
theorem EM_4 {i : Nat} (q : i < 8) : EM S 4 i = S 109 i := if_pos q
theorem EM_5 {i : Nat} (q : i < 8) : EM S 5 i = S 110 i := if_pos q
theorem EM_6 {i : Nat} (q : i < 8) : EM S 6 i = S 111 i := if_pos q
theorem EM_7 {i : Nat} (q : i < 8) : EM S 7 i = S 112 i := if_pos q
/-- an array of ints of the reference's own -/
theorem Pic.md (P : Pic G A B S h) {k f i : Nat} {x : Int32} {K : Int32 → Prop} (h1 : 100 ≤ k ∧ k < 136 ∧ mkd k = 0 ∧ (ctMo A (S 80))[f]? = some (.ref (A k))) (hx : x = ii (i : Int)) (hi : i < mal k) (q : K (ii (S k i))) : rdR h (A 80) 12 f (fun v => ldI G h v x K) := P.rR (k := 80) rfl h1.2.2.2 (P.mld h1.1 h1.2.1 h1.2.2.1 hx hi q)
theorem Pic.zd (P : Pic G A B S h) {k f i : Nat} {x : Int32} {K : Int32 → Prop} (h1 : 100 ≤ k ∧ k < 136 ∧ mkd k = 1 ∧ (ctMo A (S 80))[f]? = some (.ref (A k))) (hx : x = ii (i : Int)) (hi : i < mal k) (q : K (ii (S k i))) : rdR h (A 80) 12 f (fun v => ldZ G h v x K) := P.rR (k := 80) rfl h1.2.2.2 (P.zld h1.1 h1.2.1 h1.2.2.1 hx hi q)
theorem Pic.ms (P : Pic G A B S h) {k f i : Nat} {x v : Int32} {z : Int} {K : hw → Prop} (h1 : 100 ≤ k ∧ k < 136 ∧ mkd k = 0 ∧ (ctMo A (S 80))[f]? = some (.ref (A k))) (hx : x = ii (i : Int)) (hv : v = ii z) (hi : i < mal k) (q : ∀ h', Pic G A B (su S k i z) h' → K h') : rdR h (A 80) 12 f (fun a => stI G h a x v K) := P.rR (k := 80) rfl h1.2.2.2 (P.mst h1.1 h1.2.1 h1.2.2.1 hx hv hi q)
theorem Pic.zs (P : Pic G A B S h) {k f i : Nat} {x v : Int32} {z : Int} {K : hw → Prop} (h1 : 100 ≤ k ∧ k < 136 ∧ mkd k = 1 ∧ (ctMo A (S 80))[f]? = some (.ref (A k))) (hx : x = ii (i : Int)) (hv : v = ii z) (hz : z = 0 ∨ z = 1) (hi : i < mal k) (q : ∀ h', Pic G A B (su S k i z) h' → K h') : rdR h (A 80) 12 f (fun a => stZ G h a x v K) := P.rR (k := 80) rfl h1.2.2.2 (P.zst h1.1 h1.2.1 h1.2.2.1 hx hv hz hi q)
theorem Pic.mtop (P : Pic G A B S h) (hE : EOK (EM S)) {a : Nat} (ha : a < 10) {post : Int32 → Prop} (q : post (ii (topE (EM S) a))) : wp_X12_topOf G (A 80) (ii (a : Int)) h post := by
  have r0 := hE.1 a; have r1 := hE.2.1 a
  have e0 := EM_0 (S := S) ha; have e1 := EM_1 (S := S) ha; have e2 := EM_2 (S := S) ha
  refine P.md (k := 108) (i := a) ⟨by omega, by omega, rfl, rfl⟩ rfl (show _ < 10 from ha) ?_
  refine P.rR (k := 80) rfl rfl ?_
  refine P.md (k := 107) (i := a) ⟨by omega, by omega, rfl, rfl⟩ rfl (show _ < 10 from ha) ?_
  refine P.md (k := 106) (i := a) ⟨by omega, by omega, rfl, rfl⟩ rfl (show _ < 10 from ha) ?_
  refine P.mld (k := 105) (i := (20 * EM S 1 a + EM S 0 a).toNat) (by omega) (by omega) rfl ?_ (show _ < 400 by omega) ?_
  · rw [il_20, ii_mul, ii_add]; exact congrArg ii (by omega)
  · rw [ii_add, ← e2, ← EM_3 (S := S) (show (20 * EM S 1 a + EM S 0 a).toNat < 400 by omega)]
    exact q
theorem mx_nat {a b : Nat} : mx (a : Int) (b : Int) = ((max a b : Nat) : Int) := by unfold mx; split <;> omega
theorem mn_nat {a b : Nat} : mn (a : Int) (b : Int) = ((min a b : Nat) : Int) := by unfold mn; split <;> omega
theorem Pic.mloss (P : Pic G A B S h) (hE : EOK (EM S)) {a b : Nat} (ha : a < 10) (hb : b < 10) {x y : Int32} (hx : x = ii (a : Int)) (hy : y = ii (b : Int)) {post : Int32 → Prop} (q : post (ii (lossE (EM S) a b))) : wp_X12_lossOf G (A 80) x y h post := by
  subst hx hy
  unfold wp_X12_lossOf
  rw [ii_eq ⟨by omega, by omega⟩ ⟨by omega, by omega⟩, ii_mx ⟨by omega, by omega⟩ ⟨by omega, by omega⟩, ii_mn ⟨by omega, by omega⟩ ⟨by omega, by omega⟩, mx_nat, mn_nat]
  refine ⟨fun hne => ?_, fun he => ?_⟩
  · obtain ⟨s, hs⟩ : ∃ s, s = max a b := ⟨_, rfl⟩
    obtain ⟨f, hf⟩ : ∃ f, f = min a b := ⟨_, rfl⟩
    rw [← hs, ← hf]
    have hs10 : s < 10 := by omega
    have hf10 : f < 10 := by omega
    have q : post (ii (lossO (EM S) f s)) := by
      unfold lossE at q
      rw [if_neg (by omega)] at q
      by_cases c : a < b
      · rw [if_pos c] at q; rw [hs, hf, show max a b = b by omega, show min a b = a by omega]; exact q
      · rw [if_neg c] at q; rw [hs, hf, show max a b = a by omega, show min a b = b by omega]; exact q
    have e1 := EM_0 (S := S) hf10; have e2 := EM_0 (S := S) hs10
    have e3 := EM_1 (S := S) hf10; have e4 := EM_1 (S := S) hs10
    have r1 := hE.1 f; have r2 := hE.1 s; have r3 := hE.2.1 f; have r4 := hE.2.1 s
    have hst := stp_le hE f s
    have hq := sq_le hE f s
    refine P.md (k := 106) (i := s) ⟨by omega, by omega, rfl, rfl⟩ rfl (show _ < 10 from hs10) ?_
    refine P.md (k := 106) (i := f) ⟨by omega, by omega, rfl, rfl⟩ rfl (show _ < 10 from hf10) ?_
    refine P.md (k := 107) (i := s) ⟨by omega, by omega, rfl, rfl⟩ rfl (show _ < 10 from hs10) ?_
    refine P.md (k := 107) (i := f) ⟨by omega, by omega, rfl, rfl⟩ rfl (show _ < 10 from hf10) ?_
    have es : jmax (jabs (ii (S 106 s) - ii (S 106 f))) (jabs (ii (S 107 s) - ii (S 107 f))) = ii (stp (EM S) f s) := by
      rw [← e1, ← e2, ← e3, ← e4, ii_sub, ii_sub, ii_ab ⟨by omega, by omega⟩, ii_ab ⟨by omega, by omega⟩, ii_mx]
      · rfl
      · unfold ab rg; omega
      · unfold ab rg; omega
    have eq2 : (100 : Int32) * (((ii (S 106 s) - ii (S 106 f)) * (ii (S 106 s) - ii (S 106 f))) + ((ii (S 107 s) - ii (S 107 f)) * (ii (S 107 s) - ii (S 107 f)))) = ii (((sqE (EM S) f s).toNat : Nat) : Int) := by
      rw [← e1, ← e2, ← e3, ← e4, ii_sub, ii_sub, ii_mul, ii_mul, ii_add, il_100, ii_mul, Int.toNat_of_nonneg hq.1]
      rfl
    rw [es, eq2]
    intro J hJ
    obtain ⟨n, hn⟩ : ∃ n, n = (sqE (EM S) f s).toNat := ⟨_, rfl⟩
    rw [← hn] at hJ
    have hnl : n ≤ 72200 := by omega
    have rti := rt_is n
    have rtl := rt_le (n := n) (m := 268) (by omega)
    -- the way behind the root
    have tail : ∀ J112 : Int32 → Int32 → Prop, (∀ (x10_10 : Int32) (x11_11 : Int32), ((((ii (stp (EM S) f s)) ≤ x11_11 → post ((200 + (8 * ii (rt n : Nat))) + (60 * x10_10))) ∧ (¬ (ii (stp (EM S) f s)) ≤ x11_11 → rdR h (A 80) 12 6 (fun v12 => ldI G h v12 (ii (f : Int)) (fun v13 => wp_J9_floorDiv_7cf53 G (x11_11 * (ii (S 106 s) - ii (S 106 f))) (ii (stp (EM S) f s)) h (fun r14 => rdR h (A 80) 12 7 (fun v15 => ldI G h v15 (ii (f : Int)) (fun v16 => wp_J9_floorDiv_7cf53 G (x11_11 * (ii (S 107 s) - ii (S 107 f))) (ii (stp (EM S) f s)) h (fun r17 => (isO h (A 80) 12 ∧ wp_X12_topOf G (A 80) (ii (f : Int)) h (fun r18 => (isO h (A 80) 12 ∧ wp_X12_topOf G (A 80) (ii (s : Int)) h (fun r19 => (¬ ((ii (stp (EM S) f s)) : Int32) = 0 ∧ rdR h (A 80) 12 5 (fun v20 => ldI G h v20 ((20 * (v16 + r17)) + (v13 + r14)) (fun v21 => ∀ J208 : Int32 → Int32 → Prop, (∀ (t22 : Int32) (t23 : Int32), (J112 (t22 + t23) (x11_11 + 1)) → J208 t22 t23) → ((v21 ≤ (((r18 * ((ii (stp (EM S) f s)) - x11_11)) + (r19 * x11_11)) / (ii (stp (EM S) f s))) → J208 x10_10 0) ∧ (¬ v21 ≤ (((r18 * ((ii (stp (EM S) f s)) - x11_11)) + (r19 * x11_11)) / (ii (stp (EM S) f s))) → J208 x10_10 1)))))))))))))))))) → J112 x10_10 x11_11) → J112 (ii 0) (ii 1) := by
      intro J112 hJ112
      have main : ∀ k : Nat, k ≤ (stp (EM S) f s).toNat - 1 → J112 (ii (blk (EM S) f s k)) (ii ((k + 1 : Nat) : Int)) := by
        intro k hk
        refine lp_up (J := fun k => J112 (ii (blk (EM S) f s k)) (ii ((k + 1 : Nat) : Int))) (n := (stp (EM S) f s).toNat - 1) ?_ ?_ hk
        · apply hJ112
          rw [ii_le ⟨by omega, by omega⟩ ⟨by omega, by omega⟩]
          refine ⟨fun _ => ?_, fun c2 => absurd (show stp (EM S) f s ≤ ((((stp (EM S) f s).toNat - 1 + 1 : Nat)) : Int) by omega) c2⟩
          rw [il_8, il_60, il_200, ii_mul, ii_mul, ii_add, ii_add]
          unfold lossO at q
          rw [← hn] at q
          exact q
        · intro k hk ih
          apply hJ112
          rw [ii_le ⟨by omega, by omega⟩ ⟨by omega, by omega⟩]
          refine ⟨fun c2 => absurd c2 (by omega), fun _ => ?_⟩
          have ok := inw_ok hE (a := f) (b := s) (k := ((k + 1 : Nat) : Int)) (by omega) (by omega)
          obtain ⟨o1, o2, o3, o4, o5⟩ := ok
          refine P.md (k := 106) (i := f) ⟨by omega, by omega, rfl, rfl⟩ rfl (show _ < 10 from hf10) ?_
          rw [← e1, ← e2, ← e3, ← e4, ii_sub, ii_mul]
          refine fd_of ⟨by omega, by omega⟩ ⟨by omega, by omega⟩ (by omega) ⟨by omega, by omega⟩ ?_
          refine P.md (k := 107) (i := f) ⟨by omega, by omega, rfl, rfl⟩ rfl (show _ < 10 from hf10) ?_
          rw [ii_sub, ii_mul]
          refine fd_of ⟨by omega, by omega⟩ ⟨by omega, by omega⟩ (by omega) ⟨by omega, by omega⟩ ?_
          refine ⟨P.o (k := 80) rfl, P.mtop hE hf10 ?_⟩
          refine ⟨P.o (k := 80) rfl, P.mtop hE hs10 ?_⟩
          refine ⟨by rw [il_0, ii_eq ⟨by omega, by omega⟩ ⟨by decide, by decide⟩]; omega, ?_⟩
          rw [← e3, ii_add, ii_add, il_20, ii_mul, ii_add]
          have ex : 20 * (EM S 1 f + ((k + 1 : Nat) : Int) * (EM S 1 s - EM S 1 f) / stp (EM S) f s) + (EM S 0 f + ((k + 1 : Nat) : Int) * (EM S 0 s - EM S 0 f) / stp (EM S) f s) = (((20 * (EM S 1 f + ((k + 1 : Nat) : Int) * (EM S 1 s - EM S 1 f) / stp (EM S) f s) + (EM S 0 f + ((k + 1 : Nat) : Int) * (EM S 0 s - EM S 0 f) / stp (EM S) f s)).toNat : Nat) : Int) := by omega
          refine P.md (k := 105) (i := (20 * (EM S 1 f + ((k + 1 : Nat) : Int) * (EM S 1 s - EM S 1 f) / stp (EM S) f s) + (EM S 0 f + ((k + 1 : Nat) : Int) * (EM S 0 s - EM S 0 f) / stp (EM S) f s)).toNat) ⟨by omega, by omega, rfl, rfl⟩ (by rw [← ex]) (show _ < 400 by omega) ?_
          intro J2 hJ2
          rw [ii_sub, ii_mul, ii_mul, ii_add]
          rw [ii_div ⟨by omega, by omega⟩ ⟨by omega, by omega⟩ (by omega), tdv o3.1]
          have l1 : 0 ≤ (topE (EM S) f * (stp (EM S) f s - ((k + 1 : Nat) : Int)) + topE (EM S) s * ((k + 1 : Nat) : Int)) / stp (EM S) f s := Int.ediv_nonneg o3.1 (by omega)
          have l2 : (topE (EM S) f * (stp (EM S) f s - ((k + 1 : Nat) : Int)) + topE (EM S) s * ((k + 1 : Nat) : Int)) / stp (EM S) f s ≤ topE (EM S) f * (stp (EM S) f s - ((k + 1 : Nat) : Int)) + topE (EM S) s * ((k + 1 : Nat) : Int) := Int.ediv_le_self _ o3.1
          rw [← EM_3 (S := S) (show (20 * (EM S 1 f + ((k + 1 : Nat) : Int) * (EM S 1 s - EM S 1 f) / stp (EM S) f s) + (EM S 0 f + ((k + 1 : Nat) : Int) * (EM S 0 s - EM S 0 f) / stp (EM S) f s)).toNat < 400 by omega)]
          have l3 := hE.2.2.2.1 (20 * (EM S 1 f + ((k + 1 : Nat) : Int) * (EM S 1 s - EM S 1 f) / stp (EM S) f s) + (EM S 0 f + ((k + 1 : Nat) : Int) * (EM S 0 s - EM S 0 f) / stp (EM S) f s)).toNat
          rw [ii_le ⟨by omega, by omega⟩ ⟨by omega, by omega⟩]
          have eb : blk (EM S) f s (k + 1) = blk (EM S) f s k + (if inw (EM S) f s ((k + 1 : Nat) : Int) = true then 1 else 0) := rfl
          refine ⟨fun c2 => ?_, fun c2 => ?_⟩
          · apply hJ2
            have e9 : inw (EM S) f s ((k + 1 : Nat) : Int) = false := decide_eq_false (Int.not_lt.mpr c2)
            rw [e9] at eb
            rw [ii_inc', il_0, ii_add, show blk (EM S) f s k + 0 = blk (EM S) f s (k + 1) by rw [eb]; simp]
            exact ih
          · apply hJ2
            have e9 : inw (EM S) f s ((k + 1 : Nat) : Int) = true := decide_eq_true (Int.not_le.mp c2)
            rw [e9] at eb
            rw [ii_inc', il_1, ii_add, show blk (EM S) f s k + 1 = blk (EM S) f s (k + 1) by rw [eb]; simp]
            exact ih
      exact main 0 (by omega)
    have main : ∀ r : Nat, r ≤ rt n → J (ii (r : Int)) := by
      intro r hr
      refine lp_up (J := fun r : Nat => J (ii (r : Int))) (n := rt n) ?_ ?_ hr
      · apply hJ
        rw [ii_inc', ii_mul, ← Int.natCast_mul, ii_lt ⟨by omega, by omega⟩ ⟨by omega, by have := Nat.mul_le_mul (show rt n + 1 ≤ 269 by omega) (show rt n + 1 ≤ 269 by omega); omega⟩]
        exact ⟨fun _ => tail, fun c => absurd (show ((n : Nat) : Int) < (((rt n + 1) * (rt n + 1) : Nat) : Int) by have := rti.2; omega) c⟩
      · intro r hr ih
        apply hJ
        have hsq : (r + 1) * (r + 1) ≤ rt n * rt n := Nat.mul_le_mul (by omega) (by omega)
        have := rti.1
        rw [ii_inc', ii_mul, ← Int.natCast_mul, ii_lt ⟨by omega, by omega⟩ ⟨by omega, by omega⟩]
        have hle : ¬ ((n : Nat) : Int) < (((r + 1) * (r + 1) : Nat) : Int) := by omega
        exact ⟨fun c => absurd c hle, fun _ => ih⟩
    exact main 0 (by omega)
  · have : a = b := by omega
    subst this
    unfold lossE at q
    rw [if_pos rfl] at q
    exact q
theorem Pic.mlev (P : Pic G A B S h) (hE : EOK (EM S)) {j : Nat} (hj : j < 8) {x : Int32} (hx : x = ii (j : Int)) {post : Int32 → Prop} (q : post (ii (lvE (EM S) j))) : wp_X12_levelOf G (A 80) x h post := by
  have r4 := hE.2.2.2.2.1 j; have r5 := hE.2.2.2.2.2.1 j
  have e4 := EM_4 (S := S) hj; have e5 := EM_5 (S := S) hj; have e6 := EM_6 (S := S) hj
  refine P.md (k := 111) (i := j) ⟨by omega, by omega, rfl, rfl⟩ hx (show _ < 8 from hj) ?_
  refine P.md (k := 109) (i := j) ⟨by omega, by omega, rfl, rfl⟩ hx (show _ < 8 from hj) ?_
  refine P.md (k := 110) (i := j) ⟨by omega, by omega, rfl, rfl⟩ hx (show _ < 8 from hj) ?_
  refine ⟨P.o (k := 80) rfl, P.mloss hE (a := (EM S 4 j).toNat) (b := (EM S 5 j).toNat) (by omega) (by omega) (by rw [← e4]; exact congrArg ii (by omega)) (by rw [← e5]; exact congrArg ii (by omega)) ?_⟩
  rw [ii_sub, ← e6]
  exact q
theorem Pic.mharmBy (P : Pic G A B S h) (hE : EOK (EM S)) {o s : Nat} (ho : o < 8) (hs : s < 8) {ap : Int} (hap : 0 ≤ ap ∧ ap ≤ 1000) {x y z : Int32} (hx : x = ii (o : Int)) (hy : y = ii (s : Int)) (hz : z = ii ap) {post : Int32 → Prop} (q : post (ii (hmE (EM S) o s ap))) : wp_X12_harmBy G (A 80) x y z h post := by
  have r4 := hE.2.2.2.2.1 o; have r5 := hE.2.2.2.2.2.1 s
  have e4 := EM_4 (S := S) ho; have e5 := EM_5 (S := S) hs; have e6 := EM_6 (S := S) ho
  subst hz
  refine P.md (k := 111) (i := o) ⟨by omega, by omega, rfl, rfl⟩ hx (show _ < 8 from ho) ?_
  refine P.md (k := 109) (i := o) ⟨by omega, by omega, rfl, rfl⟩ hx (show _ < 8 from ho) ?_
  refine P.md (k := 110) (i := s) ⟨by omega, by omega, rfl, rfl⟩ hy (show _ < 8 from hs) ?_
  refine ⟨P.o (k := 80) rfl, P.mloss hE (a := (EM S 4 o).toNat) (b := (EM S 5 s).toNat) (by omega) (by omega) (by rw [← e4]; exact congrArg ii (by omega)) (by rw [← e5]; exact congrArg ii (by omega)) ?_⟩
  unfold hmE wk at q
  rw [← e6, ii_sub, il_500, il_300, il_0, il_1, ii_sub, ii_sub, ii_sub, ii_eq ⟨by omega, by omega⟩ ⟨by decide, by decide⟩, ii_eq ⟨by omega, by omega⟩ ⟨by decide, by decide⟩]
  refine ⟨fun c => ⟨fun c2 => ?_, fun c2 => ?_⟩, fun c => ?_⟩
  · rw [if_neg c, if_neg c2] at q; exact q
  · rw [if_neg c, if_pos c2] at q; exact q
  · rw [if_pos c] at q; exact q
end ML
