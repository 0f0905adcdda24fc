/-! lists: what they hold when one more is in -/
theorem ii_half {a : Int} (h0 : 0 ≤ a) (h1 : a ≤ 2147483647) : (ii a >>> ((1 : Int32) &&& 31)) = ii (a / 2) := by
  rw [← ii_of (ii a >>> ((1 : Int32) &&& 31))]
  refine congrArg ii ?_
  have e : (ii a >>> ((1 : Int32) &&& 31)).toBitVec = (ii a).toBitVec.sshiftRight 1 := by
    rw [Int32.toBitVec_shiftRight]
    show (ii a).toBitVec.sshiftRight (((1 : Int32) &&& 31).toBitVec.smod 32).toNat = _
    rw [show (((1 : Int32) &&& 31).toBitVec.smod 32).toNat = 1 by decide]
  show (ii a >>> ((1 : Int32) &&& 31)).toBitVec.toInt = a / 2
  rw [e, BitVec.toInt_sshiftRight, Int.shiftRight_eq_div_pow]
  show (ii a).toInt / ((2 ^ 1 : Nat) : Int) = a / 2
  rw [ii_toInt ⟨by omega, h1⟩]
  rfl
theorem oNat (n : Nat) : Int32.ofNat n = ii (n : Int) := ii_ofNat n
section AD
variable {G : Gx} {h : hw}
/-- there is room -/
theorem add_in {l a x cap : Nat} {mc n : Int} {f : Nat → Option Nat} {bc bs : Nat} {post : Int32 → hw → Prop} (hl : h l = some (.inr (14, [.int (ii mc), .ref a, .int (ii n)]))) (ha : h a = some (.inl (G.2.2.1.2.2.2.2, cap, .inr (.inr (.inr (.inr f)))))) (hx : isE h x) (hn : 0 ≤ n ∧ n < cap) (hcap : cap ≤ 2147483647) (q : ∀ h', h' l = some (.inr (14, [.int (ii (mc + 1)), .ref a, .int (ii (n + 1))])) → h' a = some (.inl (G.2.2.1.2.2.2.2, cap, .inr (.inr (.inr (.inr (fun i => if i = n.toNat then some x else f i)))))) → (∀ y, y ≠ l → y ≠ a → h' y = h y) → post 1 h') : wp_Jx4a65c_add_9ea2d G l x h bc bs post := by
  have hla : l ≠ a := fun z => by rw [z, ha] at hl; cases hl
  obtain ⟨h2, e2⟩ : ∃ h2, h2 = hwu h l (.inr (14, [.int (ii (mc + 1)), .ref a, .int (ii n)])) := ⟨_, rfl⟩
  have g2 : h2 l = some (.inr (14, [.int (ii (mc + 1)), .ref a, .int (ii n)])) := by rw [e2]; exact if_pos rfl
  have o2 : ∀ y, y ≠ l → h2 y = h y := fun y hy => by rw [e2]; exact if_neg hy
  have a2 : h2 a = some (.inl (G.2.2.1.2.2.2.2, cap, .inr (.inr (.inr (.inr f))))) := by rw [o2 a (Ne.symm hla)]; exact ha
  refine rdI_of hl rfl ?_
  refine ⟨_, hl, (by show 0 < 3; decide), ?_⟩
  rw [show ([Value.int (ii mc), Value.ref a, Value.int (ii n)] : List Value).set 0 (.int (ii mc + 1)) = [Value.int (ii (mc + 1)), Value.ref a, Value.int (ii n)] by rw [il_1, ii_add]; rfl, ← e2]
  refine rdR_of g2 rfl ?_
  refine rdI_of g2 rfl ?_
  refine ⟨0, 0, by omega, by omega, ⟨_, g2⟩, ?_⟩
  refine Or.inl ⟨_, a2, ?_⟩
  intro J hJ
  show (¬ ii n = Int32.ofNat cap → J a h2 0 0) ∧ _
  rw [oNat, ii_eq ⟨by omega, by omega⟩ ⟨by omega, by omega⟩]
  refine ⟨fun _ => ?_, fun z => by omega⟩
  apply hJ
  have hx2 : isE h2 x := by
    obtain ⟨ci, fs, b1, b2⟩ := hx
    by_cases z : x = l
    · rw [z]; exact ⟨_, _, g2, Or.inr (Or.inr (Or.inr rfl))⟩
    · exact ⟨ci, fs, by rw [o2 x z]; exact b1, b2⟩
  refine ⟨cap, f, a2, vp_ii hn.1 hn.2 (by omega), hx2, ?_⟩
  obtain ⟨h3, e3⟩ : ∃ h3, h3 = hwu h2 a (.inl (G.2.2.1.2.2.2.2, cap, .inr (.inr (.inr (.inr (va_up f (ii n).toNatClampNeg (some x))))))) := ⟨_, rfl⟩
  rw [← e3]
  have g3 : h3 l = some (.inr (14, [.int (ii (mc + 1)), .ref a, .int (ii n)])) := by rw [e3]; show (if l = a then _ else h2 l) = _; rw [if_neg hla]; exact g2
  refine ⟨_, g3, (by show 2 < 3; decide), by omega, by omega, by omega, by omega, ?_⟩
  rw [show ([Value.int (ii (mc + 1)), Value.ref a, Value.int (ii n)] : List Value).set 2 (.int (ii n + 1)) = [Value.int (ii (mc + 1)), Value.ref a, Value.int (ii (n + 1))] by rw [il_1, ii_add]; rfl]
  refine q _ (if_pos rfl) ?_ (fun y y1 y2 => ?_)
  · show (if a = l then _ else h3 a) = _
    rw [if_neg (Ne.symm hla), e3]
    show (if a = a then _ else _) = _
    rw [if_pos rfl, ii_nat hn.1 (by omega)]
    rfl
  · show (if y = l then _ else h3 y) = _
    rw [if_neg y1, e3]
    show (if y = a then _ else h2 y) = _
    rw [if_neg y2]; exact o2 y y1
/-- none was in -/
theorem add_0 {l x : Nat} {mc : Int} {bc bs : Nat} (hbc : 1 ≤ bc) (hbs : 10 ≤ bs) {post : Int32 → hw → Prop} (hl : h l = some (.inr (14, [.int (ii mc), .ref (Gt0 G), .int (ii 0)]))) (hx : isE h x) (q : ∀ a h', h a = none → Gb G a → h' l = some (.inr (14, [.int (ii (mc + 1)), .ref a, .int (ii 1)])) → h' a = some (.inl (G.2.2.1.2.2.2.2, 10, .inr (.inr (.inr (.inr (fun i => if i = 0 then some x else none)))))) → (∀ y, y ≠ l → y ≠ a → h' y = h y) → post 1 h') : wp_Jx4a65c_add_9ea2d G l x h bc bs post := by
  obtain ⟨h2, e2⟩ : ∃ h2, h2 = hwu h l (.inr (14, [.int (ii (mc + 1)), .ref (Gt0 G), .int (ii 0)])) := ⟨_, rfl⟩
  have g2 : h2 l = some (.inr (14, [.int (ii (mc + 1)), .ref (Gt0 G), .int (ii 0)])) := by rw [e2]; exact if_pos rfl
  have o2 : ∀ y, y ≠ l → h2 y = h y := fun y hy => by rw [e2]; exact if_neg hy
  refine rdI_of hl rfl ?_
  refine ⟨_, hl, (by show 0 < 3; decide), ?_⟩
  rw [show ([Value.int (ii mc), Value.ref (Gt0 G), Value.int (ii 0)] : List Value).set 0 (.int (ii mc + 1)) = [Value.int (ii (mc + 1)), Value.ref (Gt0 G), Value.int (ii 0)] by rw [il_1, ii_add]; rfl, ← e2]
  refine rdR_of g2 rfl ?_
  refine rdI_of g2 rfl ?_
  refine ⟨1, 10, by omega, by omega, ⟨_, g2⟩, ?_⟩
  refine Or.inr ⟨rfl, ?_⟩
  intro J hJ
  refine ⟨fun z => absurd (il_0.symm) z, fun _ => ?_⟩
  refine ⟨1, 10, by omega, by omega, ⟨_, g2⟩, ?_⟩
  refine rdI_of g2 rfl ?_
  refine ⟨1, 10, by omega, by omega, ⟨_, g2⟩, ?_⟩
  refine rdR_of g2 rfl ?_
  refine Or.inr ⟨rfl, ?_⟩
  intro J20 hJ20
  refine ⟨fun z => absurd z (by decide), fun _ => ?_⟩
  refine rdR_of g2 rfl ?_
  refine ⟨fun _ => ⟨by omega, by omega, ?_⟩, fun z => absurd rfl z⟩
  have ej : jmax 10 (ii 0 + 1) = ii 10 := by decide
  rw [ej]
  refine ⟨by decide, by rw [ii_nat (by omega) (by omega)]; decide, by rw [ii_nat (by omega) (by omega)]; decide, fun a han hag => ?_⟩
  rw [ii_nat (by omega) (by omega)]
  obtain ⟨h3, e3⟩ : ∃ h3, h3 = hwu h2 a (.inl (G.2.2.1.2.2.2.2, (10 : Int).toNat, .inr (.inr (.inr (.inr (fun _ => none)))))) := ⟨_, rfl⟩
  rw [← e3]
  have hla : l ≠ a := fun z => by rw [← z, g2] at han; cases han
  have g3 : h3 l = some (.inr (14, [.int (ii (mc + 1)), .ref (Gt0 G), .int (ii 0)])) := by rw [e3]; show (if l = a then _ else h2 l) = _; rw [if_neg hla]; exact g2
  refine ⟨_, g3, (by show 1 < 3; decide), by omega, by omega, by omega, by omega, ?_⟩
  obtain ⟨h4, e4⟩ : ∃ h4, h4 = hwu h3 l (.inr (14, [.int (ii (mc + 1)), .ref a, .int (ii 0)])) := ⟨_, rfl⟩
  rw [show ([Value.int (ii (mc + 1)), Value.ref (Gt0 G), Value.int (ii 0)] : List Value).set 1 (.ref a) = [Value.int (ii (mc + 1)), Value.ref a, Value.int (ii 0)] from rfl, ← e4]
  apply hJ
  have g4 : h4 l = some (.inr (14, [.int (ii (mc + 1)), .ref a, .int (ii 0)])) := by rw [e4]; exact if_pos rfl
  have o4 : ∀ y, y ≠ l → y ≠ a → h4 y = h y := fun y y1 y2 => by
    rw [e4]; show (if y = l then _ else h3 y) = _
    rw [if_neg y1, e3]; show (if y = a then _ else h2 y) = _
    rw [if_neg y2]; exact o2 y y1
  have a4 : h4 a = some (.inl (G.2.2.1.2.2.2.2, 10, .inr (.inr (.inr (.inr (fun _ => none)))))) := by
    rw [e4]; show (if a = l then _ else h3 a) = _
    rw [if_neg (Ne.symm hla), e3]; exact if_pos rfl
  have hxa : x ≠ a := fun z => by
    obtain ⟨ci, fs, b1, b2⟩ := hx
    by_cases y : x = l
    · exact hla (y ▸ z)
    · rw [← z, o2 x y, b1] at han; cases han
  have hx4 : isE h4 x := by
    obtain ⟨ci, fs, b1, b2⟩ := hx
    by_cases z : x = l
    · rw [z]; exact ⟨_, _, g4, Or.inr (Or.inr (Or.inr rfl))⟩
    · exact ⟨ci, fs, by rw [o4 x z hxa]; exact b1, b2⟩
  refine ⟨10, _, a4, vp_ii (by omega) (by omega) (by omega), hx4, ?_⟩
  obtain ⟨h5, e5⟩ : ∃ h5, h5 = hwu h4 a (.inl (G.2.2.1.2.2.2.2, 10, .inr (.inr (.inr (.inr (va_up (fun _ => none) (ii 0).toNatClampNeg (some x))))))) := ⟨_, rfl⟩
  rw [← e5]
  have g5 : h5 l = some (.inr (14, [.int (ii (mc + 1)), .ref a, .int (ii 0)])) := by rw [e5]; show (if l = a then _ else h4 l) = _; rw [if_neg hla]; exact g4
  refine ⟨_, g5, (by show 2 < 3; decide), by omega, by omega, by omega, by omega, ?_⟩
  rw [show ([Value.int (ii (mc + 1)), Value.ref a, Value.int (ii 0)] : List Value).set 2 (.int (ii 0 + 1)) = [Value.int (ii (mc + 1)), Value.ref a, Value.int (ii 1)] from rfl]
  have han0 : h a = none := by rw [← o2 a (Ne.symm hla)]; exact han
  refine q a _ han0 hag (if_pos rfl) ?_ (fun y y1 y2 => ?_)
  · show (if a = l then _ else h5 a) = _
    rw [if_neg (Ne.symm hla), e5]
    show (if a = a then _ else _) = _
    rw [if_pos rfl]
    rfl
  · show (if y = l then _ else h5 y) = _
    rw [if_neg y1, e5]
    show (if y = a then _ else h4 y) = _
    rw [if_neg y2]; exact o4 y y1 y2
/-- it was full -/
theorem add_fl {l a x cap : Nat} {mc : Int} {f : Nat → Option Nat} {bc bs : Nat} (hbc : 1 ≤ bc) (hbs : cap + cap / 2 ≤ bs) {post : Int32 → hw → Prop} (hl : h l = some (.inr (14, [.int (ii mc), .ref a, .int (ii (cap : Int))]))) (ha : h a = some (.inl (G.2.2.1.2.2.2.2, cap, .inr (.inr (.inr (.inr f)))))) (hx : isE h x) (hf : ∀ i, i < cap → ∀ y, f i = some y → isE h y) (hc2 : 2 ≤ cap) (hcap : cap ≤ 10000000) (q : ∀ b h', h b = none → Gb G b → h' l = some (.inr (14, [.int (ii (mc + 1)), .ref b, .int (ii ((cap : Int) + 1))])) → h' b = some (.inl (G.2.2.1.2.2.2.2, cap + cap / 2, .inr (.inr (.inr (.inr (fun i => if i = cap then some x else if i < cap then f i else none)))))) → (∀ y, y ≠ l → y ≠ b → h' y = h y) → post 1 h') : wp_Jx4a65c_add_9ea2d G l x h bc bs post := by
  have hla : l ≠ a := fun z => by rw [z, ha] at hl; cases hl
  obtain ⟨h2, e2⟩ : ∃ h2, h2 = hwu h l (.inr (14, [.int (ii (mc + 1)), .ref a, .int (ii (cap : Int))])) := ⟨_, rfl⟩
  have g2 : h2 l = some (.inr (14, [.int (ii (mc + 1)), .ref a, .int (ii (cap : Int))])) := by rw [e2]; exact if_pos rfl
  have o2 : ∀ y, y ≠ l → h2 y = h y := fun y hy => by rw [e2]; exact if_neg hy
  have a2 : h2 a = some (.inl (G.2.2.1.2.2.2.2, cap, .inr (.inr (.inr (.inr f))))) := by rw [o2 a (Ne.symm hla)]; exact ha
  have E2 : ∀ y, isE h y → isE h2 y := fun y hy => by
    obtain ⟨ci, fs, b1, b2⟩ := hy
    by_cases z : y = l
    · rw [z]; exact ⟨_, _, g2, Or.inr (Or.inr (Or.inr rfl))⟩
    · exact ⟨ci, fs, by rw [o2 y z]; exact b1, b2⟩
  refine rdI_of hl rfl ?_
  refine ⟨_, hl, (by show 0 < 3; decide), ?_⟩
  rw [show ([Value.int (ii mc), Value.ref a, Value.int (ii (cap : Int))] : List Value).set 0 (.int (ii mc + 1)) = [Value.int (ii (mc + 1)), Value.ref a, Value.int (ii (cap : Int))] by rw [il_1, ii_add]; rfl, ← e2]
  refine rdR_of g2 rfl ?_
  refine rdI_of g2 rfl ?_
  refine ⟨1, cap + cap / 2, by omega, by omega, ⟨_, g2⟩, ?_⟩
  refine Or.inl ⟨_, a2, ?_⟩
  intro J hJ
  refine ⟨fun z => absurd (oNat cap).symm z, fun _ => ?_⟩
  refine ⟨1, cap + cap / 2, by omega, by omega, ⟨_, g2⟩, ?_⟩
  refine rdI_of g2 rfl ?_
  refine ⟨1, cap + cap / 2, by omega, by omega, ⟨_, g2⟩, ?_⟩
  refine rdR_of g2 rfl ?_
  refine Or.inl ⟨_, a2, ?_⟩
  intro J20 hJ20
  have go : J20 := by
    apply hJ20
    show wp_J8_newLength_cabcc G (Int32.ofNat cap) (ii (cap : Int) + 1 - Int32.ofNat cap) (Int32.ofNat cap >>> ((1 : Int32) &&& 31)) h2 _
    rw [oNat, ii_half (by omega) (by omega), il_1, ii_add, ii_sub]
    intro J21 hJ21
    have em : jmax (ii ((cap : Int) + 1 - (cap : Int))) (ii ((cap : Int) / 2)) = ii ((cap : Int) / 2) := by
      rw [ii_jmax ⟨by omega, by omega⟩ ⟨by omega, by omega⟩]
      by_cases z : (cap : Int) + 1 - (cap : Int) < (cap : Int) / 2
      · rw [if_pos z]
      · rw [if_neg z]; exact congrArg ii (by omega)
    rw [em, ii_add, il_0, ii_le ⟨by omega, by omega⟩ ⟨by decide, by decide⟩, show (2147483639 : Int32) = ii 2147483639 by decide, ii_lt ⟨by decide, by decide⟩ ⟨by omega, by omega⟩]
    refine ⟨fun z => by omega, fun _ => ⟨fun z => by omega, fun _ => ?_⟩⟩
    refine rdR_of g2 rfl ?_
    refine ⟨1, cap + cap / 2, by omega, by omega, ⟨_, a2⟩, ?_⟩
    refine ⟨1, cap + cap / 2, by omega, by omega, ?_⟩
    refine ⟨fun z => absurd rfl z, fun _ => ⟨by omega, by omega, ?_⟩⟩
    have en : (cap : Int) + (cap : Int) / 2 = ((cap + cap / 2 : Nat) : Int) := by omega
    rw [en]
    refine ⟨by rw [il_0, ii_lt ⟨by omega, by omega⟩ ⟨by decide, by decide⟩]; omega, by rw [ii_natN (by omega)]; omega, by rw [ii_natN (by omega)]; omega, fun b hbn hbg => ?_⟩
    rw [ii_natN (by omega)]
    obtain ⟨h3, e3⟩ : ∃ h3, h3 = hwu h2 b (.inl (G.2.2.1.2.2.2.2, cap + cap / 2, .inr (.inr (.inr (.inr (fun _ => none)))))) := ⟨_, rfl⟩
    rw [← e3]
    have hlb : l ≠ b := fun z => by rw [← z, g2] at hbn; cases hbn
    have hab : a ≠ b := fun z => by rw [← z, a2] at hbn; cases hbn
    have o3 : ∀ y, y ≠ b → h3 y = h2 y := fun y hy => by rw [e3]; exact if_neg hy
    have b3 : h3 b = some (.inl (G.2.2.1.2.2.2.2, cap + cap / 2, .inr (.inr (.inr (.inr (fun _ => none)))))) := by rw [e3]; exact if_pos rfl
    have a3 : h3 a = some (.inl (G.2.2.1.2.2.2.2, cap, .inr (.inr (.inr (.inr f))))) := by rw [o3 a hab]; exact a2
    have E3 : ∀ y, isE h y → isE h3 y := fun y hy => by
      obtain ⟨ci, fs, b1, b2⟩ := E2 y hy
      have : y ≠ b := fun z => by rw [← z, b1] at hbn; cases hbn
      exact ⟨ci, fs, by rw [o3 y this]; exact b1, b2⟩
    refine Or.inl ⟨_, a3, ?_⟩
    have ej : jmin (Int32.ofNat cap) (ii ((cap + cap / 2 : Nat) : Int)) = ii (cap : Int) := by
      rw [oNat, ii_jmin ⟨by omega, by omega⟩ ⟨by omega, by omega⟩, if_neg (by omega)]
    show cpA G h3 a 0 b 0 (jmin (Int32.ofNat cap) (ii ((cap + cap / 2 : Nat) : Int))) _
    rw [ej]
    refine ⟨cap, cap + cap / 2, f, _, a3, b3, by decide, by decide, by rw [il_0, ii_lt ⟨by omega, by omega⟩ ⟨by decide, by decide⟩]; omega, ?_, ?_, ?_, ?_⟩
    · rw [ii_natN (by omega)]; show (0 : Int32).toNatClampNeg + cap ≤ cap; rw [show (0 : Int32).toNatClampNeg = 0 by decide]; omega
    · rw [ii_natN (by omega)]; show (0 : Int32).toNatClampNeg + cap ≤ _; rw [show (0 : Int32).toNatClampNeg = 0 by decide]; omega
    · rw [ii_natN (by omega), show (0 : Int32).toNatClampNeg = 0 by decide]
      intro i hi y hy
      rw [Nat.zero_add] at hy
      exact E3 y (hf i hi y hy)
    · rw [ii_natN (by omega), show (0 : Int32).toNatClampNeg = 0 by decide]
      obtain ⟨h4, e4⟩ : ∃ h4, h4 = hwu h3 b (.inl (G.2.2.1.2.2.2.2, cap + cap / 2, .inr (.inr (.inr (.inr (va_cpy f (fun _ => none) 0 0 cap)))))) := ⟨_, rfl⟩
      rw [← e4]
      have g4 : h4 l = some (.inr (14, [.int (ii (mc + 1)), .ref a, .int (ii (cap : Int))])) := by rw [e4]; show (if l = b then _ else h3 l) = _; rw [if_neg hlb, o3 l hlb]; exact g2
      refine ⟨by omega, by omega, by omega, by omega, ?_⟩
      refine ⟨_, g4, (by show 1 < 3; decide), by omega, by omega, by omega, by omega, ?_⟩
      rw [show ([Value.int (ii (mc + 1)), Value.ref a, Value.int (ii (cap : Int))] : List Value).set 1 (.ref b) = [Value.int (ii (mc + 1)), Value.ref b, Value.int (ii (cap : Int))] from rfl]
      obtain ⟨h5, e5⟩ : ∃ h5, h5 = hwu h4 l (.inr (14, [.int (ii (mc + 1)), .ref b, .int (ii (cap : Int))])) := ⟨_, rfl⟩
      rw [← e5]
      apply hJ
      have g5 : h5 l = some (.inr (14, [.int (ii (mc + 1)), .ref b, .int (ii (cap : Int))])) := by rw [e5]; exact if_pos rfl
      have b5 : h5 b = some (.inl (G.2.2.1.2.2.2.2, cap + cap / 2, .inr (.inr (.inr (.inr (va_cpy f (fun _ => none) 0 0 cap)))))) := by
        rw [e5]; show (if b = l then _ else h4 b) = _
        rw [if_neg (Ne.symm hlb), e4]; exact if_pos rfl
      have o5 : ∀ y, y ≠ l → y ≠ b → h5 y = h y := fun y y1 y2 => by
        rw [e5]; show (if y = l then _ else h4 y) = _
        rw [if_neg y1, e4]; show (if y = b then _ else h3 y) = _
        rw [if_neg y2, o3 y y2]; exact o2 y y1
      have hx5 : isE h5 x := by
        obtain ⟨ci, fs, b1, b2⟩ := hx
        by_cases z : x = l
        · rw [z]; exact ⟨_, _, g5, Or.inr (Or.inr (Or.inr rfl))⟩
        · have : x ≠ b := fun w => by rw [← w, o2 x z, b1] at hbn; cases hbn
          exact ⟨ci, fs, by rw [o5 x z this]; exact b1, b2⟩
      refine ⟨cap + cap / 2, _, b5, vp_ii (by omega) (by omega) (by omega), hx5, ?_⟩
      rw [ii_natN (by omega)]
      obtain ⟨h6, e6⟩ : ∃ h6, h6 = hwu h5 b (.inl (G.2.2.1.2.2.2.2, cap + cap / 2, .inr (.inr (.inr (.inr (va_up (va_cpy f (fun _ => none) 0 0 cap) cap (some x))))))) := ⟨_, rfl⟩
      rw [← e6]
      have g6 : h6 l = some (.inr (14, [.int (ii (mc + 1)), .ref b, .int (ii (cap : Int))])) := by rw [e6]; show (if l = b then _ else h5 l) = _; rw [if_neg hlb]; exact g5
      refine ⟨_, g6, (by show 2 < 3; decide), by omega, by omega, by omega, by omega, ?_⟩
      rw [show ([Value.int (ii (mc + 1)), Value.ref b, Value.int (ii (cap : Int))] : List Value).set 2 (.int (ii (cap : Int) + 1)) = [Value.int (ii (mc + 1)), Value.ref b, Value.int (ii ((cap : Int) + 1))] by rw [il_1, ii_add]; rfl]
      have hbn0 : h b = none := by rw [← o2 b (Ne.symm hlb)]; exact hbn
      refine q b _ hbn0 hbg (if_pos rfl) ?_ (fun y y1 y2 => ?_)
      · show (if b = l then _ else h6 b) = _
        rw [if_neg (Ne.symm hlb), e6]
        show (if b = b then _ else _) = _
        rw [if_pos rfl]
        refine congrArg (fun w => some (Sum.inl (G.2.2.1.2.2.2.2, cap + cap / 2, Sum.inr (Sum.inr (Sum.inr (Sum.inr w)))))) ?_
        funext i
        unfold va_up va_cpy
        by_cases y : i = cap
        · rw [if_pos y, if_pos y]
        · rw [if_neg y, if_neg y]
          by_cases y2 : i < cap
          · rw [if_pos ⟨by omega, by omega⟩, if_pos y2]; exact congrArg f (by omega)
          · rw [if_neg (fun z => y2 (by omega)), if_neg y2]
      · show (if y = l then _ else h6 y) = _
        rw [if_neg y1, e6]
        show (if y = b then _ else h5 y) = _
        rw [if_neg y2]; exact o5 y y1 y2
  exact ⟨fun _ => go, fun z => absurd (show (0 : Int32) < Int32.ofNat cap by rw [oNat, il_0, ii_lt ⟨by omega, by omega⟩ ⟨by omega, by omega⟩]; omega) z⟩
end AD
