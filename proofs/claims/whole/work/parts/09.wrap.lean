section VU
variable {G : Gx} {Γ : Cx} {own : String} {cc : ByteArray} {nL fr lo mc ms cells slots pc : Nat} {hh : List (Nat × Nat × Nat × Nat)} {h : hw} {L : List (Nat × Value)} {st : List Value}
theorem U_getI (hC : COK G Γ own cc nL fr lo mc ms hh) {index ci k a : Nat} {ty : FieldType} (hf : FLD own index ci k ty) (hdg : decode cc pc = .ok (.getfield index, 3)) {K : Int32 → Prop} (hq : rdI h a ci k K) (kk : ∀ v : Int32, K v → V G Γ nL cells slots h (pc + 3) L (.int v :: st)) : V G Γ nL cells slots h pc L (.ref a :: st) := by
  obtain ⟨fs, v, e1, e2, e3⟩ := hq
  exact V_get hC hf e1 e2 hdg (kk v e3)
theorem U_getR (hC : COK G Γ own cc nL fr lo mc ms hh) {index ci k a : Nat} {ty : FieldType} (hf : FLD own index ci k ty) (hdg : decode cc pc = .ok (.getfield index, 3)) {K : Nat → Prop} (hq : rdR h a ci k K) (kk : ∀ v : Nat, K v → V G Γ nL cells slots h (pc + 3) L (.ref v :: st)) : V G Γ nL cells slots h pc L (.ref a :: st) := by
  obtain ⟨fs, v, e1, e2, e3⟩ := hq
  exact V_get hC hf e1 e2 hdg (kk v e3)
theorem U_put (hC : COK G Γ own cc nL fr lo mc ms hh) {index ci k a : Nat} {ty : FieldType} {v : Value} (hci : ci ≠ 13) (hf : FLD own index ci k ty) (hfin : ∀ C T N, mcl[ci]? = some (C, T, N) → (T k).2.2.2 = false ∧ (T k).1 = own) (hn : narrow ty v = v) (hfit : fits ty v = true) (hdg : decode cc pc = .ok (.putfield index, 3)) {K : hw → Prop} (hq : wrF h a ci k v K) (kk : ∀ h1 : hw, K h1 → V G Γ nL cells slots h1 (pc + 3) L st) : V G Γ nL cells slots h pc L (v :: .ref a :: st) := by
  obtain ⟨fs, e1, e2, e3⟩ := hq
  exact V_put hC hci hf e1 e2 (fun C T N z => (hfin C T N z).1) hn hfit hdg (kk _ e3)
theorem U_putO (hC : COK G Γ own cc nL fr lo mc ms hh) {index ci k a : Nat} {ty : FieldType} {v : Value} {C0 : String} (hci : ci ≠ 13) (hf : FLD own index ci k ty) (hfin : ∀ C T N, mcl[ci]? = some (C, T, N) → (T k).2.2.2 = false ∧ (T k).1 = C0) (hn : narrow ty v = v) (hfit : fits ty v = true) (hdg : decode cc pc = .ok (.putfield index, 3)) {K : hw → Prop} (hq : wrF h a ci k v K) (kk : ∀ h1 : hw, K h1 → V G Γ nL cells slots h1 (pc + 3) L st) : V G Γ nL cells slots h pc L (v :: .ref a :: st) := by
  obtain ⟨fs, e1, e2, e3⟩ := hq
  exact V_put hC hci hf e1 e2 (fun C T N z => (hfin C T N z).1) hn hfit hdg (kk _ e3)
theorem U_putF (hC : COK G Γ own cc nL fr lo mc ms hh) {index ci k a : Nat} {ty : FieldType} {v : Value} (hci : ci ≠ 13 ∨ Gb G a) (hf : FLD own index ci k ty) (hfin : ∀ C T N, mcl[ci]? = some (C, T, N) → (T k).2.2.2 = true ∧ (T k).1 = own) (hin : ∀ p e R s m args below meth c Q, Γ = (p, e, R, s, m, args, below, meth, c, Q) → meth.name = "<init>") (hn : narrow ty v = v) (hfit : fits ty v = true) (hdg : decode cc pc = .ok (.putfield index, 3)) {K : hw → Prop} (hq : wrF h a ci k v K) (kk : ∀ h1 : hw, K h1 → V G Γ nL cells slots h1 (pc + 3) L st) : V G Γ nL cells slots h pc L (v :: .ref a :: st) := by
  obtain ⟨fs, e1, e2, e3⟩ := hq
  exact V_putF hC hci hf e1 e2 hfin hin hn hfit hdg (kk _ e3)
theorem U_ldI (hC : COK G Γ own cc nL fr lo mc ms hh) {a : Nat} {i : Int32} (hdg : decode cc pc = .ok (.iaload, 1)) {K : Int32 → Prop} (hq : ldI G h a i K) (kk : ∀ v : Int32, K v → V G Γ nL cells slots h (pc + 1) L (.int v :: st)) : V G Γ nL cells slots h pc L (.int i :: .ref a :: st) := by
  obtain ⟨n, f, e1, e2, e3⟩ := hq
  exact V_iald hC e1 e2 hdg (kk _ e3)
theorem U_ldJ (hC : COK G Γ own cc nL fr lo mc ms hh) {a : Nat} {i : Int32} (hdg : decode cc pc = .ok (.laload, 1)) {K : Int64 → Prop} (hq : ldJ G h a i K) (kk : ∀ v : Int64, K v → V G Γ nL cells slots h (pc + 1) L (.long v :: st)) : V G Γ nL cells slots h pc L (.int i :: .ref a :: st) := by
  obtain ⟨n, f, e1, e2, e3⟩ := hq
  exact V_lald hC e1 e2 hdg (kk _ e3)
theorem U_ldZ (hC : COK G Γ own cc nL fr lo mc ms hh) {a : Nat} {i : Int32} (hdg : decode cc pc = .ok (.baload, 1)) {K : Int32 → Prop} (hq : ldZ G h a i K) (kk : ∀ v : Int32, K v → V G Γ nL cells slots h (pc + 1) L (.int v :: st)) : V G Γ nL cells slots h pc L (.int i :: .ref a :: st) := by
  obtain ⟨n, f, e1, e2, e3⟩ := hq
  exact V_zald hC e1 e2 hdg (kk _ e3)
theorem U_ldD (hC : COK G Γ own cc nL fr lo mc ms hh) {a : Nat} {i : Int32} (hdg : decode cc pc = .ok (.daload, 1)) {K : UInt64 → Prop} (hq : ldD G h a i K) (kk : ∀ v : UInt64, K v → V G Γ nL cells slots h (pc + 1) L (.double v :: st)) : V G Γ nL cells slots h pc L (.int i :: .ref a :: st) := by
  obtain ⟨n, f, e1, e2, e3⟩ := hq
  exact V_dald hC e1 e2 hdg (kk _ e3)
theorem U_ldA (hC : COK G Γ own cc nL fr lo mc ms hh) {a : Nat} {i : Int32} (hdg : decode cc pc = .ok (.aaload, 1)) {K : Nat → Prop} (hq : ldA G h a i K) (kk : ∀ v : Nat, K v → V G Γ nL cells slots h (pc + 1) L (.ref v :: st)) : V G Γ nL cells slots h pc L (.int i :: .ref a :: st) := by
  obtain ⟨n, f, b, e1, e2, e3, e4⟩ := hq
  refine V_aald hC e1 e2 hdg ?_
  rw [e3]
  exact kk b e4
theorem U_stI (hC : COK G Γ own cc nL fr lo mc ms hh) {a : Nat} {i : Int32} {x : Int32} (hdg : decode cc pc = .ok (.iastore, 1)) {K : hw → Prop} (hq : stI G h a i x K) (kk : ∀ h1 : hw, K h1 → V G Γ nL cells slots h1 (pc + 1) L st) : V G Γ nL cells slots h pc L (.int x :: .int i :: .ref a :: st) := by
  obtain ⟨n, f, e1, e2, e3⟩ := hq
  exact V_iast hC e1 e2 hdg (kk _ e3)
theorem U_stJ (hC : COK G Γ own cc nL fr lo mc ms hh) {a : Nat} {i : Int32} {x : Int64} (hdg : decode cc pc = .ok (.lastore, 1)) {K : hw → Prop} (hq : stJ G h a i x K) (kk : ∀ h1 : hw, K h1 → V G Γ nL cells slots h1 (pc + 1) L st) : V G Γ nL cells slots h pc L (.long x :: .int i :: .ref a :: st) := by
  obtain ⟨n, f, e1, e2, e3⟩ := hq
  exact V_last hC e1 e2 hdg (kk _ e3)
theorem U_stZ (hC : COK G Γ own cc nL fr lo mc ms hh) {a : Nat} {i : Int32} {x : Int32} (hdg : decode cc pc = .ok (.bastore, 1)) {K : hw → Prop} (hq : stZ G h a i x K) (kk : ∀ h1 : hw, K h1 → V G Γ nL cells slots h1 (pc + 1) L st) : V G Γ nL cells slots h pc L (.int x :: .int i :: .ref a :: st) := by
  obtain ⟨n, f, e1, e2, e3⟩ := hq
  exact V_zast hC e1 e2 hdg (kk _ e3)
theorem U_stD (hC : COK G Γ own cc nL fr lo mc ms hh) {a : Nat} {i : Int32} {x : UInt64} (hdg : decode cc pc = .ok (.dastore, 1)) {K : hw → Prop} (hq : stD G h a i x K) (kk : ∀ h1 : hw, K h1 → V G Γ nL cells slots h1 (pc + 1) L st) : V G Γ nL cells slots h pc L (.double x :: .int i :: .ref a :: st) := by
  obtain ⟨n, f, e1, e2, e3⟩ := hq
  exact V_dast hC e1 e2 hdg (kk _ e3)
theorem U_lnI (hC : COK G Γ own cc nL fr lo mc ms hh) {a : Nat} (hdg : decode cc pc = .ok (.arraylength, 1)) {K : Int32 → Prop} (hq : lnI G h a K) (kk : ∀ v : Int32, K v → V G Γ nL cells slots h (pc + 1) L (.int v :: st)) : V G Γ nL cells slots h pc L (.ref a :: st) := by
  obtain ⟨x, e1, e2⟩ := hq
  exact V_alenI hC e1 hdg (kk _ e2)
theorem U_lnA (hC : COK G Γ own cc nL fr lo mc ms hh) {a : Nat} (hdg : decode cc pc = .ok (.arraylength, 1)) {K : Int32 → Prop} (hq : lnA G h a K) (kk : ∀ v : Int32, K v → V G Γ nL cells slots h (pc + 1) L (.int v :: st)) : V G Γ nL cells slots h pc L (.ref a :: st) := by
  obtain ⟨x, e1, e2⟩ := hq
  exact V_alenA hC e1 hdg (kk _ e2)
theorem U_new (hC : COK G Γ own cc nL fr lo mc ms hh) {idx ci N : Nat} {fs : List Value} (hs : NO own idx ci N fs) (hcs : cells + 1 ≤ mc ∧ slots + N ≤ ms) (hdg : decode cc pc = .ok (.new idx, 3)) {K : Nat → hw → Prop} (hq : ∀ a : Nat, h a = none → Gb G a → K a (hwu h a (.inr (ci, fs)))) (kk : ∀ (a : Nat) (h1 : hw), K a h1 → V G Γ nL (cells + 1) (slots + N) h1 (pc + 3) L (.ref a :: st)) : V G Γ nL cells slots h pc L st :=
  V_new hC hs hcs hdg (fun a z1 z2 => kk a _ (hq a z1 z2))
def nwI (G : Gx) (h : hw) (n : Int32) (room : Nat) (K : Nat → hw → Prop) : Prop := ¬ n < 0 ∧ n.toNatClampNeg ≤ room ∧ n.toNatClampNeg * 4 ≤ 536870912 ∧ ∀ a : Nat, h a = none → Gb G a → K a (hwu h a (.inl (G.2.2.1.1, n.toNatClampNeg, .inl (fun _ => 0))))
theorem U_newaI (hC : COK G Γ own cc nL fr lo mc ms hh) {n : Int32} {room : Nat} (harr : Cond.arrayClass .int ∈ AW) (hcs : cells + 1 ≤ mc ∧ slots + room ≤ ms) (hdg : decode cc pc = .ok (.newarray .int, 2)) {K : Nat → hw → Prop} (hq : nwI G h n room K) (kk : ∀ (a : Nat) (h1 : hw), K a h1 → V G Γ nL (cells + 1) (slots + room) h1 (pc + 2) L (.ref a :: st)) : V G Γ nL cells slots h pc L (.int n :: st) := by
  obtain ⟨e1, e2, e3, e4⟩ := hq
  exact V_newaI hC harr e1 rfl e3 ⟨hcs.1, Nat.le_trans (Nat.add_le_add_left e2 _) hcs.2⟩ hdg (fun a z1 z2 => V_widen (Nat.le_refl _) (Nat.add_le_add_left e2 _) (kk a _ (e4 a z1 z2)))
def nwJ (G : Gx) (h : hw) (n : Int32) (room : Nat) (K : Nat → hw → Prop) : Prop := ¬ n < 0 ∧ n.toNatClampNeg ≤ room ∧ n.toNatClampNeg * 8 ≤ 536870912 ∧ ∀ a : Nat, h a = none → Gb G a → K a (hwu h a (.inl (G.2.2.1.2.1, n.toNatClampNeg, .inr (.inl (fun _ => 0)))))
theorem U_newaJ (hC : COK G Γ own cc nL fr lo mc ms hh) {n : Int32} {room : Nat} (harr : Cond.arrayClass .long ∈ AW) (hcs : cells + 1 ≤ mc ∧ slots + room ≤ ms) (hdg : decode cc pc = .ok (.newarray .long, 2)) {K : Nat → hw → Prop} (hq : nwJ G h n room K) (kk : ∀ (a : Nat) (h1 : hw), K a h1 → V G Γ nL (cells + 1) (slots + room) h1 (pc + 2) L (.ref a :: st)) : V G Γ nL cells slots h pc L (.int n :: st) := by
  obtain ⟨e1, e2, e3, e4⟩ := hq
  exact V_newaJ hC harr e1 rfl e3 ⟨hcs.1, Nat.le_trans (Nat.add_le_add_left e2 _) hcs.2⟩ hdg (fun a z1 z2 => V_widen (Nat.le_refl _) (Nat.add_le_add_left e2 _) (kk a _ (e4 a z1 z2)))
def nwZ (G : Gx) (h : hw) (n : Int32) (room : Nat) (K : Nat → hw → Prop) : Prop := ¬ n < 0 ∧ n.toNatClampNeg ≤ room ∧ n.toNatClampNeg * 1 ≤ 536870912 ∧ ∀ a : Nat, h a = none → Gb G a → K a (hwu h a (.inl (G.2.2.1.2.2.1, n.toNatClampNeg, .inl (fun _ => 0))))
theorem U_newaZ (hC : COK G Γ own cc nL fr lo mc ms hh) {n : Int32} {room : Nat} (harr : Cond.arrayClass .boolean ∈ AW) (hcs : cells + 1 ≤ mc ∧ slots + room ≤ ms) (hdg : decode cc pc = .ok (.newarray .boolean, 2)) {K : Nat → hw → Prop} (hq : nwZ G h n room K) (kk : ∀ (a : Nat) (h1 : hw), K a h1 → V G Γ nL (cells + 1) (slots + room) h1 (pc + 2) L (.ref a :: st)) : V G Γ nL cells slots h pc L (.int n :: st) := by
  obtain ⟨e1, e2, e3, e4⟩ := hq
  exact V_newaZ hC harr e1 rfl e3 ⟨hcs.1, Nat.le_trans (Nat.add_le_add_left e2 _) hcs.2⟩ hdg (fun a z1 z2 => V_widen (Nat.le_refl _) (Nat.add_le_add_left e2 _) (kk a _ (e4 a z1 z2)))
def nwD (G : Gx) (h : hw) (n : Int32) (room : Nat) (K : Nat → hw → Prop) : Prop := ¬ n < 0 ∧ n.toNatClampNeg ≤ room ∧ n.toNatClampNeg * 8 ≤ 536870912 ∧ ∀ a : Nat, h a = none → Gb G a → K a (hwu h a (.inl (G.2.2.1.2.2.2.1, n.toNatClampNeg, .inr (.inr (.inr (.inl (fun _ => 0)))))))
theorem U_newaD (hC : COK G Γ own cc nL fr lo mc ms hh) {n : Int32} {room : Nat} (harr : Cond.arrayClass .double ∈ AW) (hcs : cells + 1 ≤ mc ∧ slots + room ≤ ms) (hdg : decode cc pc = .ok (.newarray .double, 2)) {K : Nat → hw → Prop} (hq : nwD G h n room K) (kk : ∀ (a : Nat) (h1 : hw), K a h1 → V G Γ nL (cells + 1) (slots + room) h1 (pc + 2) L (.ref a :: st)) : V G Γ nL cells slots h pc L (.int n :: st) := by
  obtain ⟨e1, e2, e3, e4⟩ := hq
  exact V_newaD hC harr e1 rfl e3 ⟨hcs.1, Nat.le_trans (Nat.add_le_add_left e2 _) hcs.2⟩ hdg (fun a z1 z2 => V_widen (Nat.le_refl _) (Nat.add_le_add_left e2 _) (kk a _ (e4 a z1 z2)))
theorem U_acmp_eq (hC : COK G Γ own cc nL fr lo mc ms hh) {x y : Nat} {off : Int} {tgt : Nat} (hdg : decode cc pc = .ok (.if_acmp .eq off, 3)) (ht : (pc : Int) + off = (tgt : Int)) (kt : x = y → V G Γ nL cells slots h tgt L st) (kf : ¬ x = y → V G Γ nL cells slots h (pc + 3) L st) : V G Γ nL cells slots h pc L (.ref y :: .ref x :: st) :=
  V_acmp_eq (rx := some x) (ry := some y) hC hdg ht (fun z => kt (Option.some.inj z)) (fun z => kf (fun q => z (by rw [q])))
theorem U_acmp_ne (hC : COK G Γ own cc nL fr lo mc ms hh) {x y : Nat} {off : Int} {tgt : Nat} (hdg : decode cc pc = .ok (.if_acmp .ne off, 3)) (ht : (pc : Int) + off = (tgt : Int)) (kt : ¬ x = y → V G Γ nL cells slots h tgt L st) (kf : x = y → V G Γ nL cells slots h (pc + 3) L st) : V G Γ nL cells slots h pc L (.ref y :: .ref x :: st) :=
  V_acmp_ne (rx := some x) (ry := some y) hC hdg ht (fun z => kt (fun q => z (by rw [q]))) (fun z => kf (Option.some.inj z))
end VU
theorem nar_b {x : Int32} (h : x = 0 ∨ x = 1) : narrow .boolean (.int x) = .int x := by rcases h with rfl | rfl <;> rfl
theorem nar_b0 : narrow .boolean (.int 0) = .int 0 := rfl
theorem nar_b1 : narrow .boolean (.int 1) = .int 1 := rfl
theorem fit_b {x : Int32} (h : x = 0 ∨ x = 1) : fits .boolean (.int x) = true := by rcases h with rfl | rfl <;> rfl
theorem fit_i (x : Int32) : fits .int (.int x) = true := rfl
theorem fit_a (C : String) (x : Nat) : fits (.object C) (.ref x) = true := rfl
theorem fit_aa (C : FieldType) (x : Nat) : fits (.array C) (.ref x) = true := rfl
