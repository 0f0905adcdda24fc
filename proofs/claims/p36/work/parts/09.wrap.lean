section VU
variable {G : Gx} {Γ : Cx} {own : String} {cc : ByteArray} {nL fr lo mc ms cells slots pc : Nat} {hh : List (Nat × Nat × Nat × Nat)} {h : hw} {L : List (Nat × Value)} {st : List Value}
theorem U_getI (hC : COK G Γ own cc nL fr lo mc ms hh) {index ci k a : Nat} {ty : FieldType} (hf : FLD own index ci k ty) (hdg : decode cc pc = .ok (.getfield index, 3)) {K : Int32 → Prop} (hq : rdI h a ci k K) (kk : ∀ v : Int32, K v → V G Γ nL cells slots h (pc + 3) L (.int v :: st)) : V G Γ nL cells slots h pc L (.ref a :: st) := by
  obtain ⟨fs, v, e1, e2, e3⟩ := hq
  exact V_get hC hf e1 e2 hdg (kk v e3)
theorem U_getR (hC : COK G Γ own cc nL fr lo mc ms hh) {index ci k a : Nat} {ty : FieldType} (hf : FLD own index ci k ty) (hdg : decode cc pc = .ok (.getfield index, 3)) {K : Nat → Prop} (hq : rdR h a ci k K) (kk : ∀ v : Nat, K v → V G Γ nL cells slots h (pc + 3) L (.ref v :: st)) : V G Γ nL cells slots h pc L (.ref a :: st) := by
  obtain ⟨fs, v, e1, e2, e3⟩ := hq
  exact V_get hC hf e1 e2 hdg (kk v e3)
theorem U_put (hC : COK G Γ own cc nL fr lo mc ms hh) {index ci k a : Nat} {ty : FieldType} {v : Value} (hci : ci ≠ 13) (hf : FLD own index ci k ty) (hfin : ∀ C T N, mcl[ci]? = some (C, T, N) → (T k).2.2.2 = false ∧ (T k).1 = own) (hn : narrow ty v = v) (hfit : fits ty v = true) (hdg : decode cc pc = .ok (.putfield index, 3)) {K : hw → Prop} (hq : wrF h a ci k v K) (kk : ∀ h1 : hw, K h1 → V G Γ nL cells slots h1 (pc + 3) L st) : V G Γ nL cells slots h pc L (v :: .ref a :: st) := by
  obtain ⟨fs, e1, e2, e3⟩ := hq
  exact V_put hC hci hf e1 e2 (fun C T N z => (hfin C T N z).1) hn hfit hdg (kk _ e3)
theorem U_putO (hC : COK G Γ own cc nL fr lo mc ms hh) {index ci k a : Nat} {ty : FieldType} {v : Value} {C0 : String} (hci : ci ≠ 13) (hf : FLD own index ci k ty) (hfin : ∀ C T N, mcl[ci]? = some (C, T, N) → (T k).2.2.2 = false ∧ (T k).1 = C0) (hn : narrow ty v = v) (hfit : fits ty v = true) (hdg : decode cc pc = .ok (.putfield index, 3)) {K : hw → Prop} (hq : wrF h a ci k v K) (kk : ∀ h1 : hw, K h1 → V G Γ nL cells slots h1 (pc + 3) L st) : V G Γ nL cells slots h pc L (v :: .ref a :: st) := by
  obtain ⟨fs, e1, e2, e3⟩ := hq
  exact V_put hC hci hf e1 e2 (fun C T N z => (hfin C T N z).1) hn hfit hdg (kk _ e3)
theorem U_putF (hC : COK G Γ own cc nL fr lo mc ms hh) {index ci k a : Nat} {ty : FieldType} {v : Value} (hci : ci ≠ 13 ∨ Gb G a) (hf : FLD own index ci k ty) (hfin : ∀ C T N, mcl[ci]? = some (C, T, N) → (T k).2.2.2 = true ∧ (T k).1 = own) (hin : ∀ p e R s m args below meth c Q, Γ = (p, e, R, s, m, args, below, meth, c, Q) → meth.name = "<init>") (hn : narrow ty v = v) (hfit : fits ty v = true) (hdg : decode cc pc = .ok (.putfield index, 3)) {K : hw → Prop} (hq : wrF h a ci k v K) (kk : ∀ h1 : hw, K h1 → V G Γ nL cells slots h1 (pc + 3) L st) : V G Γ nL cells slots h pc L (v :: .ref a :: st) := by
  obtain ⟨fs, e1, e2, e3⟩ := hq
  exact V_putF hC hci hf e1 e2 hfin hin hn hfit hdg (kk _ e3)
theorem U_ldI (hC : COK G Γ own cc nL fr lo mc ms hh) {a : Nat} {i : Int32} (hdg : decode cc pc = .ok (.iaload, 1)) {K : Int32 → Prop} (hq : ldI G h a i K) (kk : ∀ v : Int32, K v → V G Γ nL cells slots h (pc + 1) L (.int v :: st)) : V G Γ nL cells slots h pc L (.int i :: .ref a :: st) := by
  obtain ⟨n, f, e1, e2, e3⟩ := hq
  exact V_iald hC e1 e2 hdg (kk _ e3)
theorem U_ldA (hC : COK G Γ own cc nL fr lo mc ms hh) {a : Nat} {i : Int32} (hdg : decode cc pc = .ok (.aaload, 1)) {K : Nat → Prop} (hq : ldA G h a i K) (kk : ∀ v : Nat, K v → V G Γ nL cells slots h (pc + 1) L (.ref v :: st)) : V G Γ nL cells slots h pc L (.int i :: .ref a :: st) := by
  obtain ⟨n, f, b, e1, e2, e3, e4⟩ := hq
  refine V_aald hC e1 e2 hdg ?_
  rw [e3]
  exact kk b e4
theorem U_stI (hC : COK G Γ own cc nL fr lo mc ms hh) {a : Nat} {i : Int32} {x : Int32} (hdg : decode cc pc = .ok (.iastore, 1)) {K : hw → Prop} (hq : stI G h a i x K) (kk : ∀ h1 : hw, K h1 → V G Γ nL cells slots h1 (pc + 1) L st) : V G Γ nL cells slots h pc L (.int x :: .int i :: .ref a :: st) := by
  obtain ⟨n, f, e1, e2, e3⟩ := hq
  exact V_iast hC e1 e2 hdg (kk _ e3)
theorem U_lnI (hC : COK G Γ own cc nL fr lo mc ms hh) {a : Nat} (hdg : decode cc pc = .ok (.arraylength, 1)) {K : Int32 → Prop} (hq : lnI G h a K) (kk : ∀ v : Int32, K v → V G Γ nL cells slots h (pc + 1) L (.int v :: st)) : V G Γ nL cells slots h pc L (.ref a :: st) := by
  obtain ⟨x, e1, e2⟩ := hq
  exact V_alenI hC e1 hdg (kk _ e2)
theorem U_new (hC : COK G Γ own cc nL fr lo mc ms hh) {idx ci N : Nat} {fs : List Value} (hs : NO own idx ci N fs) (hcs : cells + 1 ≤ mc ∧ slots + N ≤ ms) (hdg : decode cc pc = .ok (.new idx, 3)) {K : Nat → hw → Prop} (hq : nwO G h ci fs K) (kk : ∀ (a : Nat) (h1 : hw), K a h1 → V G Γ nL (cells + 1) (slots + N) h1 (pc + 3) L (.ref a :: st)) : V G Γ nL cells slots h pc L st :=
  V_new hC hs hcs hdg (fun a z1 z2 => kk a _ (hq a z1 z2))
def nwI (G : Gx) (h : hw) (n : Int32) (room : Nat) (K : Nat → hw → Prop) : Prop := ¬ n < 0 ∧ n.toNatClampNeg ≤ room ∧ n.toNatClampNeg * 4 ≤ 536870912 ∧ ∀ a : Nat, h a = none → Gb G a → K a (hwu h a (.inl (G.2.2.1.1, n.toNatClampNeg, .inl (fun _ => 0))))
theorem U_newaI (hC : COK G Γ own cc nL fr lo mc ms hh) {n : Int32} {room : Nat} (harr : Cond.arrayClass .int ∈ AW) (hcs : cells + 1 ≤ mc ∧ slots + room ≤ ms) (hdg : decode cc pc = .ok (.newarray .int, 2)) {K : Nat → hw → Prop} (hq : nwI G h n room K) (kk : ∀ (a : Nat) (h1 : hw), K a h1 → V G Γ nL (cells + 1) (slots + room) h1 (pc + 2) L (.ref a :: st)) : V G Γ nL cells slots h pc L (.int n :: st) := by
  obtain ⟨e1, e2, e3, e4⟩ := hq
  exact V_newaI hC harr e1 rfl e3 ⟨hcs.1, Nat.le_trans (Nat.add_le_add_left e2 _) hcs.2⟩ hdg (fun a z1 z2 => V_widen (Nat.le_refl _) (Nat.add_le_add_left e2 _) (kk a _ (e4 a z1 z2)))
theorem U_acmp_eq (hC : COK G Γ own cc nL fr lo mc ms hh) {x y : Nat} {off : Int} {tgt : Nat} (hdg : decode cc pc = .ok (.if_acmp .eq off, 3)) (ht : (pc : Int) + off = (tgt : Int)) (kt : x = y → V G Γ nL cells slots h tgt L st) (kf : ¬ x = y → V G Γ nL cells slots h (pc + 3) L st) : V G Γ nL cells slots h pc L (.ref y :: .ref x :: st) :=
  V_acmp_eq (rx := some x) (ry := some y) hC hdg ht (fun z => kt (Option.some.inj z)) (fun z => kf (fun q => z (by rw [q])))
theorem U_acmp_ne (hC : COK G Γ own cc nL fr lo mc ms hh) {x y : Nat} {off : Int} {tgt : Nat} (hdg : decode cc pc = .ok (.if_acmp .ne off, 3)) (ht : (pc : Int) + off = (tgt : Int)) (kt : ¬ x = y → V G Γ nL cells slots h tgt L st) (kf : x = y → V G Γ nL cells slots h (pc + 3) L st) : V G Γ nL cells slots h pc L (.ref y :: .ref x :: st) :=
  V_acmp_ne (rx := some x) (ry := some y) hC hdg ht (fun z => kt (fun q => z (by rw [q]))) (fun z => kf (Option.some.inj z))
theorem U_lnA (hC : COK G Γ own cc nL fr lo mc ms hh) {a : Nat} (hdg : decode cc pc = .ok (.arraylength, 1)) {K : Int32 → Prop} (hq : lnA G h a K) (kk : ∀ v : Int32, K v → V G Γ nL cells slots h (pc + 1) L (.int v :: st)) : V G Γ nL cells slots h pc L (.ref a :: st) := by
  rcases hq with ⟨x, e1, e2⟩ | ⟨rfl, e2⟩
  · exact V_alenA hC e1 hdg (kk _ e2)
  · obtain ⟨p, e, R, s, m, args, below, meth, c, Q⟩ := Γ
    intro H locs ls hW hS hl
    obtain ⟨hx, hb, hml, hown, hts, hK, hal, hag, hsz, rfl, htab, hlocks, hnf, hGk⟩ := hC
    have hkeep : ∀ a : Nat, a < G.2.2.2.heap.size → ¬ Gb G a → s.heap[a]? = G.2.2.2.heap[a]? := fun a h1 _ => hag a h1
    obtain ⟨cell, t1, t2, t3, t4, t5, -⟩ := ((hGk.2.2.2.2.2.1.2.moved hal).kept hkeep).kept hS.2.1
    exact W.alen hx hb t1 t2 t5 rfl rfl hdg (kk 0 e2 H locs ls hW hS hl)
theorem isE_any {s : State} {H : Heap} {locs : List Loc} {ws : va_W} {x : Nat} (hGk : GOK G) (hK : va_K G.2.1 mcl (Gtys G) s) (hal : G.2.2.2.vm.Alike s.vm) (hag : ∀ q : Nat, q < G.2.2.2.heap.size → s.heap[q]? = G.2.2.2.heap[q]?) (hS : va_S (Gb G) s.heap H locs) (hP : va_P G.2.1 mcl ws H) (hi : hwIs G h ws) (hnf : NF s) (ho : isE h x) : va_Any "java/lang/Object" s H x := by
  obtain ⟨ci, fs, h1, h2⟩ := ho
  have key : ∀ (r9 : vw_C), mcl[ci]? = some r9 → Cond.castable r9.1 "java/lang/Object" ∈ NW → va_Any "java/lang/Object" s H x := by
    intro r9 hr hn
    obtain ⟨cell, z1, z2, z3⟩ := gw_recv hGk hK hal hag hS hP hi hr h1
    obtain ⟨kC, hkC, -⟩ := Vm.findClass_spec z3
    obtain ⟨c0, t1, f1, f2, f3⟩ := Cond.castable_spec (va_Nw.use (A := #[]) rfl (hnf.1 _ hn))
    cases f1.symm.trans z3
    exact ⟨cell, z1, z2, ⟨kC, hkC⟩, fun comp hc => by cases f2.symm.trans hc; exact f3⟩
  rcases h2 with rfl | rfl | rfl | rfl
  · exact key _ rfl (List.mem_filter.mpr ⟨nw_5_215, rfl⟩)
  · exact key _ rfl (List.mem_filter.mpr ⟨nw_5_216, rfl⟩)
  · exact key _ rfl (List.mem_filter.mpr ⟨nw_5_204, rfl⟩)
  · exact key _ rfl (List.mem_filter.mpr ⟨nw_5_203, rfl⟩)
theorem U_stA (hC : COK G Γ own cc nL fr lo mc ms hh) {a x : Nat} {i : Int32} (hdg : decode cc pc = .ok (.aastore, 1)) {K : hw → Prop} (hq : stA G h a i x K) (kk : ∀ h1 : hw, K h1 → V G Γ nL cells slots h1 (pc + 1) L st) : V G Γ nL cells slots h pc L (.ref x :: .int i :: .ref a :: st) := by
  obtain ⟨n, f, e1, e2, e3, e4⟩ := hq
  obtain ⟨p, e, R, s, m, args, below, meth, c, Q⟩ := Γ
  intro H locs ls hW hS hl
  obtain ⟨hx, hb, hml, hown, hts, hK, hal, hag, hsz, rfl, htab, hlocks, hnf, hGk⟩ := hC
  obtain ⟨ws, hP, hD, hi⟩ := id hW
  obtain ⟨q0, hq⟩ := hi.atA e1
  exact va_astqM (D := G.2.1) (cl := mcl) (tys := Gtys G) hx hb hK hP hD hS q0 4 hq rfl (isE_any hGk hK hal hag hS hP hi hnf e3) e2 hdg (fun H1 locs1 hP1 hD1 hS1 => kk _ e4 H1 locs1 ls ⟨_, hP1, hD1, hi.set hGk hD hq _⟩ hS1 hl)
theorem U_newaA (hC : COK G Γ own cc nL fr lo mc ms hh) {idx : Nat} {n : Int32} {room : Nat} (hcl : Cond.classLink own idx "java/lang/Object" ∈ AW) (hcs : cells + 1 ≤ mc ∧ slots + room ≤ ms) (hdg : decode cc pc = .ok (.anewarray idx, 3)) {K : Nat → hw → Prop} (hq : nwA G h n room K) (kk : ∀ (a : Nat) (h1 : hw), K a h1 → V G Γ nL (cells + 1) (slots + room) h1 (pc + 3) L (.ref a :: st)) : V G Γ nL cells slots h pc L (.int n :: st) := by
  obtain ⟨e1, e2, e3, e4⟩ := hq
  obtain ⟨p, e, R, s, m, args, below, meth, c, Q⟩ := Γ
  intro H locs ls hW hS hl
  obtain ⟨hx, hb, hml, hown, hts, hK, hal, hag, hsz, rfl, htab, hlocks, hnf, hGk⟩ := hC
  obtain ⟨ws, hP, hD, hi⟩ := id hW
  refine va_newq (D := G.2.1) (cl := mcl) (tys := Gtys G) hx hb hown (hts _ hcl) (hGk.2.2.2.2.2.2.2.2.1.moved hal) hK hP hD hS (fun q hq => Nat.le_trans hsz hq) e1 rfl e3 hcs.1 (Nat.le_trans (Nat.add_le_add_left e2 _) hcs.2) hdg (fun q cA H1 hK1 hP1 hD1 hS1 => ?_)
  obtain ⟨kA, comp, a1, a2, a3, a4⟩ := (hK1.2 5 _ rfl).2
  obtain ⟨kA', comp', b1, b2, b3, b4⟩ := (hK.2 4 _ rfl).2
  have e5 : cA = G.2.2.1.2.2.2.2 := Option.some.inj (a4.symm.trans b4)
  subst e5
  have hfr := hi.fresh hGk hP1 hD1
  exact W.widen (Nat.le_refl _) (Nat.add_le_add_left e2 _) (kk q _ (e4 q hfr.1 hfr.2) H1 locs ls ⟨_, hP1, hD1, hi.push hfr.1 _⟩ hS1 hl)
noncomputable def Gmi (G : Gx) : Nat := Classical.epsilon (fun mi : Nat => va_Mi "[Ljava/lang/Object;" mi G.2.2.2)
theorem U_ldcM (hC : COK G Γ own cc nL fr lo mc ms hh) {idx : Nat} (hcl : Cond.classLink own idx "[Ljava/lang/Object;" ∈ AW) (hdg : decode cc pc = .ok (.ldc idx, 2)) (kk : V G Γ nL cells slots h (pc + 2) L (.ref (Gmi G) :: st)) : V G Γ nL cells slots h pc L st := by
  obtain ⟨p, e, R, s, m, args, below, meth, c, Q⟩ := Γ
  intro H locs ls hW hS hl
  obtain ⟨hx, hb, hml, hown, hts, hK, hal, hag, hsz, rfl, htab, hlocks, hnf, hGk⟩ := hC
  exact va_ldcM hx hb hown (hts _ hcl) (va_Mi.moved hal (Classical.epsilon_spec hGk.2.2.2.2.2.2.2.1)) hdg (kk H locs ls hW hS hl)
def GCL (own : String) (idx : Nat) : Prop := Cond.methodLink own idx ⟨"java/lang/Object", "getClass", "()Ljava/lang/Class;"⟩ ∈ AW ∧ Cond.declares ⟨"java/lang/Object", "getClass", "()Ljava/lang/Class;"⟩ ∈ NW ∧ Cond.selects "[Ljava/lang/Object;" ⟨"java/lang/Object", "getClass", "()Ljava/lang/Class;"⟩ ⟨"java/lang/Object", "getClass", "()Ljava/lang/Class;"⟩ ∈ AW ∧ Cond.instanceMethod ⟨"java/lang/Object", "getClass", "()Ljava/lang/Class;"⟩ ∈ AW ∧ Cond.native ⟨"java/lang/Object", "getClass", "()Ljava/lang/Class;"⟩ ∈ AW
theorem U_getC (hC : COK G Γ own cc nL fr lo mc ms hh) {idx a : Nat} (hs : GCL own idx) (hq0 : isA G h a) (hR : 1 ≤ fr) (hlo : (st.map fun v => v.category).sum + 14 ≤ lo) (hdg : decode cc pc = .ok (.invokevirtual idx, 3)) (kk : V G Γ nL cells slots h (pc + 3) L (.ref (Gmi G) :: st)) : V G Γ nL cells slots h pc L (.ref a :: st) := by
  obtain ⟨x, e1⟩ := hq0
  obtain ⟨p, e, R, s, m, args, below, meth, c, Q⟩ := Γ
  intro H locs ls hW hS hl
  obtain ⟨hx, hb, hml, hown, hts, hK, hal, hag, hsz, rfl, htab, hlocks, hnf, hGk⟩ := hC
  obtain ⟨s1, s2, s3, s4, s5⟩ := hs
  obtain ⟨ws, hP, hD, hi⟩ := id hW
  obtain ⟨q0, hq⟩ := hi.atA e1
  obtain ⟨kA', comp', b1, b2, b3, b4⟩ := (hK.2 4 _ rfl).2
  have hcell := hP q0 _ hq
  have hz : (vp_cell G.2.2.1.2.2.2.2 x).vm = .none ∧ (vp_cell G.2.2.1.2.2.2.2 x).cls = G.2.2.1.2.2.2.2 := by
    obtain ⟨n, f⟩ := x
    rcases f with f | f | f | f | f <;> exact ⟨rfl, rfl⟩
  exact va_getC hx hb (hml.trans hl.1.symm) hown (hts _ s1) (va_Nw.use rfl (hnf.1 _ s2)) (hts _ s3) (hts _ s4) (hts _ s5) (va_Mi.moved hal (Classical.epsilon_spec hGk.2.2.2.2.2.2.2.1)) ⟨_, hcell, by rw [hz.1]; rfl, by rw [hz.2]; exact b4⟩ hR hlo hdg (kk H locs ls hW hS hl)
def ACP (own : String) (idx : Nat) : Prop := Cond.methodLink own idx arraycopyName ∈ AW ∧ Cond.native arraycopyName ∈ AW ∧ Cond.static arraycopyName ∈ AW ∧ Cond.initialized "java/lang/System" ∈ AW
theorem U_acpA (hC : COK G Γ own cc nL fr lo mc ms hh) {idx a b : Nat} {sp dp n : Int32} (hs : ACP own idx) (hR : 1 ≤ fr) (hlo : (st.map fun v => v.category).sum + (nativeFrameWords "java/lang/System" "arraycopy" 5 + 11) ≤ lo) (hdg : decode cc pc = .ok (.invokestatic idx, 3)) {K : hw → Prop} (hq : cpA G h a sp b dp n K) (kk : ∀ h1 : hw, K h1 → V G Γ nL cells slots h1 (pc + 3) L st) : V G Γ nL cells slots h pc L (.int n :: .int dp :: .ref b :: .int sp :: .ref a :: st) := by
  obtain ⟨n0, n1, f, g, e1, e2, e3, e4, e5, e6, e7, e8, e9⟩ := hq
  obtain ⟨p, e, R, s, m, args, below, meth, c, Q⟩ := Γ
  intro H locs ls hW hS hl
  obtain ⟨hx, hb, hml, hown, hts, hK, hal, hag, hsz, rfl, htab, hlocks, hnf, hGk⟩ := hC
  obtain ⟨s1, s2, s3, s4⟩ := hs
  obtain ⟨ws, hP, hD, hi⟩ := id hW
  obtain ⟨q0, hq0⟩ := hi.atA e1
  obtain ⟨q1, hq1⟩ := hi.atA e2
  exact va_copyM (D := G.2.1) (cl := mcl) (tys := Gtys G) hx hb (hml.trans hl.1.symm) hown (hts _ s1) (hts _ s2) (hts _ s3) (hts _ s4) hK hP hD hS q0 q1 4 4 hq0 hq1 rfl rfl e3 e4 e5 e6 e7 (fun i hi9 y hy => isE_any hGk hK hal hag hS hP hi hnf (e8 i hi9 y hy)) hR hlo hdg (fun H1 locs1 hP1 hD1 hS1 => kk _ e9 H1 locs1 ls ⟨_, hP1, hD1, hi.set hGk hD hq1 _⟩ hS1 hl)
theorem U_gst0 (hC : COK G Γ own cc nL fr lo mc ms hh) {idx : Nat} (hs : Cond.fieldLink own idx "java/util/ArrayList" "DEFAULTCAPACITY_EMPTY_ELEMENTDATA" "[Ljava/lang/Object;" ∈ AW) (hdg : decode cc pc = .ok (.getstatic idx, 3)) (kk : V G Γ nL cells slots h (pc + 3) L (.ref (Gt0 G) :: st)) : V G Γ nL cells slots h pc L st := by
  obtain ⟨p, e, R, s, m, args, below, meth, c, Q⟩ := Γ
  intro H locs ls hW hS hl
  obtain ⟨hx, hb, hml, hown, hts, hK, hal, hag, hsz, rfl, htab, hlocks, hnf, hGk⟩ := hC
  have hkeep : ∀ a : Nat, a < G.2.2.2.heap.size → ¬ Gb G a → s.heap[a]? = G.2.2.2.heap[a]? := fun a h1 _ => hag a h1
  exact va_gets hx hb ((hGk.2.2.2.2.2.1.1.moved hal).kept hkeep) hS hown (hts _ hs) (fun x hx => hx) hdg (kk H locs ls hW hS hl)
theorem U_ldS (hC : COK G Γ own cc nL fr lo mc ms hh) {a : Nat} {i : Int32} (hdg : decode cc pc = .ok (.iaload, 1)) {K : Int32 → Prop} (hq : ldS G a i K) (kk : ∀ v : Int32, K v → V G Γ nL cells slots h (pc + 1) L (.int v :: st)) : V G Γ nL cells slots h pc L (.int i :: .ref a :: st) := by
  obtain ⟨rfl, e1, e2⟩ := hq
  obtain ⟨p, e, R, s, m, args, below, meth, c, Q⟩ := Γ
  intro H locs ls hW hS hl
  obtain ⟨hx, hb, hml, hown, hts, hK, hal, hag, hsz, rfl, htab, hlocks, hnf, hGk⟩ := hC
  have hsc := hGk.2.2.2.2.1
  exact va_sld hx hb ((hsc.1.moved hal).kept (hag _ hsc.2)) (Nat.lt_of_lt_of_le hsc.2 hsz) (Nat.not_le.mpr hsc.2) hS e1 hdg (kk _ e2 H locs ls hW hS hl)
theorem U_lnS (hC : COK G Γ own cc nL fr lo mc ms hh) {a : Nat} (hdg : decode cc pc = .ok (.arraylength, 1)) {K : Int32 → Prop} (hq : lnS G a K) (kk : ∀ v : Int32, K v → V G Γ nL cells slots h (pc + 1) L (.int v :: st)) : V G Γ nL cells slots h pc L (.ref a :: st) := by
  obtain ⟨rfl, e2⟩ := hq
  obtain ⟨p, e, R, s, m, args, below, meth, c, Q⟩ := Γ
  intro H locs ls hW hS hl
  obtain ⟨hx, hb, hml, hown, hts, hK, hal, hag, hsz, rfl, htab, hlocks, hnf, hGk⟩ := hC
  have hsc := hGk.2.2.2.2.1
  exact va_slen hx hb ((hsc.1.moved hal).kept (hag _ hsc.2)) (Nat.lt_of_lt_of_le hsc.2 hsz) (Nat.not_le.mpr hsc.2) hS hdg (kk _ e2 H locs ls hW hS hl)
end VU
theorem nar_b {x : Int32} (h : x = 0 ∨ x = 1) : narrow .boolean (.int x) = .int x := by rcases h with rfl | rfl <;> rfl
theorem nar_b0 : narrow .boolean (.int 0) = .int 0 := rfl
theorem nar_b1 : narrow .boolean (.int 1) = .int 1 := rfl
theorem fit_b {x : Int32} (h : x = 0 ∨ x = 1) : fits .boolean (.int x) = true := by rcases h with rfl | rfl <;> rfl
theorem fit_i (x : Int32) : fits .int (.int x) = true := rfl
theorem fit_a (C : String) (x : Nat) : fits (.object C) (.ref x) = true := rfl
theorem fit_aa (C : FieldType) (x : Nat) : fits (.array C) (.ref x) = true := rfl
section VYW
variable {l : Launch}
theorem vy_ofW {y : MethodName} {ws ws' : List Cond} {rm : Room} {Pc : Array Value → State → Prop} {Qc : Array Value → State → Outcome → State → Prop} {XC : String → State → State → Prop} {mc ms : Nat} {free : Addr → Prop} {cc : ByteArray} {maxL : Nat} {ret : Option FieldType}
    (hy : plainFor y = true) (hw : ws = Cond.code y cc maxL ret :: ws')
    (body : ∀ p e s m args below meth c s₁, BodyLoose p l y (headSpec ws rm) cc maxL ret e s m args below meth c s₁ → c.maxLocals = maxL → (∀ x ∈ c.exceptionTable.toList, False) → Pc args s →
      W p l e (headSpec ws rm).room s m args below meth c s.heap [] 0 0 (vx_MQ below Qc XC args s mc ms free) (entryFrame m args maxL)) : vx_Met l y ws rm Pc Qc XC mc ms free := by
  refine MetFree.of_bodySF (code := cc) (maxLocals := maxL) (ret := ret) hy ?_ ?_
  · intro args s m h hn
    obtain ⟨meth, c, h1, h2, h3, h4, h5, h6, -, -⟩ := Cond.code_spec hn (atoms_spec (ws := ws) h _ (by rw [hw]; exact List.mem_cons_self))
    exact ⟨meth, c, h1, h2, h3, h4, h5, h6⟩
  · intro p e s m args below meth c s₁ B hml hP _
    have hh0 : s₁.heap = s.heap := by rw [B.state]; rfl
    have ht : ∀ x ∈ c.exceptionTable.toList, False := by
      obtain ⟨meth9, c9, h1, h2, -, -, -, -, h7, -⟩ := Cond.code_spec B.named (atoms_spec (ws := ws) B.pre _ (by rw [hw]; exact List.mem_cons_self))
      cases Option.some.inj (h1.symm.trans B.method)
      cases Option.some.inj (h2.symm.trans (Stand.of_body B).code)
      intro x hx
      rw [Array.isEmpty_iff.mp h7] at hx
      cases hx
    obtain ⟨t, a1, o, b1, b2, b3⟩ := body p e s m args below meth c s₁ B hml ht hP s₁ hh0 (Stand.of_body B)
    exact ⟨t, o, a1, b1, b2, b3⟩
end VYW
theorem CT_ofF {G : Gx} (hG : GOK G) {y : MethodName} {bytes : ByteArray} {maxL : Nat} {ret : Option FieldType} {fr lo mc ms : Nat} {av : List Value} {h : hw} {Qi : Option Value → hw → Prop} {XP : String → hw → Prop} (hy : plainFor y = true) (hn : (lg_sl av).length ≤ maxL)
    (body : ∀ Γ : Cx, COK G Γ y.cls bytes maxL fr lo mc ms [] → CQ G Γ ret mc ms Qi XP → CN Γ y.name → V G Γ maxL 0 0 h 0 (lv_args 0 av) []) : CT G y bytes maxL ret fr lo mc ms av h Qi XP := by
  refine vy_ofW (cc := bytes) (maxL := maxL) (ret := ret) hy rfl ?_
  intro p e s m args below meth c s₁ B hml htab hv
  obtain ⟨rfl, hW, hal, hag, hsz, hnf⟩ := hv
  have hts := atoms_spec (ws := Cond.code y bytes maxL ret :: AW) B.pre
  have h1 := body (p, e, _, s, m, av.toArray, below, meth, c, _) ⟨B.exec, B.bytes, hml, findClass_of_methodNamed B.named, fun w hw => hts w (List.mem_cons_of_mem _ hw), va_K.moved hal hG.1, hal, hag, hsz, rfl, by
    cases hq : c.exceptionTable.toList with
    | nil => rfl
    | cons x xs => exact (htab x (by rw [hq]; exact List.mem_cons_self)).elim, B.notSynchronized, hnf, hG⟩ ⟨B.returns, rfl⟩ (name_of_methodNamed B.named B.method).1
  rw [lg_entry_eq]
  exact h1 _ _ _ hW va_S.rf (lv_entry av hn)
