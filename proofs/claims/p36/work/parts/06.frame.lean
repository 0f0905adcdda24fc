/-! the abstract heap: contents by address; a world that holds it -/
abbrev hw : Type := Nat → Option va_E
def hwu (h : hw) (a : Nat) (e : va_E) : hw := fun b => if b = a then some e else h b
/-! what is fixed all through: the launch, the classes' numbers, the array classes' numbers, the law's own start -/
abbrev Gx : Type := Launch × va_G × (ClassId × Nat × Nat × (Nat → Int32) × ClassId) × State
abbrev Gtys (G : Gx) : List (ClassId × FieldType) := [(G.2.2.1.1, .int), (G.2.2.1.1, .int), (G.2.2.1.1, .int), (G.2.2.1.1, .int), (G.2.2.1.2.2.2.2, .object "java/lang/Object")]
def Gb (G : Gx) : Nat → Prop := fun q => G.2.2.2.heap.size ≤ q
abbrev eT0 : u_T := fun _ => ("", "", "", false)
abbrev mcl : List vw_C := [(RX0, TX0, 3), (RX1, TX1, 3), (RX2, TX2, 5), (RX3, TX3, 3), (RX4, TX4, 4), (RX5, TX5, 5), (RX6, TX6, 5), (RX7, TX7, 1), (RX8, TX8, 6), (RX9, TX9, 3), (RX10, TX10, 6), (RX11, TX11, 8), (RX7, TX7, 1), (RX7, TX7, 1), (RJx4a65c, TJx4a65c, 3), ("java/lang/IndexOutOfBoundsException", eT0, 0), ("java/lang/IllegalArgumentException", eT0, 0), ("java/lang/IllegalStateException", eT0, 0), ("java/lang/UnsupportedOperationException", eT0, 0), ("java/util/NoSuchElementException", eT0, 0), ("java/lang/ArithmeticException", eT0, 0)]
/-- the law's script: its cell, its length, its ints; the empty row of a new list -/
abbrev Gsb (G : Gx) : Nat := G.2.2.1.2.1
abbrev GsL (G : Gx) : Nat := G.2.2.1.2.2.1
abbrev Gsx (G : Gx) : Nat → Int32 := G.2.2.1.2.2.2.1
def ScOK (G : Gx) : Prop := va_X (Gsb G) (GsL G) (Gsx G) G.2.2.2 G.2.2.2.heap ∧ Gsb G < G.2.2.2.heap.size
def Gt0OK (G : Gx) (t : Nat) : Prop := va_Z "java/util/ArrayList" "DEFAULTCAPACITY_EMPTY_ELEMENTDATA" "[Ljava/lang/Object;" (.ref t) (Gb G) G.2.2.2 G.2.2.2.heap ∧ va_T (.object "java/lang/Object") t 0 (fun _ => .null) (Gb G) G.2.2.2 G.2.2.2.heap
noncomputable def Gt0 (G : Gx) : Nat := Classical.epsilon (Gt0OK G)
def Gro (_ : Gx) : hw := fun _ => none
theorem Gro_some {G : Gx} {a : Nat} {e : va_E} (h : Gro G a = some e) : False := by cases h
abbrev exl : List String := ["java/lang/IndexOutOfBoundsException", "java/lang/IllegalArgumentException", "java/lang/IllegalStateException", "java/lang/UnsupportedOperationException", "java/util/NoSuchElementException", "java/lang/ArithmeticException"]
def NCL : List (String × String) := (exl.flatMap fun a => exl.map fun b => (a, b)).filter fun q => decide (q.1 ≠ q.2 ∧ q.2 ≠ "java/lang/ArithmeticException")
def GOK (G : Gx) : Prop := va_K G.2.1 mcl (Gtys G) G.2.2.2 ∧ G.1.stackTraces = false ∧ vx_Zq Bundle.tN "UNASSIGNED_STACK" Bundle.steD (Gb G) G.2.2.2 G.2.2.2.heap ∧ vx_Zq Bundle.tN "SUPPRESSED_SENTINEL" Bundle.listD (Gb G) G.2.2.2 G.2.2.2.heap ∧ ScOK G ∧ Gt0OK G (Gt0 G) ∧ True ∧ (∃ mi : Nat, va_Mi "[Ljava/lang/Object;" mi G.2.2.2) ∧ va_AO "java/lang/Object" G.2.2.2 ∧ (∀ q ∈ NCL, va_Nc q.1 q.2 G.2.2.2)
theorem Gro_out {G : Gx} (_ : GOK G) {a : Nat} {e : va_E} (h : Gro G a = some e) : ¬ Gb G a := (Gro_some h).elim
def hwIs (G : Gx) (h : hw) (ws : va_W) : Prop := ∀ (a : Nat) (e : va_E), h a = some e ↔ ((a, e) ∈ ws ∨ Gro G a = some e)
theorem hwIs.at {G : Gx} {h : hw} {ws : va_W} (hi : hwIs G h ws) {a ci : Nat} {fs : List Value} (_ : ci ≠ 13) (he : h a = some (.inr (ci, fs))) : ∃ k : Nat, ws[k]? = some (a, .inr (ci, fs)) := by
  rcases (hi a _).mp he with q | q
  · exact List.getElem?_of_mem q
  · exact (Gro_some q).elim
theorem hwIs.atA {G : Gx} {h : hw} {ws : va_W} (hi : hwIs G h ws) {a : Nat} {x : ClassId × vp_A} (he : h a = some (.inl x)) : ∃ k : Nat, ws[k]? = some (a, .inl x) := by
  rcases (hi a _).mp he with q | q
  · exact List.getElem?_of_mem q
  · exact (Gro_some q).elim
theorem hwIs.atG {G : Gx} (hG : GOK G) {h : hw} {ws : va_W} (hi : hwIs G h ws) {a : Nat} {e : va_E} (hb : Gb G a) (he : h a = some e) : ∃ k : Nat, ws[k]? = some (a, e) := by
  rcases (hi a _).mp he with q | q
  · exact List.getElem?_of_mem q
  · exact absurd hb (Gro_out hG q)
theorem hwIs.at2 {G : Gx} {h : hw} {ws : va_W} (hi : hwIs G h ws) {a ci : Nat} {fs : List Value} (he : h a = some (.inr (ci, fs))) : ∃ k : Nat, ws[k]? = some (a, .inr (ci, fs)) := by
  rcases (hi a _).mp he with q | q
  · exact List.getElem?_of_mem q
  · exact (Gro_some q).elim
theorem hwIs.set {G : Gx} (hG : GOK G) {h : hw} {ws : va_W} (hD : va_D (Gb G) ws) (hi : hwIs G h ws) {k a : Nat} {e0 : va_E} (hk : ws[k]? = some (a, e0)) (e : va_E) : hwIs G (hwu h a e) (ws.set k (a, e)) := by
  have hl := (List.getElem?_eq_some_iff.mp hk).1
  intro b f
  unfold hwu
  by_cases hb : b = a
  · subst hb
    rw [if_pos rfl]
    constructor
    · intro q
      cases q
      exact Or.inl (List.mem_of_getElem? (i := k) (List.getElem?_set_self hl))
    · rintro (q | q)
      · obtain ⟨j, hj⟩ := List.getElem?_of_mem q
        by_cases hjk : k = j
        · subst hjk
          rw [List.getElem?_set_self hl] at hj
          cases hj
          rfl
        · rw [List.getElem?_set_ne hjk] at hj
          exact absurd (hD.1 k j _ _ hk hj rfl) hjk
      · exact absurd (hD.2 k _ hk) (Gro_out hG q)
  · rw [if_neg hb]
    constructor
    · intro q
      rcases (hi b f).mp q with z | z
      · obtain ⟨j, hj⟩ := List.getElem?_of_mem z
        have hjk : k ≠ j := fun z => by
          subst z
          rw [hk] at hj
          cases hj
          exact hb rfl
        exact Or.inl (List.mem_of_getElem? (i := j) (by rw [List.getElem?_set_ne hjk]; exact hj))
      · exact Or.inr z
    · rintro (q | q)
      · obtain ⟨j, hj⟩ := List.getElem?_of_mem q
        by_cases hjk : k = j
        · subst hjk
          rw [List.getElem?_set_self hl] at hj
          cases hj
          exact absurd rfl hb
        · rw [List.getElem?_set_ne hjk] at hj
          exact (hi b f).mpr (Or.inl (List.mem_of_getElem? hj))
      · exact (hi b f).mpr (Or.inr q)
theorem hwIs.fresh {G : Gx} (hG : GOK G) {D : va_G} {cl : List vw_C} {h : hw} {ws : va_W} {H : Heap} (hi : hwIs G h ws) {a : Nat} {e : va_E} (hP : va_P D cl (ws ++ [(a, e)]) H) (hD : va_D (Gb G) (ws ++ [(a, e)])) : h a = none ∧ Gb G a := by
  have h2 : (ws ++ [(a, e)])[ws.length]? = some (a, e) := by rw [List.getElem?_append_right (Nat.le_refl _), Nat.sub_self]; rfl
  refine ⟨?_, hD.2 _ _ h2⟩
  cases he : h a with
  | none => rfl
  | some f =>
    obtain ⟨k, hk⟩ := hi.atG hG (hD.2 _ _ h2) he
    have hl := (List.getElem?_eq_some_iff.mp hk).1
    have h1 : (ws ++ [(a, e)])[k]? = some (a, f) := by rw [List.getElem?_append_left hl]; exact hk
    have := hD.1 k ws.length _ _ h1 h2 rfl
    omega
theorem hwIs.push {G : Gx} {h : hw} {ws : va_W} (hi : hwIs G h ws) {a : Nat} (ha : h a = none) (e : va_E) : hwIs G (hwu h a e) (ws ++ [(a, e)]) := by
  intro b f
  unfold hwu
  by_cases hb : b = a
  · subst hb
    rw [if_pos rfl]
    have no : ∀ g : va_E, ¬ ((b, g) ∈ ws ∨ Gro G b = some g) := fun g q => by
      have := (hi b g).mpr q
      rw [ha] at this
      cases this
    constructor
    · intro q
      cases q
      exact Or.inl (List.mem_append_right _ (List.mem_singleton.mpr rfl))
    · rintro (q | q)
      · rcases List.mem_append.mp q with q | q
        · exact absurd (Or.inl q) (no f)
        · cases List.mem_singleton.mp q
          rfl
      · exact absurd (Or.inr q) (no f)
  · rw [if_neg hb]
    constructor
    · intro q
      rcases (hi b f).mp q with z | z
      · exact Or.inl (List.mem_append_left _ z)
      · exact Or.inr z
    · rintro (q | q)
      · rcases List.mem_append.mp q with q | q
        · exact (hi b f).mpr (Or.inl q)
        · cases List.mem_singleton.mp q
          exact absurd rfl hb
      · exact (hi b f).mpr (Or.inr q)
/-- the words that only some rows take: they aren't 'good', but stay true; the texts of the constants -/
def isNw : Cond → Bool
  | .methodLinkNest .. => true
  | .castable .. => true
  | .declares .. => true
  | _ => false
def NW : List Cond := lw_tbl.filter isNw
def SW : List (String × Nat × String) := [("Bandplan", 378, "no such cell"), ("Bandplan", 385, "out of range"), ("Bandplan", 387, "a station is on"), ("Bandplan", 99, "no more sites"), ("Bandplan", 381, "no such site"), ("Bandplan", 122, "one site for both"), ("Bandplan", 128, "no more stations"), ("Bandplan", 389, "no such station"), ("Bandplan", 201, "a yes is needed"), ("Bandplan", 223, "a protected one would not keep its level"), ("Bandplan", 249, "no yes was asked for"), ("Bandplan", 277, "no protected station is on"), ("Bandplan", 285, "those that stay at once cannot be packed"), ("Bandplan", 313, "no more bidders"), ("Bandplan", 332, "there was no selling"), ("Bandplan", 266, "there is no packing"), ("Bandplan", 391, "it is off"), ("Bandplan", 164, "nothing harms it"), ("Bandplan", 171, "one station for both"), ("Bandplan", 264, "it is secondary"), ("Bandplan", 305, "it was not bought"), ("Bandplan", 383, "no such bidder"), ("Bandplan", 349, "it did not move"), ("Bandplan", 356, "there are no stations")]
def NF (U : State) : Prop := (∀ w ∈ NW, va_Nw w U) ∧ ∀ q ∈ SW, ∃ a : Nat, vk_R q.1 q.2.1 q.2.2 a U
theorem NF.same {u U : State} (hv : u.vm = U.vm) (h : NF u) : NF U := by
  refine ⟨fun w hw => ?_, fun q hq => ?_⟩
  · have h2 := h.1 w hw
    have h3 := (List.mem_filter.mp hw).2
    cases w <;> first | (simp [isNw] at h3; done) | exact va_Nw.same rfl hv h2
  · obtain ⟨a, ha⟩ := h.2 q hq
    exact ⟨a, vk_R.same hv.symm ha⟩
theorem NF.warm {s U : State} (hW : s.WarmedH U.vm) (h : NF s) : NF U := by
  refine ⟨fun w hw => ?_, fun q hq => ?_⟩
  · have h2 := h.1 w hw
    have h3 := (List.mem_filter.mp hw).2
    cases w with
    | methodLinkNest => exact va_Nw.warmM hW h2
    | castable => exact va_Nw.warmC hW h2
    | declares => exact va_tabs rfl (rfl : (s.setVm U.vm).vm = U.vm) (by rw [Cond.declares_setVm hW.alike]; exact h2)
    | _ => simp [isNw] at h3
  · obtain ⟨a, ha⟩ := h.2 q hq
    exact ⟨a, ha.warm hW⟩
def GW (G : Gx) (h : hw) (H : Heap) : Prop := ∃ ws : va_W, va_P G.2.1 mcl ws H ∧ va_D (Gb G) ws ∧ hwIs G h ws
/-! a method's own frame of reference -/
abbrev Cx : Type := Program × Env × Room × State × MethodId × Array Value × List Frame × Method × Code × (State → Prop)
def V (G : Gx) (Γ : Cx) (nL cells slots : Nat) (h : hw) (pc : Nat) (L : List (Nat × Value)) (st : List Value) : Prop := match Γ with
  | (p, e, R, s, m, args, below, meth, c, Q) => ∀ (H : Heap) (locs : List Loc) (ls : Array Slot), GW G h H → va_S (Gb G) s.heap H locs → lv_has ls nL L → W p G.1 e R s m args below meth c H locs cells slots Q (F0 m pc ls st)
/-- the same frame with something of class E thrown over it -/
def VX (G : Gx) (Γ : Cx) (nL cells slots : Nat) (h : hw) (pc : Nat) (L : List (Nat × Value)) (st : List Value) (E : String) : Prop := match Γ with
  | (p, e, R, s, m, args, below, meth, c, Q) => ∀ (H : Heap) (locs : List Loc) (ls : Array Slot) (q : Addr) (ce : Cell), GW G h H → va_S (Gb G) s.heap H locs → lv_has ls nL L → H[q]? = some ce → ce.vm = .none → s.vm.findClass E = some ce.cls → vx_W p G.1 e R s m args below meth c H locs cells slots Q (F0 m pc ls st) q
def COK (G : Gx) (Γ : Cx) (own : String) (cc : ByteArray) (nL fr lo mc ms : Nat) (hh : List (Nat × Nat × Nat × Nat)) : Prop := match Γ with
  | (p, e, R, s, m, args, below, meth, c, Q) => p.tables.exec = Jvm.exec ∧ c.code = cc ∧ c.maxLocals = nL ∧ s.vm.findClass own = some m.cls ∧ (∀ w ∈ AW, w.before args s = true) ∧ va_K G.2.1 mcl (Gtys G) s ∧ G.2.2.2.vm.Alike s.vm ∧ (∀ q : Nat, q < G.2.2.2.heap.size → s.heap[q]? = G.2.2.2.heap[q]?) ∧ G.2.2.2.heap.size ≤ s.heap.size ∧ R = ({ frames := fr, cells := mc, slots := ms, locals := lo } : Room) ∧ c.exceptionTable.toList = tableOf hh ∧ meth.locks = false ∧ NF s ∧ GOK G
def QcOf (G : Gx) (Qi : Option Value → hw → Prop) : Array Value → State → Outcome → State → Prop := fun _ st oc t => (∃ (v : Option Value) (h1 : hw), oc = .returned v ∧ Qi v h1 ∧ GW G h1 t.heap) ∧ va_F (Gb G) st t
def XcOf (G : Gx) (XP : String → hw → Prop) : String → State → State → Prop := fun E st t => (∃ h1 : hw, XP E h1 ∧ GW G h1 t.heap) ∧ va_F (Gb G) st t
/-- the method's end -/
def CQ (G : Gx) (Γ : Cx) (ret : Option FieldType) (mc ms : Nat) (Qi : Option Value → hw → Prop) (XP : String → hw → Prop) : Prop := match Γ with
  | (p, e, R, s, m, args, below, meth, c, Q) => meth.sig.returnType = ret ∧ Q = vx_MQ below (QcOf G Qi) (XcOf G XP) args s mc ms (Gb G)
def CN (Γ : Cx) (nm : String) : Prop := match Γ with
  | (p, e, R, s, m, args, below, meth, c, Q) => meth.name = nm
theorem HIN {Γ : Cx} {nm : String} (h : CN Γ nm) (e9 : nm = "<init>") : ∀ p e R s m args below meth c Q, Γ = (p, e, R, s, m, args, below, meth, c, Q) → meth.name = "<init>" := by
  intro p e R s m args below meth c Q hΓ
  subst hΓ
  exact (show meth.name = nm from h).trans e9
def PB (G : Gx) (h : hw) : State → Prop := fun U => GW G h U.heap ∧ G.2.2.2.vm.Alike U.vm ∧ (∀ q : Nat, q < G.2.2.2.heap.size → U.heap[q]? = G.2.2.2.heap[q]?) ∧ G.2.2.2.heap.size ≤ U.heap.size ∧ NF U
theorem PB_blind {G : Gx} {h : hw} {av : List Value} : FrameBlind (va_Pc av (PB G h)) := fun a U g mk q => by
  obtain ⟨q0, q1, q2, q3, q4, q5⟩ := q
  exact ⟨q0, q1, q2, q3, q4, NF.same (u := U) (U := U.calling g mk a) rfl q5⟩
/-- a method's contract: from these arguments and this heap -/
def CT (G : Gx) (y : MethodName) (bytes : ByteArray) (maxL : Nat) (ret : Option FieldType) (fr lo mc ms : Nat) (av : List Value) (h : hw) (Qi : Option Value → hw → Prop) (XP : String → hw → Prop) : Prop :=
  vx_Met G.1 y (Cond.code y bytes maxL ret :: AW) { frames := fr, cells := mc, slots := ms, locals := lo } (va_Pc av (PB G h)) (QcOf G Qi) (XcOf G XP) mc ms (Gb G)
theorem CT_of {G : Gx} (hG : GOK G) {y : MethodName} {bytes : ByteArray} {maxL : Nat} {ret : Option FieldType} {fr lo mc ms : Nat} {av : List Value} {h : hw} {Qi : Option Value → hw → Prop} {XP : String → hw → Prop} (hy : plainName y.cls = true) (hn : (lg_sl av).length ≤ maxL)
    (body : ∀ Γ : Cx, COK G Γ y.cls bytes maxL fr lo mc ms [] → CQ G Γ ret mc ms Qi XP → CN Γ y.name → V G Γ maxL 0 0 h 0 (lv_args 0 av) []) : CT G y bytes maxL ret fr lo mc ms av h Qi XP := by
  refine vx_ofW (cc := bytes) (maxL := maxL) (ret := ret) hy rfl ?_
  intro p e s m args below meth c s₁ B hml htab hv
  obtain ⟨rfl, hW, hal, hag, hsz, hnf⟩ := hv
  have hts := atoms_spec (ws := Cond.code y bytes maxL ret :: AW) B.pre
  have h1 := body (p, e, _, s, m, av.toArray, below, meth, c, _) ⟨B.exec, B.bytes, hml, findClass_of_methodNamed B.named, fun w hw => hts w (List.mem_cons_of_mem _ hw), va_K.moved hal hG.1, hal, hag, hsz, rfl, by
    cases hq : c.exceptionTable.toList with
    | nil => rfl
    | cons x xs => exact (htab x (by rw [hq]; exact List.mem_cons_self)).elim, B.notSynchronized, hnf, hG⟩ ⟨B.returns, rfl⟩ (name_of_methodNamed B.named B.method).1
  rw [lg_entry_eq]
  exact h1 _ _ _ hW va_S.rf (lv_entry av hn)
section VR
variable {G : Gx} {Γ : Cx} {own : String} {cc : ByteArray} {nL fr lo mc ms cells slots pc : Nat} {hh : List (Nat × Nat × Nat × Nat)} {h : hw} {L : List (Nat × Value)} {st : List Value}
theorem V_iconst (hC : COK G Γ own cc nL fr lo mc ms hh) {n : Int} {v : Int32} (hdg : decode cc pc = .ok (.iconst n, 1)) (hv : Int32.ofInt n = v) (k : V G Γ nL cells slots h (pc + 1) L (.int v :: st)) : V G Γ nL cells slots h pc L (st) := by
  obtain ⟨p, e, R, s, m, args, below, meth, c, Q⟩ := Γ
  intro H locs ls hW hS hl
  exact lv_iconst hC.1 hC.2.1 hdg hv (k H locs ls hW hS hl)
theorem V_bipush (hC : COK G Γ own cc nL fr lo mc ms hh) {n : Int} {v : Int32} (hdg : decode cc pc = .ok (.bipush n, 2)) (hv : (Int8.ofInt n).toInt32 = v) (k : V G Γ nL cells slots h (pc + 2) L (.int v :: st)) : V G Γ nL cells slots h pc L (st) := by
  obtain ⟨p, e, R, s, m, args, below, meth, c, Q⟩ := Γ
  intro H locs ls hW hS hl
  exact lv_bipush hC.1 hC.2.1 hdg hv (k H locs ls hW hS hl)
theorem V_sipush (hC : COK G Γ own cc nL fr lo mc ms hh) {n : Int} {v : Int32} (hdg : decode cc pc = .ok (.sipush n, 3)) (hv : (Int16.ofInt n).toInt32 = v) (k : V G Γ nL cells slots h (pc + 3) L (.int v :: st)) : V G Γ nL cells slots h pc L (st) := by
  obtain ⟨p, e, R, s, m, args, below, meth, c, Q⟩ := Γ
  intro H locs ls hW hS hl
  exact lv_sipush hC.1 hC.2.1 hdg hv (k H locs ls hW hS hl)
theorem V_lconst (hC : COK G Γ own cc nL fr lo mc ms hh) {n : Fin 2} {v : Int64} (hdg : decode cc pc = .ok (.lconst n, 1)) (hv : Int64.ofNat (n : Nat) = v) (k : V G Γ nL cells slots h (pc + 1) L (.long v :: st)) : V G Γ nL cells slots h pc L (st) := by
  obtain ⟨p, e, R, s, m, args, below, meth, c, Q⟩ := Γ
  intro H locs ls hW hS hl
  exact lv_lconst hC.1 hC.2.1 hdg hv (k H locs ls hW hS hl)
theorem V_fconst0 (hC : COK G Γ own cc nL fr lo mc ms hh)  (hdg : decode cc pc = .ok (.fconst 0, 1)) (k : V G Γ nL cells slots h (pc + 1) L (.float 0 :: st)) : V G Γ nL cells slots h pc L (st) := by
  obtain ⟨p, e, R, s, m, args, below, meth, c, Q⟩ := Γ
  intro H locs ls hW hS hl
  exact lv_fconst0 hC.1 hC.2.1 hdg (k H locs ls hW hS hl)
theorem V_dconst0 (hC : COK G Γ own cc nL fr lo mc ms hh)  (hdg : decode cc pc = .ok (.dconst 0, 1)) (k : V G Γ nL cells slots h (pc + 1) L (.double 0 :: st)) : V G Γ nL cells slots h pc L (st) := by
  obtain ⟨p, e, R, s, m, args, below, meth, c, Q⟩ := Γ
  intro H locs ls hW hS hl
  exact lv_dconst0 hC.1 hC.2.1 hdg (k H locs ls hW hS hl)
theorem V_null (hC : COK G Γ own cc nL fr lo mc ms hh)  (hdg : decode cc pc = .ok (.aconst_null, 1)) (k : V G Γ nL cells slots h (pc + 1) L (.null :: st)) : V G Γ nL cells slots h pc L (st) := by
  obtain ⟨p, e, R, s, m, args, below, meth, c, Q⟩ := Γ
  intro H locs ls hW hS hl
  exact lv_null hC.1 hC.2.1 hdg (k H locs ls hW hS hl)
theorem V_iload_n (hC : COK G Γ own cc nL fr lo mc ms hh) {k : Fin 4} {x : Int32} (hdg : decode cc pc = .ok (.iload_n k, 1)) (j : Nat) (hj : L[j]? = some ((k : Nat), .int x)) (k : V G Γ nL cells slots h (pc + 1) L (.int x :: st)) : V G Γ nL cells slots h pc L (st) := by
  obtain ⟨p, e, R, s, m, args, below, meth, c, Q⟩ := Γ
  intro H locs ls hW hS hl
  exact lv_iload_n hC.1 hC.2.1 hdg rfl (lv_at hl j hj) (k H locs ls hW hS hl)
theorem V_iload (hC : COK G Γ own cc nL fr lo mc ms hh) {i : Nat} {x : Int32} (hdg : decode cc pc = .ok (.iload i, 2)) (j : Nat) (hj : L[j]? = some (i, .int x)) (k : V G Γ nL cells slots h (pc + 2) L (.int x :: st)) : V G Γ nL cells slots h pc L (st) := by
  obtain ⟨p, e, R, s, m, args, below, meth, c, Q⟩ := Γ
  intro H locs ls hW hS hl
  exact lv_iload hC.1 hC.2.1 hdg (lv_at hl j hj) (k H locs ls hW hS hl)
theorem V_lload_n (hC : COK G Γ own cc nL fr lo mc ms hh) {k : Fin 4} {x : Int64} (hdg : decode cc pc = .ok (.lload_n k, 1)) (j : Nat) (hj : L[j]? = some ((k : Nat), .long x)) (k : V G Γ nL cells slots h (pc + 1) L (.long x :: st)) : V G Γ nL cells slots h pc L (st) := by
  obtain ⟨p, e, R, s, m, args, below, meth, c, Q⟩ := Γ
  intro H locs ls hW hS hl
  exact lv_lload_n hC.1 hC.2.1 hdg rfl (lv_at hl j hj) (k H locs ls hW hS hl)
theorem V_lload (hC : COK G Γ own cc nL fr lo mc ms hh) {i : Nat} {x : Int64} (hdg : decode cc pc = .ok (.lload i, 2)) (j : Nat) (hj : L[j]? = some (i, .long x)) (k : V G Γ nL cells slots h (pc + 2) L (.long x :: st)) : V G Γ nL cells slots h pc L (st) := by
  obtain ⟨p, e, R, s, m, args, below, meth, c, Q⟩ := Γ
  intro H locs ls hW hS hl
  exact lv_lload hC.1 hC.2.1 hdg (lv_at hl j hj) (k H locs ls hW hS hl)
theorem V_fload_n (hC : COK G Γ own cc nL fr lo mc ms hh) {k : Fin 4} {x : UInt32} (hdg : decode cc pc = .ok (.fload_n k, 1)) (j : Nat) (hj : L[j]? = some ((k : Nat), .float x)) (k : V G Γ nL cells slots h (pc + 1) L (.float x :: st)) : V G Γ nL cells slots h pc L (st) := by
  obtain ⟨p, e, R, s, m, args, below, meth, c, Q⟩ := Γ
  intro H locs ls hW hS hl
  exact lv_fload_n hC.1 hC.2.1 hdg rfl (lv_at hl j hj) (k H locs ls hW hS hl)
theorem V_fload (hC : COK G Γ own cc nL fr lo mc ms hh) {i : Nat} {x : UInt32} (hdg : decode cc pc = .ok (.fload i, 2)) (j : Nat) (hj : L[j]? = some (i, .float x)) (k : V G Γ nL cells slots h (pc + 2) L (.float x :: st)) : V G Γ nL cells slots h pc L (st) := by
  obtain ⟨p, e, R, s, m, args, below, meth, c, Q⟩ := Γ
  intro H locs ls hW hS hl
  exact lv_fload hC.1 hC.2.1 hdg (lv_at hl j hj) (k H locs ls hW hS hl)
theorem V_dload_n (hC : COK G Γ own cc nL fr lo mc ms hh) {k : Fin 4} {x : UInt64} (hdg : decode cc pc = .ok (.dload_n k, 1)) (j : Nat) (hj : L[j]? = some ((k : Nat), .double x)) (k : V G Γ nL cells slots h (pc + 1) L (.double x :: st)) : V G Γ nL cells slots h pc L (st) := by
  obtain ⟨p, e, R, s, m, args, below, meth, c, Q⟩ := Γ
  intro H locs ls hW hS hl
  exact lv_dload_n hC.1 hC.2.1 hdg rfl (lv_at hl j hj) (k H locs ls hW hS hl)
theorem V_dload (hC : COK G Γ own cc nL fr lo mc ms hh) {i : Nat} {x : UInt64} (hdg : decode cc pc = .ok (.dload i, 2)) (j : Nat) (hj : L[j]? = some (i, .double x)) (k : V G Γ nL cells slots h (pc + 2) L (.double x :: st)) : V G Γ nL cells slots h pc L (st) := by
  obtain ⟨p, e, R, s, m, args, below, meth, c, Q⟩ := Γ
  intro H locs ls hW hS hl
  exact lv_dload hC.1 hC.2.1 hdg (lv_at hl j hj) (k H locs ls hW hS hl)
theorem V_aload_n (hC : COK G Γ own cc nL fr lo mc ms hh) {k : Fin 4} {x : Nat} (hdg : decode cc pc = .ok (.aload_n k, 1)) (j : Nat) (hj : L[j]? = some ((k : Nat), .ref x)) (k : V G Γ nL cells slots h (pc + 1) L (.ref x :: st)) : V G Γ nL cells slots h pc L (st) := by
  obtain ⟨p, e, R, s, m, args, below, meth, c, Q⟩ := Γ
  intro H locs ls hW hS hl
  exact lv_aload_n hC.1 hC.2.1 hdg rfl (lv_at hl j hj) (k H locs ls hW hS hl)
theorem V_aload (hC : COK G Γ own cc nL fr lo mc ms hh) {i : Nat} {x : Nat} (hdg : decode cc pc = .ok (.aload i, 2)) (j : Nat) (hj : L[j]? = some (i, .ref x)) (k : V G Γ nL cells slots h (pc + 2) L (.ref x :: st)) : V G Γ nL cells slots h pc L (st) := by
  obtain ⟨p, e, R, s, m, args, below, meth, c, Q⟩ := Γ
  intro H locs ls hW hS hl
  exact lv_aload hC.1 hC.2.1 hdg (lv_at hl j hj) (k H locs ls hW hS hl)
theorem V_istore_n (hC : COK G Γ own cc nL fr lo mc ms hh) {k : Fin 4} {i : Nat} {x : Int32} {L' : List (Nat × Value)} (hdg : decode cc pc = .ok (.istore_n k, 1)) (hi : (k : Nat) = i) (hn : i < nL) (ks : List Nat) (hq : lv_pick ((i, Value.int x) :: L.filter (fun q => !(q.1 == i) && !(q.1 + 1 == i && q.2.category == 2))) ks = L') (k9 : V G Γ nL cells slots h (pc + 1) L' st) : V G Γ nL cells slots h pc L (.int x :: st) := by
  obtain ⟨p, e, R, s, m, args, below, meth, c, Q⟩ := Γ
  intro H locs ls hW hS hl
  exact lv_istore_n hC.1 hC.2.1 hdg hi hl hn rfl (fun ls1 hl1 => k9 H locs ls1 hW hS (lv_sub hl1 ks hq))
theorem V_istore (hC : COK G Γ own cc nL fr lo mc ms hh) {i : Nat} {x : Int32} {L' : List (Nat × Value)} (hdg : decode cc pc = .ok (.istore i, 2)) (hn : i < nL) (ks : List Nat) (hq : lv_pick ((i, Value.int x) :: L.filter (fun q => !(q.1 == i) && !(q.1 + 1 == i && q.2.category == 2))) ks = L') (k9 : V G Γ nL cells slots h (pc + 2) L' st) : V G Γ nL cells slots h pc L (.int x :: st) := by
  obtain ⟨p, e, R, s, m, args, below, meth, c, Q⟩ := Γ
  intro H locs ls hW hS hl
  exact lv_istore hC.1 hC.2.1 hdg hl hn rfl (fun ls1 hl1 => k9 H locs ls1 hW hS (lv_sub hl1 ks hq))
theorem V_lstore_n (hC : COK G Γ own cc nL fr lo mc ms hh) {k : Fin 4} {i : Nat} {x : Int64} {L' : List (Nat × Value)} (hdg : decode cc pc = .ok (.lstore_n k, 1)) (hi : (k : Nat) = i) (hn : i + 1 < nL) (ks : List Nat) (hq : lv_pick ((i, Value.long x) :: L.filter (fun q => !(q.1 == i) && (!(q.1 == i + 1) && !(q.1 + 1 == i && q.2.category == 2)))) ks = L') (k9 : V G Γ nL cells slots h (pc + 1) L' st) : V G Γ nL cells slots h pc L (.long x :: st) := by
  obtain ⟨p, e, R, s, m, args, below, meth, c, Q⟩ := Γ
  intro H locs ls hW hS hl
  exact lv_lstore_n hC.1 hC.2.1 hdg hi hl hn rfl (fun ls1 hl1 => k9 H locs ls1 hW hS (lv_sub hl1 ks hq))
theorem V_lstore (hC : COK G Γ own cc nL fr lo mc ms hh) {i : Nat} {x : Int64} {L' : List (Nat × Value)} (hdg : decode cc pc = .ok (.lstore i, 2)) (hn : i + 1 < nL) (ks : List Nat) (hq : lv_pick ((i, Value.long x) :: L.filter (fun q => !(q.1 == i) && (!(q.1 == i + 1) && !(q.1 + 1 == i && q.2.category == 2)))) ks = L') (k9 : V G Γ nL cells slots h (pc + 2) L' st) : V G Γ nL cells slots h pc L (.long x :: st) := by
  obtain ⟨p, e, R, s, m, args, below, meth, c, Q⟩ := Γ
  intro H locs ls hW hS hl
  exact lv_lstore hC.1 hC.2.1 hdg hl hn rfl (fun ls1 hl1 => k9 H locs ls1 hW hS (lv_sub hl1 ks hq))
theorem V_fstore_n (hC : COK G Γ own cc nL fr lo mc ms hh) {k : Fin 4} {i : Nat} {x : UInt32} {L' : List (Nat × Value)} (hdg : decode cc pc = .ok (.fstore_n k, 1)) (hi : (k : Nat) = i) (hn : i < nL) (ks : List Nat) (hq : lv_pick ((i, Value.float x) :: L.filter (fun q => !(q.1 == i) && !(q.1 + 1 == i && q.2.category == 2))) ks = L') (k9 : V G Γ nL cells slots h (pc + 1) L' st) : V G Γ nL cells slots h pc L (.float x :: st) := by
  obtain ⟨p, e, R, s, m, args, below, meth, c, Q⟩ := Γ
  intro H locs ls hW hS hl
  exact lv_fstore_n hC.1 hC.2.1 hdg hi hl hn rfl (fun ls1 hl1 => k9 H locs ls1 hW hS (lv_sub hl1 ks hq))
theorem V_fstore (hC : COK G Γ own cc nL fr lo mc ms hh) {i : Nat} {x : UInt32} {L' : List (Nat × Value)} (hdg : decode cc pc = .ok (.fstore i, 2)) (hn : i < nL) (ks : List Nat) (hq : lv_pick ((i, Value.float x) :: L.filter (fun q => !(q.1 == i) && !(q.1 + 1 == i && q.2.category == 2))) ks = L') (k9 : V G Γ nL cells slots h (pc + 2) L' st) : V G Γ nL cells slots h pc L (.float x :: st) := by
  obtain ⟨p, e, R, s, m, args, below, meth, c, Q⟩ := Γ
  intro H locs ls hW hS hl
  exact lv_fstore hC.1 hC.2.1 hdg hl hn rfl (fun ls1 hl1 => k9 H locs ls1 hW hS (lv_sub hl1 ks hq))
theorem V_dstore_n (hC : COK G Γ own cc nL fr lo mc ms hh) {k : Fin 4} {i : Nat} {x : UInt64} {L' : List (Nat × Value)} (hdg : decode cc pc = .ok (.dstore_n k, 1)) (hi : (k : Nat) = i) (hn : i + 1 < nL) (ks : List Nat) (hq : lv_pick ((i, Value.double x) :: L.filter (fun q => !(q.1 == i) && (!(q.1 == i + 1) && !(q.1 + 1 == i && q.2.category == 2)))) ks = L') (k9 : V G Γ nL cells slots h (pc + 1) L' st) : V G Γ nL cells slots h pc L (.double x :: st) := by
  obtain ⟨p, e, R, s, m, args, below, meth, c, Q⟩ := Γ
  intro H locs ls hW hS hl
  exact lv_dstore_n hC.1 hC.2.1 hdg hi hl hn rfl (fun ls1 hl1 => k9 H locs ls1 hW hS (lv_sub hl1 ks hq))
theorem V_dstore (hC : COK G Γ own cc nL fr lo mc ms hh) {i : Nat} {x : UInt64} {L' : List (Nat × Value)} (hdg : decode cc pc = .ok (.dstore i, 2)) (hn : i + 1 < nL) (ks : List Nat) (hq : lv_pick ((i, Value.double x) :: L.filter (fun q => !(q.1 == i) && (!(q.1 == i + 1) && !(q.1 + 1 == i && q.2.category == 2)))) ks = L') (k9 : V G Γ nL cells slots h (pc + 2) L' st) : V G Γ nL cells slots h pc L (.double x :: st) := by
  obtain ⟨p, e, R, s, m, args, below, meth, c, Q⟩ := Γ
  intro H locs ls hW hS hl
  exact lv_dstore hC.1 hC.2.1 hdg hl hn rfl (fun ls1 hl1 => k9 H locs ls1 hW hS (lv_sub hl1 ks hq))
theorem V_astore_n (hC : COK G Γ own cc nL fr lo mc ms hh) {k : Fin 4} {i : Nat} {x : Nat} {L' : List (Nat × Value)} (hdg : decode cc pc = .ok (.astore_n k, 1)) (hi : (k : Nat) = i) (hn : i < nL) (ks : List Nat) (hq : lv_pick ((i, Value.ref x) :: L.filter (fun q => !(q.1 == i) && !(q.1 + 1 == i && q.2.category == 2))) ks = L') (k9 : V G Γ nL cells slots h (pc + 1) L' st) : V G Γ nL cells slots h pc L (.ref x :: st) := by
  obtain ⟨p, e, R, s, m, args, below, meth, c, Q⟩ := Γ
  intro H locs ls hW hS hl
  exact lv_astore_n hC.1 hC.2.1 hdg hi hl hn rfl (fun ls1 hl1 => k9 H locs ls1 hW hS (lv_sub hl1 ks hq))
theorem V_astore (hC : COK G Γ own cc nL fr lo mc ms hh) {i : Nat} {x : Nat} {L' : List (Nat × Value)} (hdg : decode cc pc = .ok (.astore i, 2)) (hn : i < nL) (ks : List Nat) (hq : lv_pick ((i, Value.ref x) :: L.filter (fun q => !(q.1 == i) && !(q.1 + 1 == i && q.2.category == 2))) ks = L') (k9 : V G Γ nL cells slots h (pc + 2) L' st) : V G Γ nL cells slots h pc L (.ref x :: st) := by
  obtain ⟨p, e, R, s, m, args, below, meth, c, Q⟩ := Γ
  intro H locs ls hW hS hl
  exact lv_astore hC.1 hC.2.1 hdg hl hn rfl (fun ls1 hl1 => k9 H locs ls1 hW hS (lv_sub hl1 ks hq))
theorem V_iinc (hC : COK G Γ own cc nL fr lo mc ms hh) {i j : Nat} {n : Int} {x v : Int32} {L' : List (Nat × Value)} (hdg : decode cc pc = .ok (.iinc i n, 3)) (hj : L[j]? = some (i, .int x)) (hv : x + Int32.ofInt n = v) (hn : i < nL) (ks : List Nat) (hq : lv_pick ((i, Value.int v) :: L.filter (fun q => !(q.1 == i) && !(q.1 + 1 == i && q.2.category == 2))) ks = L') (k9 : V G Γ nL cells slots h (pc + 3) L' st) : V G Γ nL cells slots h pc L st := by
  obtain ⟨p, e, R, s, m, args, below, meth, c, Q⟩ := Γ
  intro H locs ls hW hS hl
  exact lv_iinc hC.1 hC.2.1 hdg hl (k := j) hj hv hn rfl (fun ls1 hl1 => k9 H locs ls1 hW hS (lv_sub hl1 ks hq))
theorem V_iadd (hC : COK G Γ own cc nL fr lo mc ms hh) {x y : Int32} (hdg : decode cc pc = .ok (.iadd, 1)) (k : V G Γ nL cells slots h (pc + 1) L (.int (x + y) :: st)) : V G Γ nL cells slots h pc L (.int y :: .int x :: st) := by
  obtain ⟨p, e, R, s, m, args, below, meth, c, Q⟩ := Γ
  intro H locs ls hW hS hl
  exact lv_iadd hC.1 hC.2.1 hdg (k H locs ls hW hS hl)
theorem V_isub (hC : COK G Γ own cc nL fr lo mc ms hh) {x y : Int32} (hdg : decode cc pc = .ok (.isub, 1)) (k : V G Γ nL cells slots h (pc + 1) L (.int (x - y) :: st)) : V G Γ nL cells slots h pc L (.int y :: .int x :: st) := by
  obtain ⟨p, e, R, s, m, args, below, meth, c, Q⟩ := Γ
  intro H locs ls hW hS hl
  exact lv_isub hC.1 hC.2.1 hdg (k H locs ls hW hS hl)
theorem V_imul (hC : COK G Γ own cc nL fr lo mc ms hh) {x y : Int32} (hdg : decode cc pc = .ok (.imul, 1)) (k : V G Γ nL cells slots h (pc + 1) L (.int (x * y) :: st)) : V G Γ nL cells slots h pc L (.int y :: .int x :: st) := by
  obtain ⟨p, e, R, s, m, args, below, meth, c, Q⟩ := Γ
  intro H locs ls hW hS hl
  exact lv_imul hC.1 hC.2.1 hdg (k H locs ls hW hS hl)
theorem V_iand (hC : COK G Γ own cc nL fr lo mc ms hh) {x y : Int32} (hdg : decode cc pc = .ok (.iand, 1)) (k : V G Γ nL cells slots h (pc + 1) L (.int (x &&& y) :: st)) : V G Γ nL cells slots h pc L (.int y :: .int x :: st) := by
  obtain ⟨p, e, R, s, m, args, below, meth, c, Q⟩ := Γ
  intro H locs ls hW hS hl
  exact lv_iand hC.1 hC.2.1 hdg (k H locs ls hW hS hl)
theorem V_ior (hC : COK G Γ own cc nL fr lo mc ms hh) {x y : Int32} (hdg : decode cc pc = .ok (.ior, 1)) (k : V G Γ nL cells slots h (pc + 1) L (.int (x ||| y) :: st)) : V G Γ nL cells slots h pc L (.int y :: .int x :: st) := by
  obtain ⟨p, e, R, s, m, args, below, meth, c, Q⟩ := Γ
  intro H locs ls hW hS hl
  exact lv_ior hC.1 hC.2.1 hdg (k H locs ls hW hS hl)
theorem V_ixor (hC : COK G Γ own cc nL fr lo mc ms hh) {x y : Int32} (hdg : decode cc pc = .ok (.ixor, 1)) (k : V G Γ nL cells slots h (pc + 1) L (.int (x ^^^ y) :: st)) : V G Γ nL cells slots h pc L (.int y :: .int x :: st) := by
  obtain ⟨p, e, R, s, m, args, below, meth, c, Q⟩ := Γ
  intro H locs ls hW hS hl
  exact lv_ixor hC.1 hC.2.1 hdg (k H locs ls hW hS hl)
theorem V_ishl (hC : COK G Γ own cc nL fr lo mc ms hh) {x y : Int32} (hdg : decode cc pc = .ok (.ishl, 1)) (k : V G Γ nL cells slots h (pc + 1) L (.int (x <<< (y &&& 31)) :: st)) : V G Γ nL cells slots h pc L (.int y :: .int x :: st) := by
  obtain ⟨p, e, R, s, m, args, below, meth, c, Q⟩ := Γ
  intro H locs ls hW hS hl
  exact lv_ishl hC.1 hC.2.1 hdg (k H locs ls hW hS hl)
theorem V_ishr (hC : COK G Γ own cc nL fr lo mc ms hh) {x y : Int32} (hdg : decode cc pc = .ok (.ishr, 1)) (k : V G Γ nL cells slots h (pc + 1) L (.int (x >>> (y &&& 31)) :: st)) : V G Γ nL cells slots h pc L (.int y :: .int x :: st) := by
  obtain ⟨p, e, R, s, m, args, below, meth, c, Q⟩ := Γ
  intro H locs ls hW hS hl
  exact lv_ishr hC.1 hC.2.1 hdg (k H locs ls hW hS hl)
theorem V_idiv (hC : COK G Γ own cc nL fr lo mc ms hh) {x y : Int32} (hdg : decode cc pc = .ok (.idiv, 1)) (hne : ¬ y = 0) (k : V G Γ nL cells slots h (pc + 1) L (.int (x / y) :: st)) : V G Γ nL cells slots h pc L (.int y :: .int x :: st) := by
  obtain ⟨p, e, R, s, m, args, below, meth, c, Q⟩ := Γ
  intro H locs ls hW hS hl
  exact lv_idiv hC.1 hC.2.1 hdg hne (k H locs ls hW hS hl)
theorem V_ineg (hC : COK G Γ own cc nL fr lo mc ms hh) {x : Int32} (hdg : decode cc pc = .ok (.ineg, 1)) (k : V G Γ nL cells slots h (pc + 1) L (.int (-x) :: st)) : V G Γ nL cells slots h pc L (.int x :: st) := by
  obtain ⟨p, e, R, s, m, args, below, meth, c, Q⟩ := Γ
  intro H locs ls hW hS hl
  exact lv_ineg hC.1 hC.2.1 hdg (k H locs ls hW hS hl)
theorem V_iushr (hC : COK G Γ own cc nL fr lo mc ms hh) {x y v : Int32} (hdg : decode cc pc = .ok (.iushr, 1)) (hv : (x.toUInt32 >>> (y.toUInt32 &&& Int32.toUInt32 31)).toInt32 = v) (k : V G Γ nL cells slots h (pc + 1) L (.int v :: st)) : V G Γ nL cells slots h pc L (.int y :: .int x :: st) := by
  obtain ⟨p, e, R, s, m, args, below, meth, c, Q⟩ := Γ
  intro H locs ls hW hS hl
  exact lv_iushr hC.1 hC.2.1 hdg hv (k H locs ls hW hS hl)
theorem V_ladd (hC : COK G Γ own cc nL fr lo mc ms hh) {x y : Int64} (hdg : decode cc pc = .ok (.ladd, 1)) (k : V G Γ nL cells slots h (pc + 1) L (.long (x + y) :: st)) : V G Γ nL cells slots h pc L (.long y :: .long x :: st) := by
  obtain ⟨p, e, R, s, m, args, below, meth, c, Q⟩ := Γ
  intro H locs ls hW hS hl
  exact lv_ladd hC.1 hC.2.1 hdg (k H locs ls hW hS hl)
theorem V_lsub (hC : COK G Γ own cc nL fr lo mc ms hh) {x y : Int64} (hdg : decode cc pc = .ok (.lsub, 1)) (k : V G Γ nL cells slots h (pc + 1) L (.long (x - y) :: st)) : V G Γ nL cells slots h pc L (.long y :: .long x :: st) := by
  obtain ⟨p, e, R, s, m, args, below, meth, c, Q⟩ := Γ
  intro H locs ls hW hS hl
  exact lv_lsub hC.1 hC.2.1 hdg (k H locs ls hW hS hl)
theorem V_i2l (hC : COK G Γ own cc nL fr lo mc ms hh) {x : Int32} (hdg : decode cc pc = .ok (.i2l, 1)) (k : V G Γ nL cells slots h (pc + 1) L (.long x.toInt64 :: st)) : V G Γ nL cells slots h pc L (.int x :: st) := by
  obtain ⟨p, e, R, s, m, args, below, meth, c, Q⟩ := Γ
  intro H locs ls hW hS hl
  exact lv_i2l hC.1 hC.2.1 hdg rfl (k H locs ls hW hS hl)
theorem V_i2f (hC : COK G Γ own cc nL fr lo mc ms hh) {x : Int32} (hdg : decode cc pc = .ok (.i2f, 1)) (k : V G Γ nL cells slots h (pc + 1) L (.float (FP.i2f x) :: st)) : V G Γ nL cells slots h pc L (.int x :: st) := by
  obtain ⟨p, e, R, s, m, args, below, meth, c, Q⟩ := Γ
  intro H locs ls hW hS hl
  exact lv_i2f hC.1 hC.2.1 hdg (k H locs ls hW hS hl)
theorem V_i2d (hC : COK G Γ own cc nL fr lo mc ms hh) {x : Int32} (hdg : decode cc pc = .ok (.i2d, 1)) (k : V G Γ nL cells slots h (pc + 1) L (.double (FP.i2d x) :: st)) : V G Γ nL cells slots h pc L (.int x :: st) := by
  obtain ⟨p, e, R, s, m, args, below, meth, c, Q⟩ := Γ
  intro H locs ls hW hS hl
  exact lv_i2d hC.1 hC.2.1 hdg (k H locs ls hW hS hl)
theorem V_f2d (hC : COK G Γ own cc nL fr lo mc ms hh) {x : UInt32} (hdg : decode cc pc = .ok (.f2d, 1)) (hne : vf_n64 (FP.f2d x)) (k : V G Γ nL cells slots h (pc + 1) L (.double (FP.f2d x) :: st)) : V G Γ nL cells slots h pc L (.float x :: st) := by
  obtain ⟨p, e, R, s, m, args, below, meth, c, Q⟩ := Γ
  intro H locs ls hW hS hl
  exact lv_f2d hC.1 hC.2.1 hdg hne (k H locs ls hW hS hl)
theorem V_fdiv (hC : COK G Γ own cc nL fr lo mc ms hh) {x y : UInt32} (hdg : decode cc pc = .ok (.fdiv, 1)) (hne : vf_n32 (FP.fdiv x y)) (k : V G Γ nL cells slots h (pc + 1) L (.float (FP.fdiv x y) :: st)) : V G Γ nL cells slots h pc L (.float y :: .float x :: st) := by
  obtain ⟨p, e, R, s, m, args, below, meth, c, Q⟩ := Γ
  intro H locs ls hW hS hl
  exact lv_fdiv hC.1 hC.2.1 hdg hne (k H locs ls hW hS hl)
theorem V_ddiv (hC : COK G Γ own cc nL fr lo mc ms hh) {x y : UInt64} (hdg : decode cc pc = .ok (.ddiv, 1)) (hne : vf_n64 (FP.ddiv x y)) (k : V G Γ nL cells slots h (pc + 1) L (.double (FP.ddiv x y) :: st)) : V G Γ nL cells slots h pc L (.double y :: .double x :: st) := by
  obtain ⟨p, e, R, s, m, args, below, meth, c, Q⟩ := Γ
  intro H locs ls hW hS hl
  exact lv_ddiv hC.1 hC.2.1 hdg hne (k H locs ls hW hS hl)
theorem V_fcmp (hC : COK G Γ own cc nL fr lo mc ms hh) {x y : UInt32} {op : CmpOp} (hdg : decode cc pc = .ok (.fcmp op, 1)) (k : V G Γ nL cells slots h (pc + 1) L (.int (Op.cmpValue (FP.fcmp x y) op) :: st)) : V G Γ nL cells slots h pc L (.float y :: .float x :: st) := by
  obtain ⟨p, e, R, s, m, args, below, meth, c, Q⟩ := Γ
  intro H locs ls hW hS hl
  exact lv_fcmp hC.1 hC.2.1 hdg (k H locs ls hW hS hl)
theorem V_dcmp (hC : COK G Γ own cc nL fr lo mc ms hh) {x y : UInt64} {op : CmpOp} (hdg : decode cc pc = .ok (.dcmp op, 1)) (k : V G Γ nL cells slots h (pc + 1) L (.int (Op.cmpValue (FP.dcmp x y) op) :: st)) : V G Γ nL cells slots h pc L (.double y :: .double x :: st) := by
  obtain ⟨p, e, R, s, m, args, below, meth, c, Q⟩ := Γ
  intro H locs ls hW hS hl
  exact lv_dcmp hC.1 hC.2.1 hdg (k H locs ls hW hS hl)
theorem V_irem (hC : COK G Γ own cc nL fr lo mc ms hh) {x y : Int32} (hdg : decode cc pc = .ok (.irem, 1)) (hne : ¬ y = 0) (k : V G Γ nL cells slots h (pc + 1) L (.int (x - x / y * y) :: st)) : V G Γ nL cells slots h pc L (.int y :: .int x :: st) := by
  obtain ⟨p, e, R, s, m, args, below, meth, c, Q⟩ := Γ
  intro H locs ls hW hS hl
  exact lv_irem hC.1 hC.2.1 hdg hne (k H locs ls hW hS hl)
theorem V_l2i (hC : COK G Γ own cc nL fr lo mc ms hh) {x : Int64} (hdg : decode cc pc = .ok (.l2i, 1)) (k : V G Γ nL cells slots h (pc + 1) L (.int x.toInt32 :: st)) : V G Γ nL cells slots h pc L (.long x :: st) := by
  obtain ⟨p, e, R, s, m, args, below, meth, c, Q⟩ := Γ
  intro H locs ls hW hS hl
  exact lv_l2i hC.1 hC.2.1 hdg rfl (k H locs ls hW hS hl)
theorem V_lcmp (hC : COK G Γ own cc nL fr lo mc ms hh) {x y : Int64} (hdg : decode cc pc = .ok (.lcmp, 1)) (k : V G Γ nL cells slots h (pc + 1) L (.int (lg_cmp x y) :: st)) : V G Γ nL cells slots h pc L (.long y :: .long x :: st) := by
  obtain ⟨p, e, R, s, m, args, below, meth, c, Q⟩ := Γ
  intro H locs ls hW hS hl
  exact W.lcmp hC.1 hC.2.1 hdg (k H locs ls hW hS hl)
theorem V_dup (hC : COK G Γ own cc nL fr lo mc ms hh) {va : Value} (hdg : decode cc pc = .ok (.dup, 1)) (hva : va.category = 1) (k : V G Γ nL cells slots h (pc + 1) L (va :: va :: st)) : V G Γ nL cells slots h pc L (va :: st) := by
  obtain ⟨p, e, R, s, m, args, below, meth, c, Q⟩ := Γ
  intro H locs ls hW hS hl
  exact lv_dup hC.1 hC.2.1 hdg hva (k H locs ls hW hS hl)
theorem V_pop (hC : COK G Γ own cc nL fr lo mc ms hh) {va : Value} (hdg : decode cc pc = .ok (.pop, 1)) (hva : va.category = 1) (k : V G Γ nL cells slots h (pc + 1) L (st)) : V G Γ nL cells slots h pc L (va :: st) := by
  obtain ⟨p, e, R, s, m, args, below, meth, c, Q⟩ := Γ
  intro H locs ls hW hS hl
  exact lv_pop hC.1 hC.2.1 hdg hva (k H locs ls hW hS hl)
theorem V_dup_x1 (hC : COK G Γ own cc nL fr lo mc ms hh) {va vb : Value} (hdg : decode cc pc = .ok (.dup_x1, 1)) (hva : va.category = 1) (hvb : vb.category = 1) (k : V G Γ nL cells slots h (pc + 1) L (va :: vb :: va :: st)) : V G Γ nL cells slots h pc L (va :: vb :: st) := by
  obtain ⟨p, e, R, s, m, args, below, meth, c, Q⟩ := Γ
  intro H locs ls hW hS hl
  exact lv_dup_x1 hC.1 hC.2.1 hdg hva hvb (k H locs ls hW hS hl)
theorem V_dup2 (hC : COK G Γ own cc nL fr lo mc ms hh) {va vb : Value} (hdg : decode cc pc = .ok (.dup2, 1)) (hva : va.category = 1) (hvb : vb.category = 1) (k : V G Γ nL cells slots h (pc + 1) L (va :: vb :: va :: vb :: st)) : V G Γ nL cells slots h pc L (va :: vb :: st) := by
  obtain ⟨p, e, R, s, m, args, below, meth, c, Q⟩ := Γ
  intro H locs ls hW hS hl
  exact lv_dup2_11 hC.1 hC.2.1 hdg hva hvb (k H locs ls hW hS hl)
theorem V_if_eq (hC : COK G Γ own cc nL fr lo mc ms hh) {x : Int32} {off : Int} {tgt : Nat} (hdg : decode cc pc = .ok (.ifCond .eq off, 3)) (ht : (pc : Int) + off = (tgt : Int)) (kt : x = 0 → V G Γ nL cells slots h tgt L st) (kf : ¬ x = 0 → V G Γ nL cells slots h (pc + 3) L st) : V G Γ nL cells slots h pc L (.int x :: st) := by
  obtain ⟨p, e, R, s, m, args, below, meth, c, Q⟩ := Γ
  intro H locs ls hW hS hl
  exact lv_if_eq hC.1 hC.2.1 hdg ht (fun z => kt z H locs ls hW hS hl) (fun z => kf z H locs ls hW hS hl)
theorem V_icmp_eq (hC : COK G Γ own cc nL fr lo mc ms hh) {x y : Int32} {off : Int} {tgt : Nat} (hdg : decode cc pc = .ok (.if_icmp .eq off, 3)) (ht : (pc : Int) + off = (tgt : Int)) (kt : x = y → V G Γ nL cells slots h tgt L st) (kf : ¬ x = y → V G Γ nL cells slots h (pc + 3) L st) : V G Γ nL cells slots h pc L (.int y :: .int x :: st) := by
  obtain ⟨p, e, R, s, m, args, below, meth, c, Q⟩ := Γ
  intro H locs ls hW hS hl
  exact lv_icmp_eq hC.1 hC.2.1 hdg ht (fun z => kt z H locs ls hW hS hl) (fun z => kf z H locs ls hW hS hl)
theorem V_if_ne (hC : COK G Γ own cc nL fr lo mc ms hh) {x : Int32} {off : Int} {tgt : Nat} (hdg : decode cc pc = .ok (.ifCond .ne off, 3)) (ht : (pc : Int) + off = (tgt : Int)) (kt : ¬ x = 0 → V G Γ nL cells slots h tgt L st) (kf : x = 0 → V G Γ nL cells slots h (pc + 3) L st) : V G Γ nL cells slots h pc L (.int x :: st) := by
  obtain ⟨p, e, R, s, m, args, below, meth, c, Q⟩ := Γ
  intro H locs ls hW hS hl
  exact lv_if_ne hC.1 hC.2.1 hdg ht (fun z => kt z H locs ls hW hS hl) (fun z => kf z H locs ls hW hS hl)
theorem V_icmp_ne (hC : COK G Γ own cc nL fr lo mc ms hh) {x y : Int32} {off : Int} {tgt : Nat} (hdg : decode cc pc = .ok (.if_icmp .ne off, 3)) (ht : (pc : Int) + off = (tgt : Int)) (kt : ¬ x = y → V G Γ nL cells slots h tgt L st) (kf : x = y → V G Γ nL cells slots h (pc + 3) L st) : V G Γ nL cells slots h pc L (.int y :: .int x :: st) := by
  obtain ⟨p, e, R, s, m, args, below, meth, c, Q⟩ := Γ
  intro H locs ls hW hS hl
  exact lv_icmp_ne hC.1 hC.2.1 hdg ht (fun z => kt z H locs ls hW hS hl) (fun z => kf z H locs ls hW hS hl)
theorem V_if_lt (hC : COK G Γ own cc nL fr lo mc ms hh) {x : Int32} {off : Int} {tgt : Nat} (hdg : decode cc pc = .ok (.ifCond .lt off, 3)) (ht : (pc : Int) + off = (tgt : Int)) (kt : x < 0 → V G Γ nL cells slots h tgt L st) (kf : ¬ x < 0 → V G Γ nL cells slots h (pc + 3) L st) : V G Γ nL cells slots h pc L (.int x :: st) := by
  obtain ⟨p, e, R, s, m, args, below, meth, c, Q⟩ := Γ
  intro H locs ls hW hS hl
  exact lv_if_lt hC.1 hC.2.1 hdg ht (fun z => kt z H locs ls hW hS hl) (fun z => kf z H locs ls hW hS hl)
theorem V_icmp_lt (hC : COK G Γ own cc nL fr lo mc ms hh) {x y : Int32} {off : Int} {tgt : Nat} (hdg : decode cc pc = .ok (.if_icmp .lt off, 3)) (ht : (pc : Int) + off = (tgt : Int)) (kt : x < y → V G Γ nL cells slots h tgt L st) (kf : ¬ x < y → V G Γ nL cells slots h (pc + 3) L st) : V G Γ nL cells slots h pc L (.int y :: .int x :: st) := by
  obtain ⟨p, e, R, s, m, args, below, meth, c, Q⟩ := Γ
  intro H locs ls hW hS hl
  exact lv_icmp_lt hC.1 hC.2.1 hdg ht (fun z => kt z H locs ls hW hS hl) (fun z => kf z H locs ls hW hS hl)
theorem V_if_ge (hC : COK G Γ own cc nL fr lo mc ms hh) {x : Int32} {off : Int} {tgt : Nat} (hdg : decode cc pc = .ok (.ifCond .ge off, 3)) (ht : (pc : Int) + off = (tgt : Int)) (kt : 0 ≤ x → V G Γ nL cells slots h tgt L st) (kf : ¬ 0 ≤ x → V G Γ nL cells slots h (pc + 3) L st) : V G Γ nL cells slots h pc L (.int x :: st) := by
  obtain ⟨p, e, R, s, m, args, below, meth, c, Q⟩ := Γ
  intro H locs ls hW hS hl
  exact lv_if_ge hC.1 hC.2.1 hdg ht (fun z => kt z H locs ls hW hS hl) (fun z => kf z H locs ls hW hS hl)
theorem V_icmp_ge (hC : COK G Γ own cc nL fr lo mc ms hh) {x y : Int32} {off : Int} {tgt : Nat} (hdg : decode cc pc = .ok (.if_icmp .ge off, 3)) (ht : (pc : Int) + off = (tgt : Int)) (kt : y ≤ x → V G Γ nL cells slots h tgt L st) (kf : ¬ y ≤ x → V G Γ nL cells slots h (pc + 3) L st) : V G Γ nL cells slots h pc L (.int y :: .int x :: st) := by
  obtain ⟨p, e, R, s, m, args, below, meth, c, Q⟩ := Γ
  intro H locs ls hW hS hl
  exact lv_icmp_ge hC.1 hC.2.1 hdg ht (fun z => kt z H locs ls hW hS hl) (fun z => kf z H locs ls hW hS hl)
theorem V_if_gt (hC : COK G Γ own cc nL fr lo mc ms hh) {x : Int32} {off : Int} {tgt : Nat} (hdg : decode cc pc = .ok (.ifCond .gt off, 3)) (ht : (pc : Int) + off = (tgt : Int)) (kt : 0 < x → V G Γ nL cells slots h tgt L st) (kf : ¬ 0 < x → V G Γ nL cells slots h (pc + 3) L st) : V G Γ nL cells slots h pc L (.int x :: st) := by
  obtain ⟨p, e, R, s, m, args, below, meth, c, Q⟩ := Γ
  intro H locs ls hW hS hl
  exact lv_if_gt hC.1 hC.2.1 hdg ht (fun z => kt z H locs ls hW hS hl) (fun z => kf z H locs ls hW hS hl)
theorem V_icmp_gt (hC : COK G Γ own cc nL fr lo mc ms hh) {x y : Int32} {off : Int} {tgt : Nat} (hdg : decode cc pc = .ok (.if_icmp .gt off, 3)) (ht : (pc : Int) + off = (tgt : Int)) (kt : y < x → V G Γ nL cells slots h tgt L st) (kf : ¬ y < x → V G Γ nL cells slots h (pc + 3) L st) : V G Γ nL cells slots h pc L (.int y :: .int x :: st) := by
  obtain ⟨p, e, R, s, m, args, below, meth, c, Q⟩ := Γ
  intro H locs ls hW hS hl
  exact lv_icmp_gt hC.1 hC.2.1 hdg ht (fun z => kt z H locs ls hW hS hl) (fun z => kf z H locs ls hW hS hl)
theorem V_if_le (hC : COK G Γ own cc nL fr lo mc ms hh) {x : Int32} {off : Int} {tgt : Nat} (hdg : decode cc pc = .ok (.ifCond .le off, 3)) (ht : (pc : Int) + off = (tgt : Int)) (kt : x ≤ 0 → V G Γ nL cells slots h tgt L st) (kf : ¬ x ≤ 0 → V G Γ nL cells slots h (pc + 3) L st) : V G Γ nL cells slots h pc L (.int x :: st) := by
  obtain ⟨p, e, R, s, m, args, below, meth, c, Q⟩ := Γ
  intro H locs ls hW hS hl
  exact lv_if_le hC.1 hC.2.1 hdg ht (fun z => kt z H locs ls hW hS hl) (fun z => kf z H locs ls hW hS hl)
theorem V_icmp_le (hC : COK G Γ own cc nL fr lo mc ms hh) {x y : Int32} {off : Int} {tgt : Nat} (hdg : decode cc pc = .ok (.if_icmp .le off, 3)) (ht : (pc : Int) + off = (tgt : Int)) (kt : x ≤ y → V G Γ nL cells slots h tgt L st) (kf : ¬ x ≤ y → V G Γ nL cells slots h (pc + 3) L st) : V G Γ nL cells slots h pc L (.int y :: .int x :: st) := by
  obtain ⟨p, e, R, s, m, args, below, meth, c, Q⟩ := Γ
  intro H locs ls hW hS hl
  exact lv_icmp_le hC.1 hC.2.1 hdg ht (fun z => kt z H locs ls hW hS hl) (fun z => kf z H locs ls hW hS hl)
theorem V_acmp_eq (hC : COK G Γ own cc nL fr lo mc ms hh) {rx ry : Option Nat} {off : Int} {tgt : Nat} (hdg : decode cc pc = .ok (.if_acmp .eq off, 3)) (ht : (pc : Int) + off = (tgt : Int)) (kt : rx = ry → V G Γ nL cells slots h tgt L st) (kf : ¬ rx = ry → V G Γ nL cells slots h (pc + 3) L st) : V G Γ nL cells slots h pc L (va_rf ry :: va_rf rx :: st) := by
  obtain ⟨p, e, R, s, m, args, below, meth, c, Q⟩ := Γ
  intro H locs ls hW hS hl
  exact lv_acmp_eq hC.1 hC.2.1 hdg ht (fun z => kt z H locs ls hW hS hl) (fun z => kf z H locs ls hW hS hl)
theorem V_acmp_ne (hC : COK G Γ own cc nL fr lo mc ms hh) {rx ry : Option Nat} {off : Int} {tgt : Nat} (hdg : decode cc pc = .ok (.if_acmp .ne off, 3)) (ht : (pc : Int) + off = (tgt : Int)) (kt : ¬ rx = ry → V G Γ nL cells slots h tgt L st) (kf : rx = ry → V G Γ nL cells slots h (pc + 3) L st) : V G Γ nL cells slots h pc L (va_rf ry :: va_rf rx :: st) := by
  obtain ⟨p, e, R, s, m, args, below, meth, c, Q⟩ := Γ
  intro H locs ls hW hS hl
  exact lv_acmp_ne hC.1 hC.2.1 hdg ht (fun z => kt z H locs ls hW hS hl) (fun z => kf z H locs ls hW hS hl)
theorem V_goto (hC : COK G Γ own cc nL fr lo mc ms hh) {off : Int} {tgt : Nat} (hdg : decode cc pc = .ok (.goto off, 3)) (ht : (pc : Int) + off = (tgt : Int)) (k : V G Γ nL cells slots h tgt L st) : V G Γ nL cells slots h pc L st := by
  obtain ⟨p, e, R, s, m, args, below, meth, c, Q⟩ := Γ
  intro H locs ls hW hS hl
  exact lv_goto hC.1 hC.2.1 hdg ht (k H locs ls hW hS hl)
theorem V_sub {L' : List (Nat × Value)} (ks : List Nat) (hq : lv_pick L ks = L') (k : V G Γ nL cells slots h pc L' st) : V G Γ nL cells slots h pc L st := by
  obtain ⟨p, e, R, s, m, args, below, meth, c, Q⟩ := Γ
  intro H locs ls hW hS hl
  exact k H locs ls hW hS (lv_sub hl ks hq)
theorem V_widen {c1 s1 : Nat} (h1 : cells ≤ c1) (h2 : slots ≤ s1) (k : V G Γ nL c1 s1 h pc L st) : V G Γ nL cells slots h pc L st := by
  obtain ⟨p, e, R, s, m, args, below, meth, c, Q⟩ := Γ
  intro H locs ls hW hS hl
  exact W.widen h1 h2 (k H locs ls hW hS hl)
theorem V_tableIn (hC : COK G Γ own cc nL fr lo mc ms hh) {dflt lo' hi' : Int} {offs : Array Int} {len : Nat} {x : Int32} {off : Int} {tgt : Nat} (hdg : decode cc pc = .ok (.tableswitch dflt lo' hi' offs, len)) (h1 : ¬ x.toInt < lo') (h2 : ¬ hi' < x.toInt) (ho : offs[(x.toInt - lo').toNat]? = some off) (ht : (pc : Int) + off = (tgt : Int)) (k : V G Γ nL cells slots h tgt L st) : V G Γ nL cells slots h pc L (.int x :: st) := by
  obtain ⟨p, e, R, s, m, args, below, meth, c, Q⟩ := Γ
  intro H locs ls hW hS hl
  exact lv_tableIn hC.1 hC.2.1 hdg h1 h2 ho ht (k H locs ls hW hS hl)
theorem V_tableOut (hC : COK G Γ own cc nL fr lo mc ms hh) {dflt lo' hi' : Int} {offs : Array Int} {len : Nat} {x : Int32} {tgt : Nat} (hdg : decode cc pc = .ok (.tableswitch dflt lo' hi' offs, len)) (ho : x.toInt < lo' ∨ hi' < x.toInt) (ht : (pc : Int) + dflt = (tgt : Int)) (k : V G Γ nL cells slots h tgt L st) : V G Γ nL cells slots h pc L (.int x :: st) := by
  obtain ⟨p, e, R, s, m, args, below, meth, c, Q⟩ := Γ
  intro H locs ls hW hS hl
  exact lv_tableOut hC.1 hC.2.1 hdg ho ht (k H locs ls hW hS hl)
theorem V_ldc (hC : COK G Γ own cc nL fr lo mc ms hh) {index : Nat} {v : Int32} (hc : Cond.constant own index v ∈ AW) (hdg : decode cc pc = .ok (.ldc index, 2)) (k : V G Γ nL cells slots h (pc + 2) L (.int v :: st)) : V G Γ nL cells slots h pc L st := by
  obtain ⟨p, e, R, s, m, args, below, meth, c, Q⟩ := Γ
  intro H locs ls hW hS hl
  exact lv_ldc hC.1 hC.2.1 hC.2.2.2.1 (hC.2.2.2.2.1 _ hc) hdg (k H locs ls hW hS hl)
theorem V_ldcw (hC : COK G Γ own cc nL fr lo mc ms hh) {index : Nat} {v : Int32} (hc : Cond.constant own index v ∈ AW) (hdg : decode cc pc = .ok (.ldc_w index, 3)) (k : V G Γ nL cells slots h (pc + 3) L (.int v :: st)) : V G Γ nL cells slots h pc L st := by
  obtain ⟨p, e, R, s, m, args, below, meth, c, Q⟩ := Γ
  intro H locs ls hW hS hl
  exact lv_ldcw hC.1 hC.2.1 hC.2.2.2.1 (hC.2.2.2.2.1 _ hc) hdg (k H locs ls hW hS hl)
theorem V_ldcf (hC : COK G Γ own cc nL fr lo mc ms hh) {index : Nat} {v : UInt32} (hc : Cond.constantFloat own index v ∈ AW) (hdg : decode cc pc = .ok (.ldc index, 2)) (k : V G Γ nL cells slots h (pc + 2) L (.float v :: st)) : V G Γ nL cells slots h pc L st := by
  obtain ⟨p, e, R, s, m, args, below, meth, c, Q⟩ := Γ
  intro H locs ls hW hS hl
  exact lv_ldcf hC.1 hC.2.1 hC.2.2.2.1 (hC.2.2.2.2.1 _ hc) hdg (k H locs ls hW hS hl)
/-- a field that the entry 'index' of own's pool names: its class by its place, its place there, its type -/
def FLD (own : String) (index ci k : Nat) (ty : FieldType) : Prop := ∃ (C : String) (T : u_T) (N : Nat) (ref : String), mcl[ci]? = some (C, T, N) ∧ k < N ∧ Cond.fieldLink own index ref (T k).2.1 (T k).2.2.1 ∈ AW ∧ (∀ w ∈ u_ws C T N, w ∈ AW) ∧ (∃ tyf : Nat → FieldType, (∀ j, j < N → parseFieldDescriptor (T j).2.2.1 = some (tyf j)) ∧ tyf k = ty) ∧ (∀ a, a < N → ∀ b, b < N → a ≠ b → (T a).2.1 ≠ (T b).2.1) ∧ ((T k).1 = ref ∨ Cond.sameField ref (T k).1 (T k).2.1 (T k).2.2.1 ∈ AW)
theorem V_get (hC : COK G Γ own cc nL fr lo mc ms hh) {index ci k a : Nat} {ty : FieldType} (hf : FLD own index ci k ty) {fs : List Value} {v : Value} (he : h a = some (.inr (ci, fs))) (hv : fs[k]? = some v) (hdg : decode cc pc = .ok (.getfield index, 3)) (k9 : V G Γ nL cells slots h (pc + 3) L (v :: st)) : V G Γ nL cells slots h pc L (.ref a :: st) := by
  obtain ⟨p, e, R, s, m, args, below, meth, c, Q⟩ := Γ
  obtain ⟨C, T, N, ref, h1, h2, h3, h4, -, -, h7⟩ := hf
  obtain ⟨hx, hb, hml, hown, hts, hK, hal, hag, hsz, rfl, htab, hlocks, hnf, hGk⟩ := hC
  intro H locs ls hW hS hl
  obtain ⟨ws, hP, hD, hi⟩ := id hW
  obtain ⟨q0, hq⟩ := hi.at2 he
  exact va_get (D := G.2.1) (cl := mcl) (tys := Gtys G) (Ts := AW) hx hb hts h4 hown hK hP q0 hq h1 k h2 (hts _ h3) (fun x hx => h7.elim (fun z => by rw [← z]; exact hx) (fun z => u_same (hts _ z) x hx)) hv hdg (k9 H locs ls hW hS hl)
theorem V_put (hC : COK G Γ own cc nL fr lo mc ms hh) {index ci k a : Nat} {ty : FieldType} (hci : ci ≠ 13) (hf : FLD own index ci k ty) {fs : List Value} {v : Value} (he : h a = some (.inr (ci, fs))) (hl9 : k < fs.length) (hfin : ∀ C T N, mcl[ci]? = some (C, T, N) → (T k).2.2.2 = false) (hn : narrow ty v = v) (hfit : fits ty v = true) (hdg : decode cc pc = .ok (.putfield index, 3)) (k9 : V G Γ nL cells slots (hwu h a (.inr (ci, fs.set k v))) (pc + 3) L st) : V G Γ nL cells slots h pc L (v :: .ref a :: st) := by
  obtain ⟨p, e, R, s, m, args, below, meth, c, Q⟩ := Γ
  obtain ⟨C, T, N, ref, h1, h2, h3, h4, ⟨tyf, h5, h51⟩, h6, h7⟩ := hf
  intro H locs ls hW hS hl
  obtain ⟨ws, hP, hD, hi⟩ := id hW
  obtain ⟨q0, hq⟩ := hi.at hci he
  exact va_put (D := G.2.1) (cl := mcl) (tys := Gtys G) (Ts := AW) hC.1 hC.2.1 hC.2.2.2.2.1 h4 tyf h5 h6 hC.2.2.2.1 hC.2.2.2.2.2.1 hP hD hS q0 hq h1 k h2 (hC.2.2.2.2.1 _ h3) (fun x hx => h7.elim (fun z => by rw [← z]; exact hx) (fun z => u_same (hC.2.2.2.2.1 _ z) x hx)) (hfin _ _ _ h1) ((h5 k h2).trans (by rw [h51])) hn hfit hl9 hdg (fun H1 locs1 hP1 hD1 hS1 => k9 H1 locs1 ls ⟨_, hP1, hD1, hi.set hC.2.2.2.2.2.2.2.2.2.2.2.2.2 hD hq _⟩ hS1 hl)
theorem V_putF (hC : COK G Γ own cc nL fr lo mc ms hh) {index ci k a : Nat} {ty : FieldType} (hci : ci ≠ 13 ∨ Gb G a) (hf : FLD own index ci k ty) {fs : List Value} {v : Value} (he : h a = some (.inr (ci, fs))) (hl9 : k < fs.length) (hfin : ∀ C T N, mcl[ci]? = some (C, T, N) → (T k).2.2.2 = true ∧ (T k).1 = own) (hin : ∀ p e R s m args below meth c Q, Γ = (p, e, R, s, m, args, below, meth, c, Q) → meth.name = "<init>") (hn : narrow ty v = v) (hfit : fits ty v = true) (hdg : decode cc pc = .ok (.putfield index, 3)) (k9 : V G Γ nL cells slots (hwu h a (.inr (ci, fs.set k v))) (pc + 3) L st) : V G Γ nL cells slots h pc L (v :: .ref a :: st) := by
  obtain ⟨p, e, R, s, m, args, below, meth, c, Q⟩ := Γ
  obtain ⟨C, T, N, ref, h1, h2, h3, h4, ⟨tyf, h5, h51⟩, h6, h7⟩ := hf
  intro H locs ls hW hS hl
  obtain ⟨ws, hP, hD, hi⟩ := id hW
  obtain ⟨q0, hq⟩ : ∃ k : Nat, ws[k]? = some (a, .inr (ci, fs)) := hci.elim (fun z => hi.at z he) (fun z => hi.atG hC.2.2.2.2.2.2.2.2.2.2.2.2.2 z he)
  exact va_putF (D := G.2.1) (cl := mcl) (tys := Gtys G) (Ts := AW) hC.1 hC.2.1 hC.2.2.2.2.1 h4 tyf h5 h6 hC.2.2.2.1 hC.2.2.2.2.2.1 hP hD hS q0 hq h1 k h2 (hC.2.2.2.2.1 _ h3) (fun x hx => h7.elim (fun z => by rw [← z]; exact hx) (fun z => u_same (hC.2.2.2.2.1 _ z) x hx)) (hfin _ _ _ h1).1 (hin _ _ _ _ _ _ _ _ _ _ rfl) (hfin _ _ _ h1).2 ((h5 k h2).trans (by rw [h51])) hn hfit hl9 hdg (fun H1 locs1 hP1 hD1 hS1 => k9 H1 locs1 ls ⟨_, hP1, hD1, hi.set hC.2.2.2.2.2.2.2.2.2.2.2.2.2 hD hq _⟩ hS1 hl)
theorem V_iald (hC : COK G Γ own cc nL fr lo mc ms hh) {a n : Nat} {f : Nat → Int32} {i : Int32} (he : h a = some (.inl (G.2.2.1.1, n, .inl f))) (hin : vp_in i n) (hdg : decode cc pc = .ok (.iaload, 1)) (k9 : V G Γ nL cells slots h (pc + 1) L (.int (f i.toNatClampNeg) :: st)) : V G Γ nL cells slots h pc L (.int i :: .ref a :: st) := by
  obtain ⟨p, e, R, s, m, args, below, meth, c, Q⟩ := Γ
  intro H locs ls hW hS hl
  obtain ⟨ws, hP, hD, hi⟩ := id hW
  obtain ⟨q0, hq⟩ := hi.atA he
  exact va_iald (D := G.2.1) (cl := mcl) (tys := Gtys G) hC.1 hC.2.1 hC.2.2.2.2.2.1 hP q0 0 hq rfl hin hdg (k9 H locs ls hW hS hl)
theorem V_aald (hC : COK G Γ own cc nL fr lo mc ms hh) {a n : Nat} {f : Nat → Option Nat} {i : Int32} (he : h a = some (.inl (G.2.2.1.2.2.2.2, n, .inr (.inr (.inr (.inr f)))))) (hin : vp_in i n) (hdg : decode cc pc = .ok (.aaload, 1)) (k9 : V G Γ nL cells slots h (pc + 1) L (va_rf (f i.toNatClampNeg) :: st)) : V G Γ nL cells slots h pc L (.int i :: .ref a :: st) := by
  obtain ⟨p, e, R, s, m, args, below, meth, c, Q⟩ := Γ
  intro H locs ls hW hS hl
  obtain ⟨ws, hP, hD, hi⟩ := id hW
  obtain ⟨q0, hq⟩ := hi.atA he
  exact va_aldq (D := G.2.1) (cl := mcl) (tys := Gtys G) hC.1 hC.2.1 hC.2.2.2.2.2.1 hP q0 4 hq rfl hin hdg (k9 H locs ls hW hS hl)
theorem V_iast (hC : COK G Γ own cc nL fr lo mc ms hh) {a n : Nat} {f : Nat → Int32} {i : Int32} {x : Int32} (he : h a = some (.inl (G.2.2.1.1, n, .inl f))) (hin : vp_in i n) (hdg : decode cc pc = .ok (.iastore, 1)) (k9 : V G Γ nL cells slots (hwu h a (.inl (G.2.2.1.1, n, .inl (upd f i.toNatClampNeg x)))) (pc + 1) L st) : V G Γ nL cells slots h pc L (.int x :: .int i :: .ref a :: st) := by
  obtain ⟨p, e, R, s, m, args, below, meth, c, Q⟩ := Γ
  intro H locs ls hW hS hl
  obtain ⟨ws, hP, hD, hi⟩ := id hW
  obtain ⟨q0, hq⟩ := hi.atA he
  exact va_iast (D := G.2.1) (cl := mcl) (tys := Gtys G) hC.1 hC.2.1 hC.2.2.2.2.2.1 hP hD hS q0 0 hq rfl hin hdg (fun H1 locs1 hP1 hD1 hS1 => k9 H1 locs1 ls ⟨_, hP1, hD1, hi.set hC.2.2.2.2.2.2.2.2.2.2.2.2.2 hD hq _⟩ hS1 hl)
theorem V_alenI (hC : COK G Γ own cc nL fr lo mc ms hh) {a : Nat} {x : vp_A} (he : h a = some (.inl (G.2.2.1.1, x))) (hdg : decode cc pc = .ok (.arraylength, 1)) (k9 : V G Γ nL cells slots h (pc + 1) L (.int (Int32.ofNat x.1) :: st)) : V G Γ nL cells slots h pc L (.ref a :: st) := by
  obtain ⟨p, e, R, s, m, args, below, meth, c, Q⟩ := Γ
  intro H locs ls hW hS hl
  obtain ⟨ws, hP, hD, hi⟩ := id hW
  obtain ⟨q0, hq⟩ := hi.atA he
  exact va_alen (D := G.2.1) (cl := mcl) (tys := Gtys G) hC.1 hC.2.1 hC.2.2.2.2.2.1 hP q0 0 hq rfl rfl hdg (k9 H locs ls hW hS hl)
theorem V_alenA (hC : COK G Γ own cc nL fr lo mc ms hh) {a : Nat} {x : vp_A} (he : h a = some (.inl (G.2.2.1.2.2.2.2, x))) (hdg : decode cc pc = .ok (.arraylength, 1)) (k9 : V G Γ nL cells slots h (pc + 1) L (.int (Int32.ofNat x.1) :: st)) : V G Γ nL cells slots h pc L (.ref a :: st) := by
  obtain ⟨p, e, R, s, m, args, below, meth, c, Q⟩ := Γ
  intro H locs ls hW hS hl
  obtain ⟨ws, hP, hD, hi⟩ := id hW
  obtain ⟨q0, hq⟩ := hi.atA he
  exact va_alen (D := G.2.1) (cl := mcl) (tys := Gtys G) hC.1 hC.2.1 hC.2.2.2.2.2.1 hP q0 4 hq rfl rfl hdg (k9 H locs ls hW hS hl)
end VR
