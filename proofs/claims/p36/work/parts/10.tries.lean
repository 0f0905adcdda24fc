/-- a contract of a method with a table -/
def CTW (G : Gx) (y : MethodName) (bytes : ByteArray) (maxL : Nat) (ret : Option FieldType) (hh : List (Nat × Nat × Nat × Nat)) (fr lo mc ms : Nat) (av : List Value) (h : hw) (Qi : Option Value → hw → Prop) (XP : String → hw → Prop) : Prop :=
  vx_Met G.1 y (Cond.codeWith y bytes maxL ret hh :: AW) { frames := fr, cells := mc, slots := ms, locals := lo } (va_Pc av (PB G h)) (QcOf G Qi) (XcOf G XP) mc ms (Gb G)
theorem CTW_of {G : Gx} (hG : GOK G) {y : MethodName} {bytes : ByteArray} {maxL : Nat} {ret : Option FieldType} {hh : List (Nat × Nat × Nat × Nat)} {fr lo mc ms : Nat} {av : List Value} {h : hw} {Qi : Option Value → hw → Prop} {XP : String → hw → Prop} (hy : plainName y.cls = true) (hn : (lg_sl av).length ≤ maxL)
    (body : ∀ Γ : Cx, COK G Γ y.cls bytes maxL fr lo mc ms hh → CQ G Γ ret mc ms Qi XP → V G Γ maxL 0 0 h 0 (lv_args 0 av) []) : CTW G y bytes maxL ret hh fr lo mc ms av h Qi XP := by
  refine vx_ofWH (cc := bytes) (maxL := maxL) (ret := ret) (hh := hh) hy rfl ?_
  intro p e s m args below meth c s₁ B hml hv
  obtain ⟨rfl, hW, hal, hag, hsz, hnf⟩ := hv
  have hts := atoms_spec (ws := Cond.codeWith y bytes maxL ret hh :: AW) B.pre
  have htab := vx_table (x := y) B (hts _ List.mem_cons_self)
  have h1 := body (p, e, _, s, m, av.toArray, below, meth, c, _) ⟨B.exec, B.bytes, hml, findClass_of_methodNamed B.named, fun w hw => hts w (List.mem_cons_of_mem _ hw), va_K.moved hal hG.1, hal, hag, hsz, rfl, htab, B.notSynchronized, hnf, hG⟩ ⟨B.returns, rfl⟩
  rw [lg_entry_eq]
  exact h1 _ _ _ hW va_S.rf (lv_entry av hn)
def SSX (own : String) (idx : Nat) (y : MethodName) (bytes : ByteArray) (maxL : Nat) (ret : Option FieldType) (hh : List (Nat × Nat × Nat × Nat)) (n : Nat) : Prop := Cond.methodLink own idx y ∈ AW ∧ Cond.static y ∈ AW ∧ Cond.initialized y.cls ∈ AW ∧ Cond.codeWith y bytes maxL ret hh ∈ AW ∧ y.cls ≠ "java/lang/invoke/MethodHandle" ∧ y.cls ≠ "java/lang/invoke/VarHandle" ∧ (parseMethodDescriptor y.desc).map (fun d => d.parameters.length) = some n
section VT
variable {G : Gx} {Γ : Cx} {own : String} {cc : ByteArray} {nL fr lo mc ms cells slots pc : Nat} {hh : List (Nat × Nat × Nat × Nat)} {h : hw} {L : List (Nat × Value)} {st : List Value}
variable {y : MethodName} {bytes : ByteArray} {maxL : Nat} {ret : Option FieldType} {fr' lo' mc' ms' : Nat} {Qi : Option Value → hw → Prop} {XP : String → hw → Prop} {b idx ci : Nat} {As rest : List Value}
theorem V_callSX (hC : COK G Γ own cc nL fr lo mc ms hh) {hh2 : List (Nat × Nat × Nat × Nat)} (hM : CTW G y bytes maxL ret hh2 fr' lo' mc' ms' As h Qi XP) (hs : SSX own idx y bytes maxL ret hh2 As.length) (hst : st = As.reverse ++ rest) (hR : fr' + 1 ≤ fr ∧ 8 + (maxL + 11) + lo' ≤ lo) (hw8 : (rest.map fun v => v.category).sum ≤ 8) (hcs : cells + mc' ≤ mc ∧ slots + ms' ≤ ms) (hdg : decode cc pc = .ok (.invokestatic idx, 3)) (kx : ∀ (E : String) (h1 : hw), XP E h1 → VX G Γ nL (cells + mc') (slots + ms') h1 pc L rest E) (kk : ∀ (v : Option Value) (h1 : hw), Qi v h1 → V G Γ nL (cells + mc') (slots + ms') h1 (pc + 3) L (v.toList ++ rest)) : V G Γ nL cells slots h pc L st := by
  obtain ⟨p, e, R, s, m, args, below, meth, c, Q⟩ := Γ
  intro H locs ls hW hS hl
  obtain ⟨hx, hb, hml, hown, hts, hK, hal, hag, hsz, rfl, htab, hlocks, hnf, hGk⟩ := hC
  subst hst
  obtain ⟨s1, s2, s4, s5, s6, s7, s8⟩ := hs
  have hpre := pre_of hW hS hal hag hsz hnf As
  have hG : GoodIn AW (va_wsS own idx y (Cond.codeWith y bytes maxL ret hh2 :: AW)) := by
    intro w hw
    unfold va_wsS at hw
    have z2 : w ∈ AW := by
      rcases List.mem_append.mp hw with z | z
      · rcases List.mem_cons.mp z with rfl | z
        · exact s1
        rcases List.mem_cons.mp z with rfl | z
        · exact s2
        rcases List.mem_cons.mp z with rfl | z
        · exact s4
        cases z
      · rcases List.mem_cons.mp z with rfl | z
        · exact s5
        · exact z
    exact ⟨z2, AW_good z2⟩
  have hrun := vx_runSX (rest := rest) (g := F0 m pc ls (As.reverse ++ rest)) (locs := locs) (cells := cells) (slots := slots) (R := { frames := fr, cells := mc, slots := ms, locals := lo }) (H := H) (p := p) (e := e) (below := below) (meth := meth) (Ts := AW) (own := own) (nL := nL) ⟨hx, hb, hml, hown, hts⟩ hM (vx_cwSW As.length hts hG rfl rfl rfl ⟨s6, s7, s8⟩ hR) ⟨PB_blind, hpre⟩ rfl rfl hl.1 rfl (lv_room hw8) hdg hcs
  exact run_to hrun hS (fun E h1 H1 locs1 q ce z1 z2 z3 z4 z5 z6 => kx E h1 z1 H1 locs1 ls q ce z2 z3 hl z4 z5 z6) (fun v h1 H1 locs1 z1 z2 z3 => kk v h1 z1 H1 locs1 ls z2 z3 hl)
/-- caught: by the row x of the table; the rows ahead are of other classes -/
theorem VX_catch (hC : COK G Γ own cc nL fr lo mc ms hh) {E : String} (pre : List (Nat × Nat × Nat × Nat)) (x : Nat × Nat × Nat × Nat) (suf : List (Nat × Nat × Nat × Nat)) (hsp : hh = pre ++ x :: suf) (hpass : ∀ z ∈ pre, z.2.2.2 ≠ 0 ∧ ∃ nm : String, Cond.classLink own z.2.2.2 nm ∈ AW ∧ (E, nm) ∈ NCL) (hx1 : covers (⟨x.1, x.2.1, x.2.2.1, x.2.2.2⟩ : ExceptionTableEntry) pc = true) (h0 : x.2.2.2 ≠ 0) (hlk : Cond.classLink own x.2.2.2 E ∈ AW) (hca : Cond.castable E E ∈ NW) (kk : ∀ q : Nat, V G Γ nL cells slots h x.2.2.1 L [.ref q]) : VX G Γ nL cells slots h pc L st E := by
  obtain ⟨p, e, R, s, m, args, below, meth, c, Q⟩ := Γ
  intro H locs ls q ce hW hS hl hce hcv hcl
  obtain ⟨hx, hb, hml, hown, hts, hK, hal, hag, hsz, rfl, htab, hlocks, hnf, hGk⟩ := hC
  have hsplit : c.exceptionTable.toList = tableOf pre ++ (⟨x.1, x.2.1, x.2.2.1, x.2.2.2⟩ : ExceptionTableEntry) :: tableOf suf := by
    rw [htab, hsp]
    simp [tableOf]
  refine vx_catch (own := own) (name := E) hown (tableOf pre) _ (tableOf suf) hsplit (fun z hz => ?_) hx1 h0 (hts _ hlk) (va_Nw.use rfl (hnf.1 _ hca)) hce hcv hcl (kk q H locs ls hW hS hl)
  obtain ⟨w, hw, rfl⟩ := List.mem_map.mp hz
  obtain ⟨a1, nm, a2, a3⟩ := hpass w hw
  exact Or.inr ⟨a1, nm, hts _ a2, (hGk.2.2.2.2.2.2.2.2.2 _ a3).moved hal⟩
/-- the law's end, and its script -/
def LEND (G : Gx) (Γ : Cx) : Prop := match Γ with
  | (p, e, R, s, m, args, below, meth, c, Q) => ∀ (H : Heap) (locs : List Loc) (ls : Array Slot) (cells slots pc : Nat), va_S (Gb G) s.heap H locs → cells ≤ 926731 → slots ≤ 6314567 → decode cL_law pc = .ok (.ireturn, 1) → W p G.1 e R s m args below meth c H locs cells slots Q (F0 m pc ls [.int 1])
theorem V_lawret (hE : LEND G Γ) {x : Int32} (h1 : x = 1) (hcs : cells ≤ 926731 ∧ slots ≤ 6314567) (hdg : decode cL_law pc = .ok (.ireturn, 1)) : V G Γ nL cells slots h pc L [.int x] := by
  subst h1
  obtain ⟨p, e, R, s, m, args, below, meth, c, Q⟩ := Γ
  intro H locs ls hW hS hl
  exact hE H locs ls cells slots pc hS hcs.1 hcs.2 hdg
end VT
theorem sw_0_13 (z : Int) : z = 0 ∨ z = 1 ∨ z = 2 ∨ z = 3 ∨ z = 4 ∨ z = 5 ∨ z = 6 ∨ z = 7 ∨ z = 8 ∨ z = 9 ∨ z = 10 ∨ z = 11 ∨ z = 12 ∨ z = 13 ∨ (z < 0 ∨ 13 < z) := by omega
theorem sw_0_8 (z : Int) : z = 0 ∨ z = 1 ∨ z = 2 ∨ z = 3 ∨ z = 4 ∨ z = 5 ∨ z = 6 ∨ z = 7 ∨ z = 8 ∨ (z < 0 ∨ 8 < z) := by omega
theorem sw_20_31 (z : Int) : z = 20 ∨ z = 21 ∨ z = 22 ∨ z = 23 ∨ z = 24 ∨ z = 25 ∨ z = 26 ∨ z = 27 ∨ z = 28 ∨ z = 29 ∨ z = 30 ∨ z = 31 ∨ (z < 20 ∨ 31 < z) := by omega
