/-! THE CLAIM OUT OF ONE WALK OF THE LAW'S BODY. Your part is whole_start (and what it stands on); all else here is the same for every law, but numbers. -/
def R_law : String := "BandplanLaw"
def lw_P (b : Addr) (xs : List Int32) (args : Array Value) (s : State) : Prop := args = #[.ref b] ∧ s.IntsAt b xs ∧ xs.length ≤ 260 ∧ (Jvm.Cond.and given_1 narrow_1).before args s = true
/-- what a walk over the start with the record d0 says of its end, said of the start itself -/
theorem lw_closed {s t : State} {o : Outcome} {d0 : Drawn} {L : List Loc} {k n : Nat} (hd0 : s.drawn.sameBut d0 lw_cs) (hv : ∃ v, o = .returned v) (hW : (s.setDrawn d0).WarmedH t.vm) (hs : (s.setDrawn d0).sameButNew ({ t with vm := s.vm } : State) L k n) : State.butDraws s t lw_cs (fun t1 => Framed s o t1 L k n) := by
  have h2 : t.drawn = d0 := congrArg State.drawn hs.1
  refine ⟨⟨hv, hW, State.sameButNew.setDrawn hs s.drawn⟩, ?_, by decide⟩
  rw [h2]
  exact hd0
def lw_Q (_ : Array Value) (s : State) (o : Outcome) (t : State) : Prop := o = .returned (some (.int 1)) ∧ State.butDraws s t lw_cs (fun t1 => Framed s o t1 [] 926731 6314567)
def lw_Z (below : List Frame) (a : Array Value) (s : State) : State → Prop := fun t => ∃ o, t.status = .running ∧ Ended t below o ∧ lw_Q a s o t
/-- the law's own end, with 1 on the stack, nothing written that was there before, its room as the claim has it; d0: the record of draws at this point (at the entry s.drawn: begin with 'refine W.base ?_' and 'have hd0 := Drawn.sameBut.refl s.drawn lw_cs') -/
theorem lw_ret {p : Program} {l : Launch} {e : Env} {s : State} {m : MethodId} {below : List Frame} {meth : Method} {c : Code} {b : Nat} {d0 : Drawn} (hd0 : s.drawn.sameBut d0 lw_cs) (hx : p.tables.exec = Jvm.exec) (hb : c.code = code) (hr : meth.sig.returnType = ret) (hlocks : meth.locks = false) {pc : Nat} {H : Heap} {ls : Array Slot} (hdg : decode code pc = .ok (.ireturn, 1)) : W p l e room_1 (s.setDrawn d0) m #[Value.ref b] below meth c H [] 926731 6314567 (lw_Z below #[Value.ref b] s) (F0 m pc ls [.int 1]) := by
  intro T hT X
  obtain ⟨fs, hret, hrun, hended, hW, hframe⟩ := X.leave (v := some (.int 1)) (hlocks := hlocks) (fun h => by rw [hr] at h; cases h)
  have hmeth' : T.vm.method? m = some meth := X.method'
  refine ⟨T.setFrames fs, ?_, .returned (some (.int 1)), hrun, hended, rfl, lw_closed hd0 ⟨_, rfl⟩ hW hframe⟩
  jvm_step X.here [X.here.top, hx, hb, hdg, hmeth', hr, ret, narrow_b1]
  (try refine ⟨rfl, ?_⟩); (try refine ⟨rfl, ?_⟩)
  first | (intro acts; rw [hret _ acts rfl rfl rfl]) | rw [hret _ _ rfl rfl rfl]
  exact Steps.refl _
/-- what holds at the law's entry: the machine, the code, the tables' words (any of lw_tbl by 'hts w (by decide +kernel)'), the script of L ints xs at the cell b, what the Statement gives of the start (any of its parts by flat_of_before) -/
def lw_At (p : Program) (s : State) (m : MethodId) (meth : Method) (c : Code) (b L : Nat) (xs : Nat → Int32) : Prop :=
  p.tables.exec = Jvm.exec ∧ c.code = code ∧ meth.sig.returnType = ret ∧ c.maxLocals = 12 ∧ s.vm.findClass R_law = some m.cls ∧ (∀ w ∈ lw_tbl, w.before #[Value.ref b] s = true) ∧ va_X b L xs s s.heap ∧ b < s.heap.size ∧ meth.locks = false ∧ (Jvm.Cond.and given_1 narrow_1).before #[Value.ref b] s = true
/-! the start: what is fixed all through, found in the state in which the law begins -/
section ST
variable {s : State} {args : Array Value}
theorem st_kn {own : String} {idx ci N : Nat} {fs : List Value} (h : NO own idx ci N fs) (hts : ∀ w ∈ AW, w.before args s = true) : ∃ x : ClassId × (Nat → Nat), ∀ q : vw_C, mcl[ci]? = some q → u_Kn s q.1 q.2.1 q.2.2 x.1 x.2 := by
  obtain ⟨C, T, n1, -, n3, -, n5, -⟩ := h
  obtain ⟨c, i, hk⟩ := u_known hts n5 (hts _ n3)
  refine ⟨(c, i), fun q hq => ?_⟩
  rw [n1] at hq
  cases hq
  exact hk
theorem st_ke {ci n : Nat} {C : String} (h0 : mcl[ci]? = some (C, eT0, 0)) (h : Cond.instantiable C n ∈ AW) (hts : ∀ w ∈ AW, w.before args s = true) : ∃ x : ClassId × (Nat → Nat), ∀ q : vw_C, mcl[ci]? = some q → u_Kn s q.1 q.2.1 q.2.2 x.1 x.2 := by
  obtain ⟨c, i, hk⟩ := u_known (C := C) (T := eT0) (N := 0) hts (fun w hw => absurd hw (by simp [u_ws])) (hts _ h)
  refine ⟨(c, i), fun q hq => ?_⟩
  rw [h0] at hq
  cases hq
  exact hk
theorem st_cls (hts : ∀ w ∈ AW, w.before args s = true) : ∃ D : va_G, ∀ (c : Nat) (q : vw_C), mcl[c]? = some q → u_Kn s q.1 q.2.1 q.2.2 (D.1 c) (D.2 c) := by
  have h : ∀ c : Nat, ∃ x : ClassId × (Nat → Nat), ∀ q : vw_C, mcl[c]? = some q → u_Kn s q.1 q.2.1 q.2.2 x.1 x.2 := by
    intro c
    by_cases h0 : c = 0
    · subst h0
      exact st_kn no_X11_7 hts
    by_cases h1 : c = 1
    · subst h1
      exact st_kn no_X11_23 hts
    by_cases h2 : c = 2
    · subst h2
      exact st_kn no_X11_44 hts
    by_cases h3 : c = 3
    · subst h3
      exact st_kn no_X0_9 hts
    by_cases h4 : c = 4
    · subst h4
      exact st_kn no_X11_51 hts
    by_cases h5 : c = 5
    · subst h5
      exact st_kn no_X11_30 hts
    by_cases h6 : c = 6
    · subst h6
      exact st_kn no_X11_16 hts
    by_cases h7 : c = 7
    · subst h7
      exact st_kn no_X3_18 hts
    by_cases h8 : c = 8
    · subst h8
      exact st_kn no_X11_37 hts
    by_cases h9 : c = 9
    · subst h9
      exact st_kn no_X11_104 hts
    by_cases h10 : c = 10
    · subst h10
      exact st_kn no_X11_130 hts
    by_cases h11 : c = 11
    · subst h11
      exact st_kn no_L_16 hts
    by_cases h12 : c = 12
    · subst h12
      exact st_kn no_X3_18 hts
    by_cases h13 : c = 13
    · subst h13
      exact st_kn no_X3_18 hts
    by_cases h14 : c = 14
    · subst h14
      exact st_kn no_X3_9 hts
    by_cases h15 : c = 15
    · subst h15
      exact st_ke (n := 6) rfl aw_2_169 hts
    by_cases h16 : c = 16
    · subst h16
      exact st_ke (n := 6) rfl aw_2_186 hts
    by_cases h17 : c = 17
    · subst h17
      exact st_ke (n := 6) rfl aw_2_214 hts
    by_cases h18 : c = 18
    · subst h18
      exact st_ke (n := 6) rfl aw_4_44 hts
    by_cases h19 : c = 19
    · subst h19
      exact st_ke (n := 6) rfl aw_4_101 hts
    by_cases h20 : c = 20
    · subst h20
      exact st_ke (n := 6) rfl aw_5_162 hts
    · refine ⟨(0, fun _ => 0), fun q hq => ?_⟩
      have hl := (List.getElem?_eq_some_iff.mp hq).1
      have : mcl.length = 21 := rfl
      omega
  obtain ⟨f, hf⟩ := Classical.axiomOfChoice h
  exact ⟨(fun c => (f c).1, fun c => (f c).2), hf⟩
theorem st_arr {ty : FieldType} (hp : ∀ C, ty ≠ .object C) (h : (Cond.arrayClass ty).before args s = true) : ∃ cA : ClassId, ArrOfT s cA ty ∧ va_RA s cA ty := by
  obtain ⟨cA, kA, comp, h1, h2, h3⟩ := Cond.arrayClass_spec h
  refine ⟨cA, fun n z => ⟨fun k q => (by cases q), kA, h2, comp, h3⟩, ?_⟩
  cases ty <;> first | exact absurd rfl (hp _) | exact h1
theorem st_arrO (h : (Cond.arrayOver (.object "java/lang/Object")).before args s = true) : ∃ cA : ClassId, ArrOfT s cA (.object "java/lang/Object") ∧ va_RA s cA (.object "java/lang/Object") := by
  obtain ⟨comp, cA, kA, h0, -, h2, h3, h4⟩ := Cond.arrayOver_spec h
  exact ⟨cA, fun n z => ⟨fun k q => (by cases q), kA, h2, comp, h3⟩, kA, comp, h2, h3, h0, h4⟩
theorem st_over (hts0 : ∀ w ∈ lw_tbl, w.before args s = true) : (Cond.arrayOver (.object "java/lang/Object")).before args s = true := hts0 _ (nw_t3 130 (by decide +kernel))
theorem st_K (hts0 : ∀ w ∈ lw_tbl, w.before args s = true) : ∃ (D : va_G) (c1 c5 : ClassId), ∀ (l : Launch) (x : Nat × Nat × (Nat → Int32)), va_K D mcl (Gtys (l, D, (c1, x.1, x.2.1, x.2.2, c5), s)) s := by
  have hts : ∀ w ∈ AW, w.before args s = true := fun w hw => hts0 w (List.mem_filter.mp hw).1
  obtain ⟨D, hD⟩ := st_cls hts
  obtain ⟨c1, a1, b1⟩ := st_arr (s := s) (ty := .int) (fun C h => by cases h) (hts _ aw_1_90)
  obtain ⟨c5, a5, b5⟩ := st_arrO (s := s) (st_over hts0)
  refine ⟨D, c1, c5, fun l x => ⟨hD, fun k q hk => ?_⟩⟩
  match k with
  | 0 => cases hk; exact ⟨a1, b1⟩
  | 1 => cases hk; exact ⟨a1, b1⟩
  | 2 => cases hk; exact ⟨a1, b1⟩
  | 3 => cases hk; exact ⟨a1, b1⟩
  | 4 => cases hk; exact ⟨a5, b5⟩
  | k + 5 => cases hk
/-- what the narrow says, word by word -/
theorem st_fl (hgv : (Jvm.Cond.and given_1 narrow_1).before args s = true) : ∀ c ∈ flatC (Jvm.Cond.and given_1 narrow_1), c.before args s = true := flat_of_before _ hgv
abbrev st_te : Term := (Term.static "java/util/ArrayList" "DEFAULTCAPACITY_EMPTY_ELEMENTDATA" "[Ljava/lang/Object;")
theorem fc_us : (Cond.isRef (.static "java/lang/Throwable" "UNASSIGNED_STACK" "[Ljava/lang/StackTraceElement;")) ∈ flatC (Jvm.Cond.and given_1 narrow_1) := by decide +kernel
theorem fc_ss : (Cond.isRef (.static "java/lang/Throwable" "SUPPRESSED_SENTINEL" "Ljava/util/List;")) ∈ flatC (Jvm.Cond.and given_1 narrow_1) := by decide +kernel
theorem fc_el : (Cond.eq (.length st_te) (.int 0)) ∈ flatC (Jvm.Cond.and given_1 narrow_1) := by decide +kernel
theorem fc_ea : (Cond.arrayOf st_te (.object "java/lang/Object")) ∈ flatC (Jvm.Cond.and given_1 narrow_1) := by decide +kernel
theorem fc_mi : (Cond.isRef (.mirror "[Ljava/lang/Object;")) ∈ flatC (Jvm.Cond.and given_1 narrow_1) := by decide +kernel
abbrev SW1 : List (String × Nat) := SW.map fun q => (q.1, q.2.1)
theorem fc_sw : ∀ q ∈ SW1, (Cond.exactly (.string q.1 q.2) "java/lang/String") ∈ flatC (Jvm.Cond.and given_1 narrow_1) := by decide +kernel
theorem fc_sr : ∀ q ∈ SW, (Cond.stringRef q.1 q.2.1 q.2.2) ∈ lw_tbl := by
  intro q hq
  simp only [SW, List.mem_cons, List.not_mem_nil, or_false] at hq
  rcases hq with rfl | rfl | rfl | rfl | rfl | rfl | rfl | rfl | rfl | rfl | rfl | rfl | rfl | rfl | rfl | rfl | rfl | rfl | rfl | rfl | rfl | rfl | rfl | rfl
  · exact nw_t2 177 (by decide +kernel)
  · exact nw_t2 194 (by decide +kernel)
  · exact nw_t2 222 (by decide +kernel)
  · exact nw_t3 50 (by decide +kernel)
  · exact nw_t3 148 (by decide +kernel)
  · exact nw_t3 149 (by decide +kernel)
  · exact nw_t3 150 (by decide +kernel)
  · exact nw_t3 200 (by decide +kernel)
  · exact nw_t3 230 (by decide +kernel)
  · exact nw_t4 52 (by decide +kernel)
  · exact nw_t4 109 (by decide +kernel)
  · exact nw_t4 136 (by decide +kernel)
  · exact nw_t4 177 (by decide +kernel)
  · exact nw_t4 212 (by decide +kernel)
  · exact nw_t5 8 (by decide +kernel)
  · exact nw_t5 10 (by decide +kernel)
  · exact nw_t5 66 (by decide +kernel)
  · exact nw_t5 69 (by decide +kernel)
  · exact nw_t5 79 (by decide +kernel)
  · exact nw_t5 100 (by decide +kernel)
  · exact nw_t5 105 (by decide +kernel)
  · exact nw_t5 114 (by decide +kernel)
  · exact nw_t5 123 (by decide +kernel)
  · exact nw_t5 170 (by decide +kernel)
theorem fc_nc : ∀ q ∈ NCL, (Cond.not (.castable q.1 q.2)) ∈ flatC (Jvm.Cond.and given_1 narrow_1) := by decide +kernel
theorem lt_us : (Cond.laysStatic "java/lang/Throwable" "UNASSIGNED_STACK" "[Ljava/lang/StackTraceElement;") ∈ lw_tbl := nw_t2 91 (by decide +kernel)
theorem lt_ss : (Cond.laysStatic "java/lang/Throwable" "SUPPRESSED_SENTINEL" "Ljava/util/List;") ∈ lw_tbl := nw_t2 93 (by decide +kernel)
theorem lt_e : (Cond.laysStatic "java/util/ArrayList" "DEFAULTCAPACITY_EMPTY_ELEMENTDATA" "[Ljava/lang/Object;") ∈ lw_tbl := nw_t1 67 (by decide +kernel)
theorem st_NF (hts0 : ∀ w ∈ lw_tbl, w.before args s = true) (hgv : (Jvm.Cond.and given_1 narrow_1).before args s = true) : NF s := by
  refine ⟨fun w hw => va_Nw.of (NW_on hw) (hts0 w (List.mem_filter.mp hw).1), fun q hq => ?_⟩
  have h1 := st_fl hgv _ (fc_sw (q.1, q.2.1) (List.mem_map.mpr ⟨q, hq, rfl⟩))
  obtain ⟨a, c, cell, k, q1, -⟩ := Cond.exactly_spec h1
  exact ⟨a, vk_R.of (hts0 _ (fc_sr q hq)) q1⟩
theorem st_GOK (l : Launch) (hl : l.stackTraces = false) {b L : Nat} {xs : Nat → Int32} (hX : va_X b L xs s s.heap) (hbl : b < s.heap.size) (hts0 : ∀ w ∈ lw_tbl, w.before args s = true) (hgv : (Jvm.Cond.and given_1 narrow_1).before args s = true) : ∃ G : Gx, G.1 = l ∧ G.2.2.2 = s ∧ Gsb G = b ∧ GsL G = L ∧ GOK G := by
  have hts : ∀ w ∈ AW, w.before args s = true := fun w hw => hts0 w (List.mem_filter.mp hw).1
  obtain ⟨D, c1, c5, hK⟩ := st_K hts0
  have hf := st_fl hgv
  refine ⟨(l, D, (c1, b, L, xs, c5), s), rfl, rfl, rfl, rfl, ?_⟩
  have hA : ∀ a : Nat, a < s.heap.size → ¬ Gb ((l, D, (c1, b, L, xs, c5), s) : Gx) a := fun a h => Nat.not_le.mpr h
  obtain ⟨t2, ht2, hT2⟩ := va_Tof (A := Gb ((l, D, (c1, b, L, xs, c5), s) : Gx)) (N := 0) (f := fun _ => .null) (by decide) (hf _ fc_ea) (va_eqt (hf _ fc_el)) (fun j hj => absurd hj (Nat.not_lt_zero _)) hA
  have e2 : Gt0OK ((l, D, (c1, b, L, xs, c5), s) : Gx) (Gt0 (l, D, (c1, b, L, xs, c5), s)) := Classical.epsilon_spec (p := Gt0OK ((l, D, (c1, b, L, xs, c5), s) : Gx)) ⟨t2, va_Zof (hts0 _ lt_e) (hts _ aw_1_6) ht2 hA, hT2⟩
  exact ⟨hK l (b, L, xs), hl, vx_Zqof (hts0 _ lt_us) (hts _ aw_1_14) (hf _ fc_us) hA, vx_Zqof (hts0 _ lt_ss) (hts _ aw_1_14) (hf _ fc_ss) hA, ⟨hX, hbl⟩, e2, trivial, va_Mi.of (hf _ fc_mi), va_AO.of (st_over hts0), fun q hq => va_Nc.of (hf _ (fc_nc q hq))⟩
end ST
theorem st_GW {G : Gx} : GW G (Gro G) G.2.2.2.heap := ⟨[], (fun k q hk => by cases hk), ⟨(fun i j p q hi => by cases hi), (fun k q hk => by cases hk)⟩, fun a e => ⟨fun h => Or.inr h, fun h => h.elim (fun h => absurd h List.not_mem_nil) id⟩⟩
/-- from the law's entry, by its weakest precondition -/
theorem st_start {p : Program} {e : Env} {s : State} {m : MethodId} {below : List Frame} {meth : Method} {c : Code} (l : Launch) (hflags : l.flags = flags0) {b L : Nat} {xs : Nat → Int32} (hL : L ≤ 260) (hq : ∀ G : Gx, GOK G → GsL G ≤ 260 → wp_law G (Gsb G) (Gro G)) (htab : c.exceptionTable.toList = []) (C0 : lw_At p s m meth c b L xs) : W p l e room_1 s m #[Value.ref b] below meth c s.heap [] 0 0 (lw_Z below #[Value.ref b] s) (entryFrame m ([Value.ref b] : List Value).toArray 12) := by
  obtain ⟨hx, hb, hr, hml, hown, hts0, hX, hbl, hlocks, hgv⟩ := id C0
  have hls : l.stackTraces = false := by unfold Launch.stackTraces; rw [hflags]; rfl
  obtain ⟨G, rfl, rfl, rfl, rfl, hG⟩ := st_GOK l hls hX hbl hts0 hgv
  have hts : ∀ w ∈ AW, w.before #[Value.ref (Gsb G)] G.2.2.2 = true := fun w hw => hts0 w (List.mem_filter.mp hw).1
  have hd0 := Drawn.sameBut.refl G.2.2.2.drawn lw_cs
  rw [lg_entry_eq]
  have hV : V G (p, e, room_1, G.2.2.2, m, #[Value.ref (Gsb G)], below, meth, c, lw_Z below #[Value.ref (Gsb G)] G.2.2.2) 12 0 0 (Gro G) 0 [(0, .ref (Gsb G))] [] := by
    refine ct_law hG ?_ ?_ (Gro G) (hq G hG hL)
    · exact ⟨hx, hb, hml, hown, hts, hG.1, Vm.Alike.refl _, fun q _ => rfl, Nat.le_refl _, rfl, htab, hlocks, st_NF hts0 hgv, hG⟩
    · intro H locs ls cells slots pc hS hc hs2 hdg
      refine W.base ?_
      refine va_forget (fun q hq => hS.2.2 q hq) ?_
      refine W.widen hc hs2 ?_
      exact lw_ret hd0 hx hb hr hlocks hdg
  exact hV G.2.2.2.heap [] _ st_GW va_S.rf (lv_entry ([.ref (Gsb G)]) (n := 12) (Nat.le_of_ble_eq_true rfl))
