def jabs (x : Int32) : Int32 := if 0 ≤ x then x else 0 - x
def jmax (x y9 : Int32) : Int32 := if x < y9 then y9 else x
def jmin (x y9 : Int32) : Int32 := if y9 < x then y9 else x
theorem AW_good {w : Cond} (h : w ∈ AW) : (w.onTables && w.keeps) = true ∨ ∃ ty, w = .arrayClass ty := good_of_word (List.mem_filter.mp h).2
theorem AW_in {y : MethodName} {bytes : ByteArray} {maxL : Nat} {ret : Option FieldType} (hc : Cond.code y bytes maxL ret ∈ AW) : GoodIn AW (Cond.code y bytes maxL ret :: AW) := by
  intro w hw
  rcases List.mem_cons.mp hw with rfl | h
  · exact ⟨hc, AW_good hc⟩
  · exact ⟨h, AW_good h⟩
/-- what a call of y by the entry idx of own's pool takes of the tables -/
def SV (own : String) (idx : Nat) (y : MethodName) (bytes : ByteArray) (maxL : Nat) (ret : Option FieldType) (n : Nat) : Prop := Cond.methodLink own idx y ∈ AW ∧ Cond.instanceMethod y ∈ AW ∧ Cond.selects y.cls y y ∈ AW ∧ Cond.initialized y.cls ∈ AW ∧ Cond.code y bytes maxL ret ∈ AW ∧ y.cls ≠ "java/lang/invoke/MethodHandle" ∧ y.cls ≠ "java/lang/invoke/VarHandle" ∧ (parseMethodDescriptor y.desc).map (fun d => d.parameters.length) = some n
def SS (own : String) (idx : Nat) (y : MethodName) (bytes : ByteArray) (maxL : Nat) (ret : Option FieldType) (n : Nat) : Prop := Cond.methodLink own idx y ∈ AW ∧ Cond.static y ∈ AW ∧ Cond.initialized y.cls ∈ AW ∧ Cond.code y bytes maxL ret ∈ AW ∧ y.cls ≠ "java/lang/invoke/MethodHandle" ∧ y.cls ≠ "java/lang/invoke/VarHandle" ∧ (parseMethodDescriptor y.desc).map (fun d => d.parameters.length) = some n
def SI (own : String) (idx : Nat) (y : MethodName) (bytes : ByteArray) (maxL : Nat) (n : Nat) : Prop := Cond.methodLink own idx y ∈ AW ∧ Cond.instanceMethod y ∈ AW ∧ y.name = "<init>" ∧ Cond.initialized y.cls ∈ AW ∧ Cond.code y bytes maxL none ∈ AW ∧ y.cls ≠ "java/lang/invoke/MethodHandle" ∧ y.cls ≠ "java/lang/invoke/VarHandle" ∧ (parseMethodDescriptor y.desc).map (fun d => d.parameters.length) = some n
def SIN (own : String) (idx : Nat) (y : MethodName) (host : String) (bytes : ByteArray) (maxL : Nat) (n : Nat) : Prop := Cond.methodLinkNest own idx y host ∈ NW ∧ Cond.instanceMethod y ∈ AW ∧ y.name = "<init>" ∧ Cond.initialized y.cls ∈ AW ∧ Cond.code y bytes maxL none ∈ AW ∧ y.cls ≠ "java/lang/invoke/MethodHandle" ∧ y.cls ≠ "java/lang/invoke/VarHandle" ∧ (parseMethodDescriptor y.desc).map (fun d => d.parameters.length) = some n
def SSN (own : String) (idx : Nat) (y : MethodName) (host : String) (bytes : ByteArray) (maxL : Nat) (ret : Option FieldType) (n : Nat) : Prop := Cond.methodLinkNest own idx y host ∈ NW ∧ Cond.static y ∈ AW ∧ Cond.initialized y.cls ∈ AW ∧ Cond.code y bytes maxL ret ∈ AW ∧ y.cls ≠ "java/lang/invoke/MethodHandle" ∧ y.cls ≠ "java/lang/invoke/VarHandle" ∧ (parseMethodDescriptor y.desc).map (fun d => d.parameters.length) = some n
section RT
variable {G : Gx} {p : Program} {e : Env} {R : Room} {s : State} {m : MethodId} {args : Array Value} {below : List Frame} {meth : Method} {c : Code} {Q : State → Prop}
theorem run_to {H : Heap} {locs : List Loc} {cells slots mc' ms' pc : Nat} {ls : Array Slot} {st rest : List Value} {a : Array Value} {Qi : Option Value → hw → Prop} {XP : String → hw → Prop}
    (hr : vx_Run p G.1 e R s m args below meth c H locs cells slots mc' ms' (F0 m pc ls st) rest (QcOf G Qi a) (XcOf G XP) (Gb G)) (hS : va_S (Gb G) s.heap H locs)
    (kx : ∀ (E : String) (h1 : hw) (H1 : Heap) (locs1 : List Loc) (q : Addr) (ce : Cell), XP E h1 → GW G h1 H1 → va_S (Gb G) s.heap H1 locs1 → H1[q]? = some ce → ce.vm = .none → s.vm.findClass E = some ce.cls → vx_W p G.1 e R s m args below meth c H1 locs1 (cells + mc') (slots + ms') Q (F0 m pc ls rest) q)
    (kk : ∀ (v : Option Value) (h1 : hw) (H1 : Heap) (locs1 : List Loc), Qi v h1 → GW G h1 H1 → va_S (Gb G) s.heap H1 locs1 → W p G.1 e R s m args below meth c H1 locs1 (cells + mc') (slots + ms') Q (F0 m (pc + 3) ls (v.toList ++ rest))) :
    W p G.1 e R s m args below meth c H locs cells slots Q (F0 m pc ls st) := by
  intro T hT X
  rcases hr T hT X with ⟨v, st₀, t, T', L, h0, X', hL, e1, e2, ⟨⟨v1, h1, hv, hp, hb⟩, hF⟩, go⟩ | ⟨q, st₀, t, T', L, E, ce, h0, X', hL, e1, e2, ⟨⟨h1, hp, hb⟩, hF⟩, hce, hcv, hcl, go⟩
  · cases hv
    obtain ⟨k1, k2, k3⟩ := vx_keep h0 e1 hS (fun _ _ z => z) (fun _ z => z) hL hF
    obtain ⟨t2, a1, b1⟩ := kk v h1 T'.heap (locs ++ L) hp (by rw [e1]; exact hb) k3 T' rfl X'
    exact ⟨t2, go t2 a1, b1⟩
  · obtain ⟨k1, k2, k3⟩ := vx_keep h0 e1 hS (fun _ _ z => z) (fun _ z => z) hL hF
    obtain ⟨t2, a1, b1⟩ := kx E h1 T'.heap (locs ++ L) q ce hp (by rw [e1]; exact hb) k3 (by rw [e1]; exact hce) hcv hcl T' rfl X'
    exact ⟨t2, go.trans a1, b1⟩
theorem pre_of {h : hw} {H : Heap} {locs : List Loc} (hW : GW G h H) (hS : va_S (Gb G) s.heap H locs) (hal : G.2.2.2.vm.Alike s.vm) (hag : ∀ q : Nat, q < G.2.2.2.heap.size → s.heap[q]? = G.2.2.2.heap[q]?) (hsz : G.2.2.2.heap.size ≤ s.heap.size) (hnf : NF s) (av : List Value) : ∀ U : State, U.heap = H → s.WarmedH U.vm → va_Pc av (PB G h) av.toArray U := by
  intro U hU hWm
  refine ⟨rfl, by rw [hU]; exact hW, hal.trans hWm.alike, fun q hq => ?_, ?_, hnf.warm hWm⟩
  · rw [hU, hS.2.1 q (Nat.lt_of_lt_of_le hq hsz) (Nat.not_le.mpr hq)]
    exact hag q hq
  · rw [hU]
    exact Nat.le_trans hsz hS.1
end RT
theorem gw_recv {G : Gx} {s : State} {h : hw} {H : Heap} {locs : List Loc} {ws : va_W} {b ci : Nat} {fs : List Value} {r9 : vw_C} (hGk : GOK G) (hK : va_K G.2.1 mcl (Gtys G) s) (hal : G.2.2.2.vm.Alike s.vm) (hag : ∀ q : Nat, q < G.2.2.2.heap.size → s.heap[q]? = G.2.2.2.heap[q]?) (hS : va_S (Gb G) s.heap H locs) (hP : va_P G.2.1 mcl ws H) (hi : hwIs G h ws) (hci : mcl[ci]? = some r9) (ho : h b = some (.inr (ci, fs))) : ∃ cell : Cell, H[b]? = some cell ∧ cell.vm.isStatics = false ∧ s.vm.findClass r9.1 = some cell.cls := by
  obtain ⟨q0, hq⟩ := hi.at2 ho
  exact va_recv hK hP hci hq
section VC
variable {G : Gx} {Γ : Cx} {own : String} {cc : ByteArray} {nL fr lo mc ms cells slots pc : Nat} {hh : List (Nat × Nat × Nat × Nat)} {h : hw} {L : List (Nat × Value)} {st : List Value}
variable {y : MethodName} {bytes : ByteArray} {maxL : Nat} {ret : Option FieldType} {fr' lo' mc' ms' : Nat} {Qi : Option Value → hw → Prop} {XP : String → hw → Prop} {b idx ci : Nat} {As rest : List Value}
theorem V_callV (hC : COK G Γ own cc nL fr lo mc ms hh) (hM : CT G y bytes maxL ret fr' lo' mc' ms' (.ref b :: As) h Qi XP) (hs : SV own idx y bytes maxL ret As.length) (ho : ∃ fs, h b = some (.inr (ci, fs))) {r9 : vw_C} (hci : mcl[ci]? = some r9) (hcl : r9.1 = y.cls) (hst : st = As.reverse ++ .ref b :: rest) (hR : fr' + 1 ≤ fr ∧ 8 + (maxL + 11) + lo' ≤ lo) (hw8 : (rest.map fun v => v.category).sum ≤ 8) (hcs : cells + mc' ≤ mc ∧ slots + ms' ≤ ms) (hdg : decode cc pc = .ok (.invokevirtual idx, 3)) (kx : ∀ (E : String) (h1 : hw), XP E h1 → VX G Γ nL (cells + mc') (slots + ms') h1 pc L rest E) (kk : ∀ (v : Option Value) (h1 : hw), Qi v h1 → V G Γ nL (cells + mc') (slots + ms') h1 (pc + 3) L (v.toList ++ rest)) : V G Γ nL cells slots h pc L st := by
  obtain ⟨p, e, R, s, m, args, below, meth, c, Q⟩ := Γ
  intro H locs ls hW hS hl
  obtain ⟨hx, hb, hml, hown, hts, hK, hal, hag, hsz, rfl, htab, hlocks, hnf, hGk⟩ := hC
  subst hst
  obtain ⟨s1, s2, s3, s4, s5, s6, s7, s8⟩ := hs
  obtain ⟨fs, ho⟩ := ho
  have hpre := pre_of hW hS hal hag hsz hnf (.ref b :: As)
  obtain ⟨ws, hP, hD, hi⟩ := id hW
  have hrec : ∃ cell : Cell, H[b]? = some cell ∧ cell.vm.isStatics = false ∧ s.vm.findClass r9.1 = some cell.cls := gw_recv hGk hK hal hag hS hP hi hci ho
  rw [hcl] at hrec
  have hG : GoodIn AW (wsV own idx y.cls y (Cond.code y bytes maxL ret :: AW)) := by
    intro w hw
    unfold wsV at hw
    rcases List.mem_append.mp hw with z | z
    · have z2 : w ∈ AW := by
        rcases List.mem_cons.mp z with rfl | z
        · exact s1
        rcases List.mem_cons.mp z with rfl | z
        · exact s2
        rcases List.mem_cons.mp z with rfl | z
        · exact s3
        rcases List.mem_cons.mp z with rfl | z
        · exact s4
        cases z
      exact ⟨z2, AW_good z2⟩
    · exact AW_in s5 w z
  have hrun := vx_runV (rest := rest) (g := F0 m pc ls (As.reverse ++ .ref b :: rest)) (locs := locs) (cells := cells) (slots := slots) (R := { frames := fr, cells := mc, slots := ms, locals := lo }) (H := H) (p := p) (e := e) (below := below) (meth := meth) (Ts := AW) (own := own) (nL := nL) ⟨hx, hb, hml, hown, hts⟩ hM (cwV As.length hts hG rfl rfl rfl ⟨rfl, s6, s7, s8⟩ hR) ⟨PB_blind, hrec, hpre⟩ rfl rfl hl.1 rfl (lv_room hw8) hdg hcs
  exact run_to hrun hS (fun E h1 H1 locs1 q ce z1 z2 z3 z4 z5 z6 => kx E h1 z1 H1 locs1 ls q ce z2 z3 hl z4 z5 z6) (fun v h1 H1 locs1 z1 z2 z3 => kk v h1 z1 H1 locs1 ls z2 z3 hl)
theorem V_callS (hC : COK G Γ own cc nL fr lo mc ms hh) (hM : CT G y bytes maxL ret fr' lo' mc' ms' (As) h Qi XP) (hs : SS own idx y bytes maxL ret As.length) (hst : st = As.reverse ++ rest) (hR : fr' + 1 ≤ fr ∧ 8 + (maxL + 11) + lo' ≤ lo) (hw8 : (rest.map fun v => v.category).sum ≤ 8) (hcs : cells + mc' ≤ mc ∧ slots + ms' ≤ ms) (hdg : decode cc pc = .ok (.invokestatic idx, 3)) (kx : ∀ (E : String) (h1 : hw), XP E h1 → VX G Γ nL (cells + mc') (slots + ms') h1 pc L rest E) (kk : ∀ (v : Option Value) (h1 : hw), Qi v h1 → V G Γ nL (cells + mc') (slots + ms') h1 (pc + 3) L (v.toList ++ rest)) : V G Γ nL cells slots h pc L st := by
  obtain ⟨p, e, R, s, m, args, below, meth, c, Q⟩ := Γ
  intro H locs ls hW hS hl
  obtain ⟨hx, hb, hml, hown, hts, hK, hal, hag, hsz, rfl, htab, hlocks, hnf, hGk⟩ := hC
  subst hst
  obtain ⟨s1, s2, s4, s5, s6, s7, s8⟩ := hs
  have hpre := pre_of hW hS hal hag hsz hnf As
  have hG : GoodIn AW (va_wsS own idx y (Cond.code y bytes maxL ret :: AW)) := by
    intro w hw
    unfold va_wsS at hw
    rcases List.mem_append.mp hw with z | z
    · have z2 : w ∈ AW := by
        rcases List.mem_cons.mp z with rfl | z
        · exact s1
        rcases List.mem_cons.mp z with rfl | z
        · exact s2
        rcases List.mem_cons.mp z with rfl | z
        · exact s4
        cases z
      exact ⟨z2, AW_good z2⟩
    · exact AW_in s5 w z
  have hrun := vx_runS (rest := rest) (g := F0 m pc ls (As.reverse ++ rest)) (locs := locs) (cells := cells) (slots := slots) (R := { frames := fr, cells := mc, slots := ms, locals := lo }) (H := H) (p := p) (e := e) (below := below) (meth := meth) (Ts := AW) (own := own) (nL := nL) ⟨hx, hb, hml, hown, hts⟩ hM (va_cwS As.length hts hG rfl rfl rfl ⟨s6, s7, s8⟩ hR) ⟨PB_blind, hpre⟩ rfl rfl hl.1 rfl (lv_room hw8) hdg hcs
  exact run_to hrun hS (fun E h1 H1 locs1 q ce z1 z2 z3 z4 z5 z6 => kx E h1 z1 H1 locs1 ls q ce z2 z3 hl z4 z5 z6) (fun v h1 H1 locs1 z1 z2 z3 => kk v h1 z1 H1 locs1 ls z2 z3 hl)
theorem V_callI (hC : COK G Γ own cc nL fr lo mc ms hh) (hM : CT G y bytes maxL none fr' lo' mc' ms' (.ref b :: As) h Qi XP) (hs : SI own idx y bytes maxL As.length) (hst : st = As.reverse ++ .ref b :: rest) (hR : fr' + 1 ≤ fr ∧ 8 + (maxL + 11) + lo' ≤ lo) (hw8 : (rest.map fun v => v.category).sum ≤ 8) (hcs : cells + mc' ≤ mc ∧ slots + ms' ≤ ms) (hdg : decode cc pc = .ok (.invokespecial idx, 3)) (kx : ∀ (E : String) (h1 : hw), XP E h1 → VX G Γ nL (cells + mc') (slots + ms') h1 pc L rest E) (kk : ∀ (v : Option Value) (h1 : hw), Qi v h1 → V G Γ nL (cells + mc') (slots + ms') h1 (pc + 3) L (v.toList ++ rest)) : V G Γ nL cells slots h pc L st := by
  obtain ⟨p, e, R, s, m, args, below, meth, c, Q⟩ := Γ
  intro H locs ls hW hS hl
  obtain ⟨hx, hb, hml, hown, hts, hK, hal, hag, hsz, rfl, htab, hlocks, hnf, hGk⟩ := hC
  subst hst
  obtain ⟨s1, s2, s3, s4, s5, s6, s7, s8⟩ := hs
  have hpre := pre_of hW hS hal hag hsz hnf (.ref b :: As)
  have hrun := vx_runI (rest := rest) (g := F0 m pc ls (As.reverse ++ .ref b :: rest)) (locs := locs) (cells := cells) (slots := slots) (R := { frames := fr, cells := mc, slots := ms, locals := lo }) (H := H) (p := p) (e := e) (below := below) (meth := meth) (Ts := AW) (own := own) (nL := nL) ⟨hx, hb, hml, hown, hts⟩ hM (cwI As.length hts (AW_in s5) rfl rfl rfl (hts _ s4) (hts _ s1) (hts _ s2) s3 ⟨s6, s7, s8⟩ hR) ⟨PB_blind, hpre⟩ rfl rfl hl.1 rfl (lv_room hw8) hdg hcs
  exact run_to hrun hS (fun E h1 H1 locs1 q ce z1 z2 z3 z4 z5 z6 => kx E h1 z1 H1 locs1 ls q ce z2 z3 hl z4 z5 z6) (fun v h1 H1 locs1 z1 z2 z3 => kk v h1 z1 H1 locs1 ls z2 z3 hl)
theorem V_callIN (hC : COK G Γ own cc nL fr lo mc ms hh) {host : String} (hM : CT G y bytes maxL none fr' lo' mc' ms' (.ref b :: As) h Qi XP) (hs : SIN own idx y host bytes maxL As.length) (hst : st = As.reverse ++ .ref b :: rest) (hR : fr' + 1 ≤ fr ∧ 8 + (maxL + 11) + lo' ≤ lo) (hw8 : (rest.map fun v => v.category).sum ≤ 8) (hcs : cells + mc' ≤ mc ∧ slots + ms' ≤ ms) (hdg : decode cc pc = .ok (.invokespecial idx, 3)) (kx : ∀ (E : String) (h1 : hw), XP E h1 → VX G Γ nL (cells + mc') (slots + ms') h1 pc L rest E) (kk : ∀ (v : Option Value) (h1 : hw), Qi v h1 → V G Γ nL (cells + mc') (slots + ms') h1 (pc + 3) L (v.toList ++ rest)) : V G Γ nL cells slots h pc L st := by
  obtain ⟨p, e, R, s, m, args, below, meth, c, Q⟩ := Γ
  intro H locs ls hW hS hl
  obtain ⟨hx, hb, hml, hown, hts, hK, hal, hag, hsz, rfl, htab, hlocks, hnf, hGk⟩ := hC
  subst hst
  obtain ⟨s1, s2, s3, s4, s5, s6, s7, s8⟩ := hs
  have hpre := pre_of hW hS hal hag hsz hnf (.ref b :: As)
  have hrun := vx_runIN (rest := rest) (g := F0 m pc ls (As.reverse ++ .ref b :: rest)) (locs := locs) (cells := cells) (slots := slots) (R := { frames := fr, cells := mc, slots := ms, locals := lo }) (H := H) (p := p) (e := e) (below := below) (meth := meth) (Ts := AW) (own := own) (nL := nL) ⟨hx, hb, hml, hown, hts⟩ hM ⟨va_cnB As.length hts (AW_in s5) rfl rfl rfl (hnf.1 _ s1) (hts _ s4) ⟨s6, s7, s8⟩ hR, s3, hts _ s2⟩ ⟨PB_blind, hpre⟩ rfl rfl hl.1 rfl (lv_room hw8) hdg hcs
  exact run_to hrun hS (fun E h1 H1 locs1 q ce z1 z2 z3 z4 z5 z6 => kx E h1 z1 H1 locs1 ls q ce z2 z3 hl z4 z5 z6) (fun v h1 H1 locs1 z1 z2 z3 => kk v h1 z1 H1 locs1 ls z2 z3 hl)
theorem V_callSN (hC : COK G Γ own cc nL fr lo mc ms hh) {host : String} (hM : CT G y bytes maxL ret fr' lo' mc' ms' (As) h Qi XP) (hs : SSN own idx y host bytes maxL ret As.length) (hst : st = As.reverse ++ rest) (hR : fr' + 1 ≤ fr ∧ 8 + (maxL + 11) + lo' ≤ lo) (hw8 : (rest.map fun v => v.category).sum ≤ 8) (hcs : cells + mc' ≤ mc ∧ slots + ms' ≤ ms) (hdg : decode cc pc = .ok (.invokestatic idx, 3)) (kx : ∀ (E : String) (h1 : hw), XP E h1 → VX G Γ nL (cells + mc') (slots + ms') h1 pc L rest E) (kk : ∀ (v : Option Value) (h1 : hw), Qi v h1 → V G Γ nL (cells + mc') (slots + ms') h1 (pc + 3) L (v.toList ++ rest)) : V G Γ nL cells slots h pc L st := by
  obtain ⟨p, e, R, s, m, args, below, meth, c, Q⟩ := Γ
  intro H locs ls hW hS hl
  obtain ⟨hx, hb, hml, hown, hts, hK, hal, hag, hsz, rfl, htab, hlocks, hnf, hGk⟩ := hC
  subst hst
  obtain ⟨s1, s2, s4, s5, s6, s7, s8⟩ := hs
  have hpre := pre_of hW hS hal hag hsz hnf As
  have hrun := vx_runSN (rest := rest) (g := F0 m pc ls (As.reverse ++ rest)) (locs := locs) (cells := cells) (slots := slots) (R := { frames := fr, cells := mc, slots := ms, locals := lo }) (H := H) (p := p) (e := e) (below := below) (meth := meth) (Ts := AW) (own := own) (nL := nL) ⟨hx, hb, hml, hown, hts⟩ hM ⟨va_cnB As.length hts (AW_in s5) rfl rfl rfl (hnf.1 _ s1) (hts _ s4) ⟨s6, s7, s8⟩ hR, hts _ s2, trivial⟩ ⟨PB_blind, hpre⟩ rfl rfl hl.1 rfl (lv_room hw8) hdg hcs
  exact run_to hrun hS (fun E h1 H1 locs1 q ce z1 z2 z3 z4 z5 z6 => kx E h1 z1 H1 locs1 ls q ce z2 z3 hl z4 z5 z6) (fun v h1 H1 locs1 z1 z2 z3 => kk v h1 z1 H1 locs1 ls z2 z3 hl)
def SO (own : String) (idx : Nat) : Prop := Cond.methodLink own idx objectInit ∈ AW ∧ Cond.instanceMethod objectInit ∈ AW ∧ Cond.code objectInit ⟨#[0xb1]⟩ 1 none ∈ AW
theorem V_objInit (hC : COK G Γ own cc nL fr lo mc ms hh) (hs : SO own idx) (hR : 1 ≤ fr) (hlo : (rest.map fun v => v.category).sum + 12 ≤ lo) (hdg : decode cc pc = .ok (.invokespecial idx, 3)) (kk : V G Γ nL cells slots h (pc + 3) L rest) : V G Γ nL cells slots h pc L (.ref b :: rest) := by
  obtain ⟨p, e, R, s, m, args, below, meth, c, Q⟩ := Γ
  intro H locs ls hW hS hl
  obtain ⟨hx, hb, hml, hown, hts, hK, hal, hag, hsz, rfl, htab, hlocks, hnf, hGk⟩ := hC
  obtain ⟨s1, s2, s3⟩ := hs
  exact W.objInit hx hb hown (hts _ s1) (hts _ s2) (hts _ s3) rfl (by rw [hml]; exact hl.1) rfl hdg hR (by simpa [F0, JFrame.monitorRoom] using hlo) (kk H locs ls hW hS hl)
def SM (own : String) (idx : Nat) (y : MethodName) (bytes : ByteArray) (n : Nat) : Prop := Cond.methodLink own idx y ∈ AW ∧ Cond.static y ∈ AW ∧ Cond.initialized "java/lang/Math" ∈ AW ∧ Cond.code y bytes n (some .int) ∈ AW
theorem V_abs (hC : COK G Γ own cc nL fr lo mc ms hh) {x : Int32} (hs : SM own idx Lib.Math.abs.name Lib.Math.abs.code 1) (hR : 1 ≤ fr) (hlo : (rest.map fun v => v.category).sum + 13 ≤ lo) (hc1 : cells ≤ mc) (hs1 : slots ≤ ms) (hdg : decode cc pc = .ok (.invokestatic idx, 3)) (kk : V G Γ nL cells slots h (pc + 3) L (.int (jabs x) :: rest)) : V G Γ nL cells slots h pc L (.int x :: rest) := by
  obtain ⟨p, e, R, s, m, args, below, meth, c, Q⟩ := Γ
  intro H locs ls hW hS hl
  obtain ⟨hx, hb, hml, hown, hts, hK, hal, hag, hsz, rfl, htab, hlocks, hnf, hGk⟩ := hC
  obtain ⟨s1, s2, s3, s4⟩ := hs
  exact va_mabs hx hb (hml.trans hl.1.symm) hown (hts _ s1) (hts _ s2) (hts _ s3) (hts _ s4) hR hlo hc1 hs1 hdg (kk H locs ls hW hS hl)
theorem V_max (hC : COK G Γ own cc nL fr lo mc ms hh) {x y9 : Int32} (hs : SM own idx Lib.Math.max.name Lib.Math.max.code 2) (hR : 1 ≤ fr) (hlo : (rest.map fun v => v.category).sum + 13 ≤ lo) (hc1 : cells ≤ mc) (hs1 : slots ≤ ms) (hdg : decode cc pc = .ok (.invokestatic idx, 3)) (kk : V G Γ nL cells slots h (pc + 3) L (.int (jmax x y9) :: rest)) : V G Γ nL cells slots h pc L (.int y9 :: .int x :: rest) := by
  obtain ⟨p, e, R, s, m, args, below, meth, c, Q⟩ := Γ
  intro H locs ls hW hS hl
  obtain ⟨hx, hb, hml, hown, hts, hK, hal, hag, hsz, rfl, htab, hlocks, hnf, hGk⟩ := hC
  obtain ⟨s1, s2, s3, s4⟩ := hs
  exact va_mmax hx hb (hml.trans hl.1.symm) hown (hts _ s1) (hts _ s2) (hts _ s3) (hts _ s4) hR hlo hc1 hs1 hdg (kk H locs ls hW hS hl)
theorem V_min (hC : COK G Γ own cc nL fr lo mc ms hh) {x y9 : Int32} (hs : SM own idx Lib.Math.min.name Lib.Math.min.code 2) (hR : 1 ≤ fr) (hlo : (rest.map fun v => v.category).sum + 13 ≤ lo) (hc1 : cells ≤ mc) (hs1 : slots ≤ ms) (hdg : decode cc pc = .ok (.invokestatic idx, 3)) (kk : V G Γ nL cells slots h (pc + 3) L (.int (jmin x y9) :: rest)) : V G Γ nL cells slots h pc L (.int y9 :: .int x :: rest) := by
  obtain ⟨p, e, R, s, m, args, below, meth, c, Q⟩ := Γ
  intro H locs ls hW hS hl
  obtain ⟨hx, hb, hml, hown, hts, hK, hal, hag, hsz, rfl, htab, hlocks, hnf, hGk⟩ := hC
  obtain ⟨s1, s2, s3, s4⟩ := hs
  exact va_mmin hx hb (hml.trans hl.1.symm) hown (hts _ s1) (hts _ s2) (hts _ s3) (hts _ s4) hR hlo hc1 hs1 hdg (kk H locs ls hW hS hl)
theorem V_iret (hC : COK G Γ own cc nL fr lo mc ms hh) (hQ : CQ G Γ ret mc ms Qi XP) {x : Int32} {ty : FieldType} (hr : ret = some ty) (hn : narrow ty (.int x) = .int x) (hcs : cells ≤ mc ∧ slots ≤ ms) (hdg : decode cc pc = .ok (.ireturn, 1)) (hq : Qi (some (.int x)) h) : V G Γ nL cells slots h pc L [.int x] := by
  obtain ⟨p, e, R, s, m, args, below, meth, c, Q⟩ := Γ
  intro H locs ls hW hS hl
  obtain ⟨hx, hb, hml, hown, hts, hK, hal, hag, hsz, rfl, htab, hlocks, hnf, hGk⟩ := hC
  obtain ⟨hret, rfl⟩ := hQ
  refine W.widen hcs.1 hcs.2 (vx_ret (W.zret hx hb (hret.trans hr) hn (fun t ht hWm => ⟨⟨_, h, rfl, hq, by rw [ht]; exact hW⟩, hS.F ht⟩) hS.2.2 hdg hlocks))
theorem V_vret (hC : COK G Γ own cc nL fr lo mc ms hh) (hQ : CQ G Γ none mc ms Qi XP) (hcs : cells ≤ mc ∧ slots ≤ ms) (hdg : decode cc pc = .ok (.return_, 1)) (hq : Qi none h) : V G Γ nL cells slots h pc L [] := by
  obtain ⟨p, e, R, s, m, args, below, meth, c, Q⟩ := Γ
  intro H locs ls hW hS hl
  obtain ⟨hx, hb, hml, hown, hts, hK, hal, hag, hsz, rfl, htab, hlocks, hnf, hGk⟩ := hC
  obtain ⟨hret, rfl⟩ := hQ
  refine W.widen hcs.1 hcs.2 (vx_ret (W.vret hx hb hret (fun t ht hWm => ⟨⟨_, h, rfl, hq, by rw [ht]; exact hW⟩, hS.F ht⟩) hS.2.2 hdg hlocks))
theorem V_lret (hC : COK G Γ own cc nL fr lo mc ms hh) (hQ : CQ G Γ (some .long) mc ms Qi XP) {x : Int64} (hcs : cells ≤ mc ∧ slots ≤ ms) (hdg : decode cc pc = .ok (.lreturn, 1)) (hq : Qi (some (.long x)) h) : V G Γ nL cells slots h pc L [.long x] := by
  obtain ⟨p, e, R, s, m, args, below, meth, c, Q⟩ := Γ
  intro H locs ls hW hS hl
  obtain ⟨hx, hb, hml, hown, hts, hK, hal, hag, hsz, rfl, htab, hlocks, hnf, hGk⟩ := hC
  obtain ⟨hret, rfl⟩ := hQ
  refine W.widen hcs.1 hcs.2 (vx_ret (W.lret hx hb hret (fun t ht hWm => ⟨⟨_, h, rfl, hq, by rw [ht]; exact hW⟩, hS.F ht⟩) hS.2.2 hdg hlocks))
theorem V_fret (hC : COK G Γ own cc nL fr lo mc ms hh) (hQ : CQ G Γ (some .float) mc ms Qi XP) {x : UInt32} (hcs : cells ≤ mc ∧ slots ≤ ms) (hdg : decode cc pc = .ok (.freturn, 1)) (hq : Qi (some (.float x)) h) : V G Γ nL cells slots h pc L [.float x] := by
  obtain ⟨p, e, R, s, m, args, below, meth, c, Q⟩ := Γ
  intro H locs ls hW hS hl
  obtain ⟨hx, hb, hml, hown, hts, hK, hal, hag, hsz, rfl, htab, hlocks, hnf, hGk⟩ := hC
  obtain ⟨hret, rfl⟩ := hQ
  refine W.widen hcs.1 hcs.2 (vx_ret (W.fret hx hb hret (fun t ht hWm => ⟨⟨_, h, rfl, hq, by rw [ht]; exact hW⟩, hS.F ht⟩) hS.2.2 hdg hlocks))
theorem V_dret (hC : COK G Γ own cc nL fr lo mc ms hh) (hQ : CQ G Γ (some .double) mc ms Qi XP) {x : UInt64} (hcs : cells ≤ mc ∧ slots ≤ ms) (hdg : decode cc pc = .ok (.dreturn, 1)) (hq : Qi (some (.double x)) h) : V G Γ nL cells slots h pc L [.double x] := by
  obtain ⟨p, e, R, s, m, args, below, meth, c, Q⟩ := Γ
  intro H locs ls hW hS hl
  obtain ⟨hx, hb, hml, hown, hts, hK, hal, hag, hsz, rfl, htab, hlocks, hnf, hGk⟩ := hC
  obtain ⟨hret, rfl⟩ := hQ
  refine W.widen hcs.1 hcs.2 (vx_ret (W.dret hx hb hret (fun t ht hWm => ⟨⟨_, h, rfl, hq, by rw [ht]; exact hW⟩, hS.F ht⟩) hS.2.2 hdg hlocks))
theorem V_aret (hC : COK G Γ own cc nL fr lo mc ms hh) (hQ : CQ G Γ ret mc ms Qi XP) {x : Nat} {rt : FieldType} (hr : ret = some rt) (hrt : (∃ n, rt = .object n) ∨ ∃ t, rt = .array t) (hcs : cells ≤ mc ∧ slots ≤ ms) (hdg : decode cc pc = .ok (.areturn, 1)) (hq : Qi (some (.ref x)) h) : V G Γ nL cells slots h pc L [.ref x] := by
  obtain ⟨p, e, R, s, m, args, below, meth, c, Q⟩ := Γ
  intro H locs ls hW hS hl
  obtain ⟨hx, hb, hml, hown, hts, hK, hal, hag, hsz, rfl, htab, hlocks, hnf, hGk⟩ := hC
  obtain ⟨hret, rfl⟩ := hQ
  refine W.widen hcs.1 hcs.2 (vx_ret (W.aret hx hb (hret.trans hr) hrt (Or.inr ⟨x, rfl⟩) (fun t ht hWm => ⟨⟨_, h, rfl, hq, by rw [ht]; exact hW⟩, hS.F ht⟩) hS.2.2 hdg hlocks))
/-- not caught here -/
theorem VX_out {E : String} (hC : COK G Γ own cc nL fr lo mc ms []) (hQ : CQ G Γ ret mc ms Qi XP) (hcs : cells ≤ mc ∧ slots ≤ ms) (hq : XP E h) : VX G Γ nL cells slots h pc L st E := by
  obtain ⟨p, e, R, s, m, args, below, meth, c, Q⟩ := Γ
  intro H locs ls q ce hW hS hl hce hcv hcl
  obtain ⟨hx, hb, hml, hown, hts, hK, hal, hag, hsz, rfl, htab, hlocks, hnf, hGk⟩ := hC
  obtain ⟨hret, rfl⟩ := hQ
  exact vx_out (fun x hx => by rw [htab] at hx; cases hx) hlocks hce hcv hcl (fun t ht _ => ⟨⟨h, hq, by rw [ht]; exact hW⟩, hS.F ht⟩) hS.2.2 hcs.1 hcs.2
end VC
