theorem GW.kept {G : Gx} {h : hw} {H H1 : Heap} (hW : GW G h H) (hq : ∀ q : Nat, q < H.size → H1[q]? = H[q]?) : GW G h H1 := by
  obtain ⟨ws, hP, hD, hi⟩ := hW
  exact ⟨ws, hP.kept (fun k q hk => hq q.1 (hP k q hk).lt), hD, hi⟩
abbrev exn : List String := ["java/lang/RuntimeException", "java/lang/Exception"]
def TH (own : String) (ik is ic : Nat) (X text : String) : Prop := Cond.classLink own ik X ∈ AW ∧ Cond.initialized X ∈ AW ∧ (own, is, text) ∈ SW ∧ (∀ w ∈ (vx_atS own ic X exn).filter goodWord, w ∈ AW) ∧ (∀ w ∈ (vx_atS own ic X exn).filter (fun w => !goodWord w), w ∈ NW) ∧ (∀ w ∈ Cond.classLink own ik X :: Cond.initialized X :: vx_atS own ic X exn, vx_ot w = true) ∧ Bundle.fit X = true ∧ (∀ n ∈ exn, Bundle.fit n = true)
theorem NW_on {w : Cond} (h : w ∈ NW) : w.onTables = true := by
  have h3 := (List.mem_filter.mp h).2
  cases w <;> first | (simp [isNw] at h3; done) | rfl
section VM
variable {G : Gx} {Γ : Cx} {own : String} {cc : ByteArray} {nL fr lo mc ms cells slots pc : Nat} {hh : List (Nat × Nat × Nat × Nat)} {h : hw} {L : List (Nat × Value)} {st : List Value} {ret : Option FieldType} {Qi : Option Value → hw → Prop} {XP : String → hw → Prop}
theorem V_throwS (hC : COK G Γ own cc nL fr lo mc ms []) (hQ : CQ G Γ ret mc ms Qi XP) (hG : GOK G) {ik is ic : Nat} {X text : String} (hT : TH own ik is ic X text) (hR : 5 < fr ∧ (st.map fun v => v.category).sum + 82 ≤ lo) (hcs : cells + 1 ≤ mc ∧ slots + 6 ≤ ms) (d0 : decode cc pc = .ok (.new ik, 3)) (d3 : decode cc (pc + 3) = .ok (.dup, 1)) (d4 : decode cc (pc + 4) = .ok (.ldc is, 2)) (d6 : decode cc (pc + 6) = .ok (.invokespecial ic, 3)) (d9 : decode cc (pc + 9) = .ok (.athrow, 1)) (hq : XP X h) : V G Γ nL cells slots h pc L st := by
  obtain ⟨p, e, R, s, m, args, below, meth, c, Q⟩ := Γ
  intro H locs ls hW hS hl
  obtain ⟨hx, hb, hml, hown, hts, hK, hal, hag, hsz, rfl, htab, hlocks, hnf, hGk⟩ := hC
  obtain ⟨hret, rfl⟩ := hQ
  obtain ⟨t1, t2, t3, t4, t5, t6, t7, t8⟩ := hT
  obtain ⟨sa, hsa⟩ := hnf.2 _ t3
  have hkeep : ∀ a : Nat, a < G.2.2.2.heap.size → ¬ Gb G a → s.heap[a]? = G.2.2.2.heap[a]? := fun a h1 _ => hag a h1
  exact vx_throwS (own := own) hx hb hG.2.1 hown t7 t8 (hts _ t1) (hts _ t2) hsa (vx_hat (B := NW) (fun w hw => hts w (t4 w hw)) t5 (fun w hw => va_Nw.use (NW_on hw) (hnf.1 w hw))) t6 ((hG.2.2.1.moved hal).kept hkeep) ((hG.2.2.2.1.moved hal).kept hkeep) hS (hl.1.trans hml.symm) d0 d3 d4 d6 d9 (fun x hx => by rw [htab] at hx; cases hx) hR.1 hR.2 hcs.1 hcs.2 hlocks (fun t _ h2 h3 => ⟨⟨h, hq, hW.kept h3⟩, Nat.le_trans hS.1 h2, fun q z1 z2 => by rw [h3 q (Nat.lt_of_lt_of_le z1 hS.1)]; exact hS.2.1 q z1 z2⟩) hS.2.2 hcs.1 hcs.2
theorem V_throwSW (hC : COK G Γ own cc nL fr lo mc ms []) (hQ : CQ G Γ ret mc ms Qi XP) (hG : GOK G) {ik is ic : Nat} {X text : String} (hT : TH own ik is ic X text) (hR : 5 < fr ∧ (st.map fun v => v.category).sum + 82 ≤ lo) (hcs : cells + 1 ≤ mc ∧ slots + 6 ≤ ms) (d0 : decode cc pc = .ok (.new ik, 3)) (d3 : decode cc (pc + 3) = .ok (.dup, 1)) (d4 : decode cc (pc + 4) = .ok (.ldc_w is, 3)) (d6 : decode cc (pc + 7) = .ok (.invokespecial ic, 3)) (d9 : decode cc (pc + 10) = .ok (.athrow, 1)) (hq : XP X h) : V G Γ nL cells slots h pc L st := by
  obtain ⟨p, e, R, s, m, args, below, meth, c, Q⟩ := Γ
  intro H locs ls hW hS hl
  obtain ⟨hx, hb, hml, hown, hts, hK, hal, hag, hsz, rfl, htab, hlocks, hnf, hGk⟩ := hC
  obtain ⟨hret, rfl⟩ := hQ
  obtain ⟨t1, t2, t3, t4, t5, t6, t7, t8⟩ := hT
  obtain ⟨sa, hsa⟩ := hnf.2 _ t3
  have hkeep : ∀ a : Nat, a < G.2.2.2.heap.size → ¬ Gb G a → s.heap[a]? = G.2.2.2.heap[a]? := fun a h1 _ => hag a h1
  exact vx_throwSW (own := own) hx hb hG.2.1 hown t7 t8 (hts _ t1) (hts _ t2) hsa (vx_hat (B := NW) (fun w hw => hts w (t4 w hw)) t5 (fun w hw => va_Nw.use (NW_on hw) (hnf.1 w hw))) t6 ((hG.2.2.1.moved hal).kept hkeep) ((hG.2.2.2.1.moved hal).kept hkeep) hS (hl.1.trans hml.symm) d0 d3 d4 d6 d9 (fun x hx => by rw [htab] at hx; cases hx) hR.1 hR.2 hcs.1 hcs.2 hlocks (fun t _ h2 h3 => ⟨⟨h, hq, hW.kept h3⟩, Nat.le_trans hS.1 h2, fun q z1 z2 => by rw [h3 q (Nat.lt_of_lt_of_le z1 hS.1)]; exact hS.2.1 q z1 z2⟩) hS.2.2 hcs.1 hcs.2
def NO (own : String) (idx ci N : Nat) (fs : List Value) : Prop := ∃ (C : String) (T : u_T), mcl[ci]? = some (C, T, N) ∧ Cond.classLink own idx C ∈ AW ∧ Cond.instantiable C N ∈ AW ∧ Cond.initialized C ∈ AW ∧ (∀ w ∈ u_ws C T N, w ∈ AW) ∧ ∃ ty : Nat → FieldType, (∀ k, k < N → parseFieldDescriptor (T k).2.2.1 = some (ty k)) ∧ ∀ j, j < N → defaultValue (ty j) = vp_V fs j
theorem V_new (hC : COK G Γ own cc nL fr lo mc ms hh) {idx ci N : Nat} {fs : List Value} (hs : NO own idx ci N fs) (hcs : cells + 1 ≤ mc ∧ slots + N ≤ ms) (hdg : decode cc pc = .ok (.new idx, 3)) (kk : ∀ a : Nat, h a = none → Gb G a → V G Γ nL (cells + 1) (slots + N) (hwu h a (.inr (ci, fs))) (pc + 3) L (.ref a :: st)) : V G Γ nL cells slots h pc L st := by
  obtain ⟨p, e, R, s, m, args, below, meth, c, Q⟩ := Γ
  intro H locs ls hW hS hl
  obtain ⟨hx, hb, hml, hown, hts, hK, hal, hag, hsz, rfl, htab, hlocks, hnf, hGk⟩ := hC
  obtain ⟨C, T, n1, n2, n3, n4, n5, ty, n6, n7⟩ := hs
  obtain ⟨ws, hP, hD, hi⟩ := id hW
  refine va_new (D := G.2.1) (cl := mcl) (tys := Gtys G) (Ts := AW) (own := own) hx hb hts n5 ty n6 hown (hts _ n2) (hts _ n3) (hts _ n4) hK hP hD hS (fun q hq => Nat.le_trans hsz hq) n1 n7 hcs.1 hcs.2 hdg (fun q H1 hP1 hD1 hS1 => ?_)
  have hfr := hi.fresh hGk hP1 hD1
  exact kk q hfr.1 hfr.2 H1 locs ls ⟨_, hP1, hD1, hi.push hfr.1 _⟩ hS1 hl
theorem V_newaI (hC : COK G Γ own cc nL fr lo mc ms hh) {n : Int32} {N : Nat} (harr : Cond.arrayClass .int ∈ AW) (hn : ¬ n < 0) (hN : n.toNatClampNeg = N) (hby : N * 4 ≤ 536870912) (hcs : cells + 1 ≤ mc ∧ slots + N ≤ ms) (hdg : decode cc pc = .ok (.newarray .int, 2)) (kk : ∀ a : Nat, h a = none → Gb G a → V G Γ nL (cells + 1) (slots + N) (hwu h a (.inl (G.2.2.1.1, N, .inl (fun _ => 0)))) (pc + 2) L (.ref a :: st)) : V G Γ nL cells slots h pc L (.int n :: st) := by
  obtain ⟨p, e, R, s, m, args, below, meth, c, Q⟩ := Γ
  intro H locs ls hW hS hl
  obtain ⟨hx, hb, hml, hown, hts, hK, hal, hag, hsz, rfl, htab, hlocks, hnf, hGk⟩ := hC
  obtain ⟨ws, hP, hD, hi⟩ := id hW
  refine va_newa (atype := .int) (ty := .int) (a0 := (N, .inl (fun _ => 0))) (D := G.2.1) (cl := mcl) (tys := Gtys G) hx hb (hts _ harr) rfl hK hP hD hS (fun q hq => Nat.le_trans hsz hq) (fun cA => rfl) hn hN hby hcs.1 hcs.2 hdg (fun q cA H1 hK1 hP1 hD1 hS1 => ?_)
  have e1 : s.vm.findClass ("[" ++ (.int : FieldType).toString) = some cA := (hK1.2 5 _ rfl).2
  have e2 : s.vm.findClass ("[" ++ (.int : FieldType).toString) = some G.2.2.1.1 := (hK.2 0 _ rfl).2
  have e3 : cA = G.2.2.1.1 := Option.some.inj (e1.symm.trans e2)
  subst e3
  have hfr := hi.fresh hGk hP1 hD1
  exact kk q hfr.1 hfr.2 H1 locs ls ⟨_, hP1, hD1, hi.push hfr.1 _⟩ hS1 hl
/-- a cast to the object's own class -/
theorem V_cast (hC : COK G Γ own cc nL fr lo mc ms hh) {idx ci a : Nat} {r9 : vw_C} (hl9 : Cond.classLink own idx r9.1 ∈ AW) (hc : mcl[ci]? = some r9) (ho : ∃ fs, h a = some (.inr (ci, fs))) (hdg : decode cc pc = .ok (.checkcast idx, 3)) (kk : V G Γ nL cells slots h (pc + 3) L (.ref a :: st)) : V G Γ nL cells slots h pc L (.ref a :: st) := by
  obtain ⟨p, e, R, s, m, args, below, meth, c, Q⟩ := Γ
  intro H locs ls hW hS hl
  obtain ⟨hx, hb, hml, hown, hts, hK, hal, hag, hsz, rfl, htab, hlocks, hnf, hGk⟩ := hC
  obtain ⟨fs, ho⟩ := ho
  obtain ⟨ws, hP, hD, hi⟩ := id hW
  exact va_castS hx hb hown (hts _ hl9) ((hK.1 ci r9 hc).2) (gw_recv hGk hK hal hag hS hP hi hc ho) hdg (kk H locs ls hW hS hl)
end VM
/-! the words of the weakest preconditions -/
def rdI (h : hw) (a ci k : Nat) (K : Int32 → Prop) : Prop := ∃ (fs : List Value) (v : Int32), h a = some (.inr (ci, fs)) ∧ fs[k]? = some (.int v) ∧ K v
def rdR (h : hw) (a ci k : Nat) (K : Nat → Prop) : Prop := ∃ (fs : List Value) (v : Nat), h a = some (.inr (ci, fs)) ∧ fs[k]? = some (.ref v) ∧ K v
def wrF (h : hw) (a ci k : Nat) (v : Value) (K : hw → Prop) : Prop := ∃ fs : List Value, h a = some (.inr (ci, fs)) ∧ k < fs.length ∧ K (hwu h a (.inr (ci, fs.set k v)))
def ldI (G : Gx) (h : hw) (a : Nat) (i : Int32) (K : Int32 → Prop) : Prop := ∃ (n : Nat) (f : Nat → Int32), h a = some (.inl (G.2.2.1.1, n, .inl f)) ∧ vp_in i n ∧ K (f i.toNatClampNeg)
def ldA (G : Gx) (h : hw) (a : Nat) (i : Int32) (K : Nat → Prop) : Prop := ∃ (n : Nat) (f : Nat → Option Nat) (b : Nat), h a = some (.inl (G.2.2.1.2.2.2.2, n, .inr (.inr (.inr (.inr f))))) ∧ vp_in i n ∧ f i.toNatClampNeg = some b ∧ K b
def stI (G : Gx) (h : hw) (a : Nat) (i x : Int32) (K : hw → Prop) : Prop := ∃ (n : Nat) (f : Nat → Int32), h a = some (.inl (G.2.2.1.1, n, .inl f)) ∧ vp_in i n ∧ K (hwu h a (.inl (G.2.2.1.1, n, .inl (upd f i.toNatClampNeg x))))
def ldS (G : Gx) (a : Nat) (i : Int32) (K : Int32 → Prop) : Prop := a = Gsb G ∧ vp_in i (GsL G) ∧ K (Gsx G i.toNatClampNeg)
def lnS (G : Gx) (a : Nat) (K : Int32 → Prop) : Prop := a = Gsb G ∧ K (Int32.ofNat (GsL G))
def lnI (G : Gx) (h : hw) (a : Nat) (K : Int32 → Prop) : Prop := ∃ x : vp_A, h a = some (.inl (G.2.2.1.1, x)) ∧ K (Int32.ofNat x.1)
def lnA (G : Gx) (h : hw) (a : Nat) (K : Int32 → Prop) : Prop := (∃ x : vp_A, h a = some (.inl (G.2.2.1.2.2.2.2, x)) ∧ K (Int32.ofNat x.1)) ∨ (a = Gt0 G ∧ K 0)
def nwO (G : Gx) (h : hw) (ci : Nat) (fs : List Value) (K : Nat → hw → Prop) : Prop := ∀ a : Nat, h a = none → Gb G a → K a (hwu h a (.inr (ci, fs)))
def isE (h : hw) (x : Nat) : Prop := ∃ (ci : Nat) (fs : List Value), h x = some (.inr (ci, fs)) ∧ (ci = 9 ∨ ci = 10 ∨ ci = 13 ∨ ci = 14)
def stA (G : Gx) (h : hw) (a : Nat) (i : Int32) (x : Nat) (K : hw → Prop) : Prop := ∃ (n : Nat) (f : Nat → Option Nat), h a = some (.inl (G.2.2.1.2.2.2.2, n, .inr (.inr (.inr (.inr f))))) ∧ vp_in i n ∧ isE h x ∧ K (hwu h a (.inl (G.2.2.1.2.2.2.2, n, .inr (.inr (.inr (.inr (va_up f i.toNatClampNeg (some x))))))))
def isA (G : Gx) (h : hw) (a : Nat) : Prop := ∃ x : vp_A, h a = some (.inl (G.2.2.1.2.2.2.2, x))
def nwA (G : Gx) (h : hw) (n : Int32) (room : Nat) (K : Nat → hw → Prop) : Prop := ¬ n < 0 ∧ n.toNatClampNeg ≤ room ∧ n.toNatClampNeg * 4 ≤ 536870912 ∧ ∀ a : Nat, h a = none → Gb G a → K a (hwu h a (.inl (G.2.2.1.2.2.2.2, n.toNatClampNeg, .inr (.inr (.inr (.inr (fun _ => none)))))))
def cpA (G : Gx) (h : hw) (a : Nat) (sp : Int32) (b : Nat) (dp n : Int32) (K : hw → Prop) : Prop := ∃ (n0 n1 : Nat) (f g : Nat → Option Nat), h a = some (.inl (G.2.2.1.2.2.2.2, n0, .inr (.inr (.inr (.inr f))))) ∧ h b = some (.inl (G.2.2.1.2.2.2.2, n1, .inr (.inr (.inr (.inr g))))) ∧ ¬ sp < 0 ∧ ¬ dp < 0 ∧ ¬ n < 0 ∧ sp.toNatClampNeg + n.toNatClampNeg ≤ n0 ∧ dp.toNatClampNeg + n.toNatClampNeg ≤ n1 ∧ (∀ i : Nat, i < n.toNatClampNeg → ∀ y : Nat, f (sp.toNatClampNeg + i) = some y → isE h y) ∧ K (hwu h b (.inl (G.2.2.1.2.2.2.2, n1, .inr (.inr (.inr (.inr (va_cpy f g sp.toNatClampNeg dp.toNatClampNeg n.toNatClampNeg)))))))
def isO (h : hw) (a ci : Nat) : Prop := ∃ fs : List Value, h a = some (.inr (ci, fs))
