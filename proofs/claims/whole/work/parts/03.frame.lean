/-! MY FRAME. Pure programs (sr_bk, sr_nm, sr_bd), a world in one hypothesis (sr_G), contracts (sr_Ct: returns; sr_Tt: returns or throws), calls, returns. -/
def sr_bk {β : Type} (i : Int32) (n : Nat) (k : Option β) : Option β := if i < 0 ∨ n ≤ i.toNatClampNeg then none else k
def sr_nm {α β : Type} (a : α) (k : α → Option β) : Option β := k a
def sr_bd {α β : Type} (x : Option α) (k : α → Option β) : Option β := x.bind k
theorem sr_bk_e {β : Type} {i : Int32} {n : Nat} {k : Option β} {o : β} (h : sr_bk i n k = some o) : vp_in i n ∧ k = some o := by
  by_cases q : i < 0 ∨ n ≤ i.toNatClampNeg
  · rw [sr_bk, if_pos q] at h
    cases h
  · rw [sr_bk, if_neg q] at h
    exact ⟨q, h⟩
theorem sr_bk_in {β : Type} {i : Int32} {n : Nat} {k : Option β} (h : vp_in i n) : sr_bk i n k = k := if_neg h
theorem sr_nm_u {α β : Type} {a y : α} {k : α → Option β} {o : β} (e : y = a) (h : sr_nm a k = some o) : k y = some o := by
  subst e
  exact h
theorem sr_nm_eq {α β : Type} (a : α) (k : α → Option β) : sr_nm a k = k a := rfl
theorem sr_bd_e {α β : Type} {x : Option α} {k : α → Option β} {o : β} (h : sr_bd x k = some o) : ∃ z, x = some z ∧ k z = some o := by
  cases x with
  | none => cases h
  | some z => exact ⟨z, rfl, h⟩
theorem sr_bd_some {α β : Type} {x : Option α} {k : α → Option β} {z : α} (h : x = some z) : sr_bd x k = k z := by
  subst h
  rfl
def sr_bz {β : Type} (v : Int32) (k : Option β) : Option β := if v = 0 ∨ v = 1 then k else none
theorem sr_bz_e {β : Type} {v : Int32} {k : Option β} {o : β} (h : sr_bz v k = some o) : narrow .boolean (.int v) = .int v ∧ k = some o := by
  by_cases q : v = 0 ∨ v = 1
  · rw [sr_bz, if_pos q] at h
    refine ⟨?_, h⟩
    rcases q with rfl | rfl <;> rfl
  · rw [sr_bz, if_neg q] at h
    cases h
theorem sr_bz_in {β : Type} {v : Int32} {k : Option β} (h : v = 0 ∨ v = 1) : sr_bz v k = k := if_pos h
theorem sr_no {α : Type} {o : α} {P : Prop} (h : none = some o) : P := by cases h
theorem sr_inc {n : Int} {k : Int32} (x : Int32) (h : Int32.ofInt n = k) : x + Int32.ofInt n = x + k := by rw [h]
theorem sr_fm {α β : Type} {f : α → Option β} : ∀ {is : List α} {w : List β}, is.map f = w.map some → is.filterMap f = w
  | [], [], _ => rfl
  | [], _ :: _, h => by simp at h
  | _ :: _, [], h => by simp at h
  | a :: is, b :: w, h => by
    simp only [List.map_cons, List.cons.injEq] at h
    rw [List.filterMap_cons_some h.1, sr_fm h.2]
/-- the world that a walk stands in -/
def sr_G (D : va_G) (A : Nat → Prop) (ws : va_W) (s : State) (H : Heap) (locs : List Loc) : Prop := va_P D vwCl ws H ∧ va_D A ws ∧ va_S A s.heap H locs
/-- how a call ends: it returns this, or throws a new object of that class -/
abbrev sr_Oc : Type := Option Value ⊕ String
def sr_xo (C : String) (x : Nat) (U : State) (H : Heap) : Prop := ∃ cell : Cell, H[x]? = some cell ∧ cell.vm.isStatics = false ∧ U.vm.findClass C = some cell.cls
def sr_o (oc : sr_Oc) (sz : Nat) (o : Outcome) (t : State) : Prop := match oc with
  | .inl v => o = .returned v
  | .inr C => ∃ x : Nat, o = .threw x ∧ sz ≤ x ∧ sr_xo C x t t.heap
def sr_P (D : va_G) (tys : List (ClassId × FieldType)) (av : List Value) (ws : va_W) (sz : Nat) : Array Value → State → Prop := va_Pc av (fun U => U.heap.size = sz ∧ va_P D vwCl ws U.heap ∧ va_K D vwCl tys U ∧ va_D (fun _ => True) ws)
def sr_Q (D : va_G) (tys : List (ClassId × FieldType)) (A : Nat → Prop) (ws : va_W) (oc : sr_Oc) (sz : Nat) : Array Value → State → Outcome → State → Prop := fun _ st o t => sr_o oc sz o t ∧ va_P D vwCl ws t.heap ∧ va_K D vwCl tys t ∧ va_D A ws ∧ va_F A st t
/-- a method that returns -/
def sr_Ct (l : Launch) (y : MethodName) (wY : List Cond) (rm : Room) (D : va_G) (tys : List (ClassId × FieldType)) (av : List Value) (ws : va_W) (ro : Option Value) (ws' : va_W) : Prop :=
  ∀ sz : Nat, Met l y wY rm (sr_P D tys av ws sz) (sr_Q D tys (va_A ws sz) ws' (.inl ro) sz) rm.cells rm.slots (va_A ws sz)
theorem sr_P.blind {D : va_G} {tys : List (ClassId × FieldType)} {av : List Value} {ws : va_W} {sz : Nat} : FrameBlind (sr_P D tys av ws sz) := fun a U g mk q => by
  obtain ⟨q0, q1, qP, qK, qD⟩ := q
  exact ⟨q0, q1, qP, va_K.moved (u := U) (U := U.calling g mk a) (Vm.Alike.refl U.vm) qK, qD⟩
/-- what stands fast in a body -/
def sr_cx (p : Program) (s : State) (m : MethodId) (args : Array Value) (meth : Method) (c : Code) (cc : ByteArray) (nL : Nat) (ret : Option FieldType) (own nam : String) (Ts : List Cond) : Prop :=
  p.tables.exec = Jvm.exec ∧ c.code = cc ∧ c.maxLocals = nL ∧ meth.sig.returnType = ret ∧ s.vm.findClass own = some m.cls ∧ (∀ w ∈ Ts, w.before args s = true) ∧ meth.locks = false ∧ meth.name = nam
theorem sr_Ct.of {l : Launch} {y : MethodName} {cc : ByteArray} {maxL : Nat} {ret : Option FieldType} {wY ws' : List Cond} {rm : Room} {D : va_G} {tys : List (ClassId × FieldType)} {av : List Value} {wc : va_W} {ro : Option Value} {we : va_W}
    (hy : plainName y.cls = true) (hw : wY = Cond.code y cc maxL ret :: ws') (hav : (lg_sl av).length ≤ maxL)
    (body : ∀ (p : Program) (e : Env) (s : State) (m : MethodId) (below : List Frame) (meth : Method) (c : Code) (A : Nat → Prop) (ls : Array Slot), sr_cx p s m av.toArray meth c cc maxL ret y.cls y.name wY → (∀ q, s.heap.size ≤ q → A q) → va_K D vwCl tys s → sr_G D A wc s s.heap [] → lv_has ls maxL (lv_args 0 av) →
      W p l e rm s m av.toArray below meth c s.heap [] 0 0 (MQ below (sr_Q D tys A we (.inl ro) s.heap.size) av.toArray s rm.cells rm.slots A) (F0 m 0 ls [])) : sr_Ct l y wY rm D tys av wc ro we := by
  intro sz
  refine Met.ofW (cc := cc) (maxL := maxL) (ret := ret) hy hw ?_
  intro p e s m args below meth c s₁ B hml hv
  obtain ⟨rfl, hsz, hP, hK, hD0⟩ := hv
  subst hsz
  have hl := lv_entry av (n := maxL) hav
  rw [lg_entry_eq]
  exact body p e s m below meth c (va_A wc s.heap.size) _ ⟨B.exec, B.bytes, hml, B.returns, findClass_of_methodNamed B.named, atoms_spec (ws := wY) B.pre, B.notSynchronized, (name_of_methodNamed B.named B.method).1⟩ (fun q h => Or.inr h) hK ⟨hP, hD0.self, va_S.rf⟩ hl
section SR
variable {p : Program} {l : Launch} {e : Env} {R : Room} {s : State} {m : MethodId} {args : Array Value} {below : List Frame} {meth : Method} {c : Code} {H : Heap} {locs : List Loc} {cells slots : Nat} {Q : State → Prop}
variable {pc : Nat} {ls : Array Slot} {rest st0 : List Value} {A : Nat → Prop} {D : va_G} {tys : List (ClassId × FieldType)} {cc : ByteArray}
theorem sr_iret {ws : va_W} {v : Int32} {sz : Nat} (hx : p.tables.exec = Jvm.exec) (hb : c.code = cc) (hr : meth.sig.returnType = some .int) (hlocks : meth.locks = false) (hK : va_K D vwCl tys s) (G : sr_G D A ws s H locs) (hdg : decode cc pc = .ok (.ireturn, 1)) :
    W p l e R s m args below meth c H locs cells slots (MQ below (sr_Q D tys A ws (.inl (some (.int v))) sz) args s cells slots A) (F0 m pc ls [.int v]) :=
  W.iret hx hb hr (fun t ht hW => ⟨rfl, by rw [ht]; exact G.1, va_K.moved hW.alike hK, G.2.1, G.2.2.F ht⟩) G.2.2.2.2 hdg
theorem sr_zret {ws : va_W} {v : Int32} {sz : Nat} (hx : p.tables.exec = Jvm.exec) (hb : c.code = cc) (hr : meth.sig.returnType = some .boolean) (hlocks : meth.locks = false) (hK : va_K D vwCl tys s) (G : sr_G D A ws s H locs) (hn : narrow .boolean (.int v) = .int v) (hdg : decode cc pc = .ok (.ireturn, 1)) :
    W p l e R s m args below meth c H locs cells slots (MQ below (sr_Q D tys A ws (.inl (some (.int v))) sz) args s cells slots A) (F0 m pc ls [.int v]) :=
  W.zret hx hb hr hn (fun t ht hW => ⟨rfl, by rw [ht]; exact G.1, va_K.moved hW.alike hK, G.2.1, G.2.2.F ht⟩) G.2.2.2.2 hdg
theorem sr_aret {ws : va_W} {v : Nat} {C : String} {sz : Nat} (hx : p.tables.exec = Jvm.exec) (hb : c.code = cc) (hr : meth.sig.returnType = some (.object C)) (hlocks : meth.locks = false) (hK : va_K D vwCl tys s) (G : sr_G D A ws s H locs) (hdg : decode cc pc = .ok (.areturn, 1)) :
    W p l e R s m args below meth c H locs cells slots (MQ below (sr_Q D tys A ws (.inl (some (.ref v))) sz) args s cells slots A) (F0 m pc ls [.ref v]) :=
  W.aret hx hb hr (Or.inl ⟨_, rfl⟩) (Or.inr ⟨_, rfl⟩) (fun t ht hW => ⟨rfl, by rw [ht]; exact G.1, va_K.moved hW.alike hK, G.2.1, G.2.2.F ht⟩) G.2.2.2.2 hdg
theorem sr_vret {ws : va_W} {sz : Nat} (hx : p.tables.exec = Jvm.exec) (hb : c.code = cc) (hr : meth.sig.returnType = none) (hlocks : meth.locks = false) (hK : va_K D vwCl tys s) (G : sr_G D A ws s H locs) (hdg : decode cc pc = .ok (.return_, 1)) :
    W p l e R s m args below meth c H locs cells slots (MQ below (sr_Q D tys A ws (.inl none) sz) args s cells slots A) (F0 m pc ls []) :=
  W.vret hx hb hr (fun t ht hW => ⟨rfl, by rw [ht]; exact G.1, va_K.moved hW.alike hK, G.2.1, G.2.2.F ht⟩) G.2.2.2.2 hdg
/-- behind a call that returns: the callee's cells wc have become wc', the others wr are as they were; pm puts them back in order -/
theorem sr_after {mc ms : Nat} {wc wc' wr ws ws1 : va_W} {ro : Option Value} {a : Array Value} (hr : va_Run p l e R s m args below meth c H locs cells slots mc ms (F0 m pc ls st0) rest (sr_Q D tys (va_A wc H.size) wc' (.inl ro) H.size a) (va_A wc H.size)) (G : sr_G D A ws s H locs) (hA : ∀ q, s.heap.size ≤ q → A q)
    (isC isR pm : List Nat) (hC : isC.map (fun i => ws[i]?) = wc.map some) (hR : isR.map (fun i => ws[i]?) = wr.map some) (hn : va_nd isR = true) (hdis : ∀ i ∈ isR, i ∉ isC) (hpm : pm.map (fun i => (wr ++ wc')[i]?) = ws1.map some) (hpn : va_nd pm = true)
    (kk : ∀ (H1 : Heap) (locs1 : List Loc), sr_G D A ws1 s H1 locs1 → W p l e R s m args below meth c H1 locs1 (cells + mc) (slots + ms) Q (F0 m (pc + 3) ls (ro.toList ++ rest))) : W p l e R s m args below meth c H locs cells slots Q (F0 m pc ls st0) := by
  obtain ⟨hP, hD, hS⟩ := G
  have hF := va_free (wc := wc) hD hS hA isC hC
  intro T hT X
  obtain ⟨v, st₀, t, T', L, h0, X', hL, e1, e2, ⟨ho, hP1, -, hD1, hz, hk⟩, st⟩ := hr T hT X
  have hv : v = ro := by
    have h9 : Outcome.returned v = Outcome.returned ro := ho
    cases h9
    rfl
  subst hv
  rw [h0] at hz hk
  obtain ⟨hP2, hD2⟩ := va_join (w1 := wc') hP hD isC isR hC hR hn hdis hk hF hP1 hD1
  obtain ⟨t2, a1, b1⟩ := kk T'.heap (locs ++ L) ⟨by rw [e1]; exact hP2.sub pm (sr_fm hpm), hD2.sub pm hpn hpm, Nat.le_trans hS.1 (by rw [e1]; exact hz), fun q h1 h2 => by rw [e1, hk q (Nat.lt_of_lt_of_le h1 hS.1) (fun z => h2 (hF q z))]; exact hS.2.1 q h1 h2, fun q hq => by
      rcases List.mem_append.mp hq with h | h
      · exact hS.2.2 q h
      · exact hF _ (hL q h)⟩ T' rfl X'
  exact ⟨t2, st t2 a1, b1⟩
theorem sr_callV {y : MethodName} {bytes : ByteArray} {maxL nL n index : Nat} {ret : Option FieldType} {wY Ts : List Cond} {rm : Room} {own : String} {b : Nat} {As : List Value} {wc wc' wr ws ws1 : va_W} {ro : Option Value} {ci : Nat} {vc : vw_C} {fs : List Value}
    (S : CallFix p m c cc nL s args Ts own) (hM : sr_Ct l y wY rm D tys (.ref b :: As) wc ro wc') (cw : CallW R s args own vc.1 index y bytes maxL ret wY rm rm.cells rm.slots n) (hK : va_K D vwCl tys s) (G : sr_G D A ws s H locs) (hA : ∀ q, s.heap.size ≤ q → A q)
    (isC isR pm : List Nat) (hC : isC.map (fun i => ws[i]?) = wc.map some) (hcn : va_nd isC = true) (hR : isR.map (fun i => ws[i]?) = wr.map some) (hn : va_nd isR = true) (hdis : ∀ i ∈ isR, i ∉ isC) (hpm : pm.map (fun i => (wr ++ wc')[i]?) = ws1.map some) (hpn : va_nd pm = true)
    (q0 : Nat) (hci : vwCl[ci]? = some vc) (he : wc[q0]? = some (b, .inr (ci, fs))) (hlen : As.length = n) (hsize : ls.size = nL) (hst : st0 = As.reverse ++ .ref b :: rest) (hW : (rest.map fun v => v.category).sum ≤ 8) (hdg : decode cc pc = .ok (.invokevirtual index, 3)) (hf : cells + rm.cells ≤ R.cells ∧ slots + rm.slots ≤ R.slots)
    {st1 : List Value} (hst1 : ro.toList ++ rest = st1) (kk : ∀ (H1 : Heap) (locs1 : List Loc), sr_G D A ws1 s H1 locs1 → W p l e R s m args below meth c H1 locs1 (cells + rm.cells) (slots + rm.slots) Q (F0 m (pc + 3) ls st1)) : W p l e R s m args below meth c H locs cells slots Q (F0 m pc ls st0) := by
  subst hst1
  have hPc : va_P D vwCl wc H := G.1.sub isC (sr_fm hC)
  have hDc := G.2.1.sub isC hcn hC
  exact sr_after (va_runV (g := F0 m pc ls st0) (As := As) (rest := rest) (b := b) S (hM H.size) cw ⟨sr_P.blind, va_recv hK hPc hci he, fun U hU hW => ⟨rfl, by rw [hU], by rw [hU]; exact hPc, va_K.moved hW.alike hK, hDc.weaken (fun _ _ _ _ => trivial)⟩⟩ rfl hlen hsize hst (lv_room hW) hdg hf) G hA isC isR pm hC hR hn hdis hpm hpn kk
theorem sr_callVN {y : MethodName} {bytes : ByteArray} {maxL nL n index : Nat} {ret : Option FieldType} {wY Ts : List Cond} {rm : Room} {own host : String} {b : Nat} {As : List Value} {wc wc' wr ws ws1 : va_W} {ro : Option Value} {ci : Nat} {vc : vw_C} {fs : List Value}
    (S : CallFix p m c cc nL s args Ts own) (hM : sr_Ct l y wY rm D tys (.ref b :: As) wc ro wc') (cw : va_CN R s args own index y host bytes maxL ret wY rm rm.cells rm.slots n ∧ (Cond.instanceMethod y).before args s = true ∧ (Cond.selects vc.1 y y).before args s = true) (hK : va_K D vwCl tys s) (G : sr_G D A ws s H locs) (hA : ∀ q, s.heap.size ≤ q → A q)
    (isC isR pm : List Nat) (hC : isC.map (fun i => ws[i]?) = wc.map some) (hcn : va_nd isC = true) (hR : isR.map (fun i => ws[i]?) = wr.map some) (hn : va_nd isR = true) (hdis : ∀ i ∈ isR, i ∉ isC) (hpm : pm.map (fun i => (wr ++ wc')[i]?) = ws1.map some) (hpn : va_nd pm = true)
    (q0 : Nat) (hci : vwCl[ci]? = some vc) (he : wc[q0]? = some (b, .inr (ci, fs))) (hlen : As.length = n) (hsize : ls.size = nL) (hst : st0 = As.reverse ++ .ref b :: rest) (hW : (rest.map fun v => v.category).sum ≤ 8) (hdg : decode cc pc = .ok (.invokevirtual index, 3)) (hf : cells + rm.cells ≤ R.cells ∧ slots + rm.slots ≤ R.slots)
    {st1 : List Value} (hst1 : ro.toList ++ rest = st1) (kk : ∀ (H1 : Heap) (locs1 : List Loc), sr_G D A ws1 s H1 locs1 → W p l e R s m args below meth c H1 locs1 (cells + rm.cells) (slots + rm.slots) Q (F0 m (pc + 3) ls st1)) : W p l e R s m args below meth c H locs cells slots Q (F0 m pc ls st0) := by
  subst hst1
  have hPc : va_P D vwCl wc H := G.1.sub isC (sr_fm hC)
  have hDc := G.2.1.sub isC hcn hC
  exact sr_after (va_runVN (g := F0 m pc ls st0) (As := As) (rest := rest) (b := b) S (hM H.size) cw ⟨sr_P.blind, va_recv hK hPc hci he, fun U hU hW => ⟨rfl, by rw [hU], by rw [hU]; exact hPc, va_K.moved hW.alike hK, hDc.weaken (fun _ _ _ _ => trivial)⟩⟩ rfl hlen hsize hst (lv_room hW) hdg hf) G hA isC isR pm hC hR hn hdis hpm hpn kk
theorem sr_callS {y : MethodName} {bytes : ByteArray} {maxL nL n index : Nat} {ret : Option FieldType} {wY Ts : List Cond} {rm : Room} {own : String} {As : List Value} {wc wc' wr ws ws1 : va_W} {ro : Option Value}
    (S : CallFix p m c cc nL s args Ts own) (hM : sr_Ct l y wY rm D tys As wc ro wc') (cw : CallB R s args own index y bytes maxL ret wY rm rm.cells rm.slots n ∧ (Cond.static y).before args s = true) (hK : va_K D vwCl tys s) (G : sr_G D A ws s H locs) (hA : ∀ q, s.heap.size ≤ q → A q)
    (isC isR pm : List Nat) (hC : isC.map (fun i => ws[i]?) = wc.map some) (hcn : va_nd isC = true) (hR : isR.map (fun i => ws[i]?) = wr.map some) (hn : va_nd isR = true) (hdis : ∀ i ∈ isR, i ∉ isC) (hpm : pm.map (fun i => (wr ++ wc')[i]?) = ws1.map some) (hpn : va_nd pm = true)
    (hlen : As.length = n) (hsize : ls.size = nL) (hst : st0 = As.reverse ++ rest) (hW : (rest.map fun v => v.category).sum ≤ 8) (hdg : decode cc pc = .ok (.invokestatic index, 3)) (hf : cells + rm.cells ≤ R.cells ∧ slots + rm.slots ≤ R.slots)
    {st1 : List Value} (hst1 : ro.toList ++ rest = st1) (kk : ∀ (H1 : Heap) (locs1 : List Loc), sr_G D A ws1 s H1 locs1 → W p l e R s m args below meth c H1 locs1 (cells + rm.cells) (slots + rm.slots) Q (F0 m (pc + 3) ls st1)) : W p l e R s m args below meth c H locs cells slots Q (F0 m pc ls st0) := by
  subst hst1
  have hPc : va_P D vwCl wc H := G.1.sub isC (sr_fm hC)
  have hDc := G.2.1.sub isC hcn hC
  exact sr_after (va_runS (g := F0 m pc ls st0) (As := As) (rest := rest) S (hM H.size) cw ⟨sr_P.blind, fun U hU hW => ⟨rfl, by rw [hU], by rw [hU]; exact hPc, va_K.moved hW.alike hK, hDc.weaken (fun _ _ _ _ => trivial)⟩⟩ rfl hlen hsize hst (lv_room hW) hdg hf) G hA isC isR pm hC hR hn hdis hpm hpn kk
end SR
/-! words for calls -/
theorem sr_wy {args : Array Value} {s : State} {y : MethodName} {bytes : ByteArray} {maxL : Nat} {ret : Option FieldType} (hws : ∀ w ∈ sr_ws, w.before args s = true) (hc : Cond.code y bytes maxL ret ∈ sr_ws) : ∀ w ∈ sr_W y bytes maxL ret, ∀ (a' : Array Value) (U : State), s.WarmedH U.vm → w.before a' U = true := by
  intro w hw a' U hW
  have hw' : w ∈ sr_ws := by
    rcases List.mem_cons.mp hw with rfl | h
    · exact hc
    · exact h
  exact word_at hW (good_of_word (List.mem_filter.mp hw').2) (hws w hw')
theorem sr_len {y : MethodName} {n : Nat} (h : (parseMethodDescriptor y.desc).map (fun d => d.parameters.length) = some n) : ∀ sig, parseMethodDescriptor y.desc = some sig → n = sig.parameters.length := by
  intro sig hsig
  rw [hsig] at h
  exact (Option.some.inj h).symm
theorem sr_cB {R : Room} {s : State} {args : Array Value} {own : String} {index : Nat} {y : MethodName} {bytes : ByteArray} {maxL : Nat} {ret : Option FieldType} {rm : Room} (n : Nat) (hws : ∀ w ∈ sr_ws, w.before args s = true) (hc : Cond.code y bytes maxL ret ∈ sr_ws) (hi : Cond.initialized y.cls ∈ sr_ws) (hl : Cond.methodLink own index y ∈ sr_ws)
    (hd : y.cls ≠ "java/lang/invoke/MethodHandle" ∧ y.cls ≠ "java/lang/invoke/VarHandle" ∧ (parseMethodDescriptor y.desc).map (fun d => d.parameters.length) = some n) (hR : rm.frames + 1 ≤ R.frames ∧ 8 + (maxL + 11) + rm.locals ≤ R.locals) : CallB R s args own index y bytes maxL ret (sr_W y bytes maxL ret) rm rm.cells rm.slots n :=
  ⟨rfl, rfl, hR.1, hR.2, sr_wy hws hc, List.mem_cons_self, hws _ hc, hws _ hi, ⟨hd.1, hd.2.1⟩, sr_len hd.2.2, hws _ hl⟩
theorem sr_cN {R : Room} {s : State} {args : Array Value} {own host : String} {index : Nat} {y : MethodName} {bytes : ByteArray} {maxL : Nat} {ret : Option FieldType} {rm : Room} (n : Nat) (hws : ∀ w ∈ sr_ws, w.before args s = true) (hc : Cond.code y bytes maxL ret ∈ sr_ws) (hi : Cond.initialized y.cls ∈ sr_ws) (hl : (Cond.methodLinkNest own index y host).before args s = true)
    (hd : y.cls ≠ "java/lang/invoke/MethodHandle" ∧ y.cls ≠ "java/lang/invoke/VarHandle" ∧ (parseMethodDescriptor y.desc).map (fun d => d.parameters.length) = some n) (hR : rm.frames + 1 ≤ R.frames ∧ 8 + (maxL + 11) + rm.locals ≤ R.locals) : va_CN R s args own index y host bytes maxL ret (sr_W y bytes maxL ret) rm rm.cells rm.slots n :=
  ⟨⟨rfl, rfl, hR.1, hR.2, sr_wy hws hc, List.mem_cons_self⟩, hws _ hc, hws _ hi, ⟨hd.1, hd.2.1⟩, sr_len hd.2.2, hl⟩
theorem sr_ni {x k : Int32} {z : Int} (h : ¬ x = k) (hk : k.toInt = z) : ¬ x.toInt = z := fun q => h (Int32.toInt_inj.mp (q.trans hk.symm))
/-! constructors: cells come, at addresses u -/
def sr_Cx (l : Launch) (y : MethodName) (wY : List Cond) (rm : Room) (D : va_G) (tys : List (ClassId × FieldType)) (av : List Value) (ws : va_W) (S : Type) (ws' : S → va_W) : Prop :=
  ∀ sz : Nat, Met l y wY rm (sr_P D tys av ws sz) (fun a st o t => ∃ u : S, sr_Q D tys (va_A ws sz) (ws' u) (.inl none) sz a st o t) rm.cells rm.slots (va_A ws sz)
theorem sr_Cx.of {l : Launch} {y : MethodName} {cc : ByteArray} {maxL : Nat} {ret : Option FieldType} {wY ws' : List Cond} {rm : Room} {D : va_G} {tys : List (ClassId × FieldType)} {av : List Value} {wc : va_W} {S : Type} {we : S → va_W}
    (hy : plainName y.cls = true) (hw : wY = Cond.code y cc maxL ret :: ws') (hav : (lg_sl av).length ≤ maxL)
    (body : ∀ (p : Program) (e : Env) (s : State) (m : MethodId) (below : List Frame) (meth : Method) (c : Code) (A : Nat → Prop) (ls : Array Slot), sr_cx p s m av.toArray meth c cc maxL ret y.cls y.name wY → (∀ q, s.heap.size ≤ q → A q) → va_K D vwCl tys s → sr_G D A wc s s.heap [] → lv_has ls maxL (lv_args 0 av) →
      W p l e rm s m av.toArray below meth c s.heap [] 0 0 (MQ below (fun a st o t => ∃ u : S, sr_Q D tys A (we u) (.inl none) s.heap.size a st o t) av.toArray s rm.cells rm.slots A) (F0 m 0 ls [])) : sr_Cx l y wY rm D tys av wc S we := by
  intro sz
  refine Met.ofW (cc := cc) (maxL := maxL) (ret := ret) hy hw ?_
  intro p e s m args below meth c s₁ B hml hv
  obtain ⟨rfl, hsz, hP, hK, hD0⟩ := hv
  subst hsz
  have hl := lv_entry av (n := maxL) hav
  rw [lg_entry_eq]
  exact body p e s m below meth c (va_A wc s.heap.size) _ ⟨B.exec, B.bytes, hml, B.returns, findClass_of_methodNamed B.named, atoms_spec (ws := wY) B.pre, B.notSynchronized, (name_of_methodNamed B.named B.method).1⟩ (fun q h => Or.inr h) hK ⟨hP, hD0.self, va_S.rf⟩ hl
theorem sr_arr {D : va_G} {tys : List (ClassId × FieldType)} {s : State} {cI cA : ClassId} {ty : FieldType} (hp : va_RA s cI ty → va_RA s cA ty → cA = cI) (i : Nat) (hi : tys[i]? = some (cI, ty)) (hK : va_K D vwCl tys s) (hK1 : va_K D vwCl (tys ++ [(cA, ty)]) s) : cA = cI :=
  hp (hK.2 i _ hi).2 (hK1.2 tys.length (cA, ty) (by simp)).2
theorem sr_arrI {s : State} {cI cA : ClassId} (h1 : va_RA s cI .int) (h2 : va_RA s cA .int) : cA = cI := Option.some.inj (Eq.trans (Eq.symm h2) h1)
theorem sr_arrJ {s : State} {cI cA : ClassId} (h1 : va_RA s cI .long) (h2 : va_RA s cA .long) : cA = cI := Option.some.inj (Eq.trans (Eq.symm h2) h1)
theorem sr_arrZ {s : State} {cI cA : ClassId} (h1 : va_RA s cI .boolean) (h2 : va_RA s cA .boolean) : cA = cI := Option.some.inj (Eq.trans (Eq.symm h2) h1)
section SRX
variable {p : Program} {l : Launch} {e : Env} {R : Room} {s : State} {m : MethodId} {args : Array Value} {below : List Frame} {meth : Method} {c : Code} {H : Heap} {locs : List Loc} {cells slots : Nat} {Q : State → Prop}
variable {pc : Nat} {ls : Array Slot} {rest st0 : List Value} {A : Nat → Prop} {D : va_G} {tys : List (ClassId × FieldType)} {cc : ByteArray}
theorem sr_vretX {S : Type} {we : S → va_W} (u : S) {sz : Nat} (hx : p.tables.exec = Jvm.exec) (hb : c.code = cc) (hr : meth.sig.returnType = none) (hlocks : meth.locks = false) (hK : va_K D vwCl tys s) (G : sr_G D A (we u) s H locs) (hdg : decode cc pc = .ok (.return_, 1)) :
    W p l e R s m args below meth c H locs cells slots (MQ below (fun a st o t => ∃ u : S, sr_Q D tys A (we u) (.inl none) sz a st o t) args s cells slots A) (F0 m pc ls []) :=
  W.vret hx hb hr (fun t ht hW => ⟨u, rfl, by rw [ht]; exact G.1, va_K.moved hW.alike hK, G.2.1, G.2.2.F ht⟩) G.2.2.2.2 hdg
theorem sr_afterX {mc ms : Nat} {S : Type} {wc wr ws : va_W} {wc' ws1 : S → va_W} {a : Array Value} (hr : va_Run p l e R s m args below meth c H locs cells slots mc ms (F0 m pc ls st0) rest (fun st o t => ∃ u : S, sr_Q D tys (va_A wc H.size) (wc' u) (.inl none) H.size a st o t) (va_A wc H.size)) (G : sr_G D A ws s H locs) (hA : ∀ q, s.heap.size ≤ q → A q)
    (isC isR pm : List Nat) (hC : isC.map (fun i => ws[i]?) = wc.map some) (hR : isR.map (fun i => ws[i]?) = wr.map some) (hn : va_nd isR = true) (hdis : ∀ i ∈ isR, i ∉ isC) (hpm : ∀ u, pm.map (fun i => (wr ++ wc' u)[i]?) = (ws1 u).map some) (hpn : va_nd pm = true)
    (kk : ∀ (u : S) (H1 : Heap) (locs1 : List Loc), sr_G D A (ws1 u) s H1 locs1 → W p l e R s m args below meth c H1 locs1 (cells + mc) (slots + ms) Q (F0 m (pc + 3) ls rest)) : W p l e R s m args below meth c H locs cells slots Q (F0 m pc ls st0) := by
  obtain ⟨hP, hD, hS⟩ := G
  have hF := va_free (wc := wc) hD hS hA isC hC
  intro T hT X
  obtain ⟨v, st₀, t, T', L, h0, X', hL, e1, e2, ⟨u, ho, hP1, -, hD1, hz, hk⟩, st⟩ := hr T hT X
  have hv : v = none := by
    have h9 : Outcome.returned v = Outcome.returned none := ho
    cases h9
    rfl
  subst hv
  rw [h0] at hz hk
  obtain ⟨hP2, hD2⟩ := va_join (w1 := wc' u) hP hD isC isR hC hR hn hdis hk hF hP1 hD1
  obtain ⟨t2, a1, b1⟩ := kk u T'.heap (locs ++ L) ⟨by rw [e1]; exact hP2.sub pm (sr_fm (hpm u)), hD2.sub pm hpn (hpm u), Nat.le_trans hS.1 (by rw [e1]; exact hz), fun q h1 h2 => by rw [e1, hk q (Nat.lt_of_lt_of_le h1 hS.1) (fun z => h2 (hF q z))]; exact hS.2.1 q h1 h2, fun q hq => by
      rcases List.mem_append.mp hq with h | h
      · exact hS.2.2 q h
      · exact hF _ (hL q h)⟩ T' rfl X'
  exact ⟨t2, st t2 a1, b1⟩
theorem sr_callI {y : MethodName} {bytes : ByteArray} {maxL nL n index : Nat} {wY Ts : List Cond} {rm : Room} {own : String} {b : Nat} {As : List Value} {S : Type} {wc wr ws : va_W} {wc' ws1 : S → va_W}
    (S0 : CallFix p m c cc nL s args Ts own) (hM : sr_Cx l y wY rm D tys (.ref b :: As) wc S wc') (cw : CallB R s args own index y bytes maxL none wY rm rm.cells rm.slots n ∧ y.name = "<init>" ∧ (Cond.instanceMethod y).before args s = true) (hK : va_K D vwCl tys s) (G : sr_G D A ws s H locs) (hA : ∀ q, s.heap.size ≤ q → A q)
    (isC isR pm : List Nat) (hC : isC.map (fun i => ws[i]?) = wc.map some) (hcn : va_nd isC = true) (hR : isR.map (fun i => ws[i]?) = wr.map some) (hn : va_nd isR = true) (hdis : ∀ i ∈ isR, i ∉ isC) (hpm : ∀ u, pm.map (fun i => (wr ++ wc' u)[i]?) = (ws1 u).map some) (hpn : va_nd pm = true)
    (hlen : As.length = n) (hsize : ls.size = nL) (hst : st0 = As.reverse ++ .ref b :: rest) (hW : (rest.map fun v => v.category).sum ≤ 8) (hdg : decode cc pc = .ok (.invokespecial index, 3)) (hf : cells + rm.cells ≤ R.cells ∧ slots + rm.slots ≤ R.slots)
    (kk : ∀ (u : S) (H1 : Heap) (locs1 : List Loc), sr_G D A (ws1 u) s H1 locs1 → W p l e R s m args below meth c H1 locs1 (cells + rm.cells) (slots + rm.slots) Q (F0 m (pc + 3) ls rest)) : W p l e R s m args below meth c H locs cells slots Q (F0 m pc ls st0) := by
  have hPc : va_P D vwCl wc H := G.1.sub isC (sr_fm hC)
  have hDc := G.2.1.sub isC hcn hC
  exact sr_afterX (va_runI (g := F0 m pc ls st0) (As := As) (rest := rest) (b := b) S0 (hM H.size) cw ⟨sr_P.blind, fun U hU hW => ⟨rfl, by rw [hU], by rw [hU]; exact hPc, va_K.moved hW.alike hK, hDc.weaken (fun _ _ _ _ => trivial)⟩⟩ rfl hlen hsize hst (lv_room hW) hdg hf) G hA isC isR pm hC hR hn hdis hpm hpn kk
theorem sr_callIN {y : MethodName} {bytes : ByteArray} {maxL nL n index : Nat} {wY Ts : List Cond} {rm : Room} {own host : String} {b : Nat} {As : List Value} {S : Type} {wc wr ws : va_W} {wc' ws1 : S → va_W}
    (S0 : CallFix p m c cc nL s args Ts own) (hM : sr_Cx l y wY rm D tys (.ref b :: As) wc S wc') (cw : va_CN R s args own index y host bytes maxL none wY rm rm.cells rm.slots n ∧ y.name = "<init>" ∧ (Cond.instanceMethod y).before args s = true) (hK : va_K D vwCl tys s) (G : sr_G D A ws s H locs) (hA : ∀ q, s.heap.size ≤ q → A q)
    (isC isR pm : List Nat) (hC : isC.map (fun i => ws[i]?) = wc.map some) (hcn : va_nd isC = true) (hR : isR.map (fun i => ws[i]?) = wr.map some) (hn : va_nd isR = true) (hdis : ∀ i ∈ isR, i ∉ isC) (hpm : ∀ u, pm.map (fun i => (wr ++ wc' u)[i]?) = (ws1 u).map some) (hpn : va_nd pm = true)
    (hlen : As.length = n) (hsize : ls.size = nL) (hst : st0 = As.reverse ++ .ref b :: rest) (hW : (rest.map fun v => v.category).sum ≤ 8) (hdg : decode cc pc = .ok (.invokespecial index, 3)) (hf : cells + rm.cells ≤ R.cells ∧ slots + rm.slots ≤ R.slots)
    (kk : ∀ (u : S) (H1 : Heap) (locs1 : List Loc), sr_G D A (ws1 u) s H1 locs1 → W p l e R s m args below meth c H1 locs1 (cells + rm.cells) (slots + rm.slots) Q (F0 m (pc + 3) ls rest)) : W p l e R s m args below meth c H locs cells slots Q (F0 m pc ls st0) := by
  have hPc : va_P D vwCl wc H := G.1.sub isC (sr_fm hC)
  have hDc := G.2.1.sub isC hcn hC
  exact sr_afterX (va_runIN (g := F0 m pc ls st0) (As := As) (rest := rest) (b := b) S0 (hM H.size) cw ⟨sr_P.blind, fun U hU hW => ⟨rfl, by rw [hU], by rw [hU]; exact hPc, va_K.moved hW.alike hK, hDc.weaken (fun _ _ _ _ => trivial)⟩⟩ rfl hlen hsize hst (lv_room hW) hdg hf) G hA isC isR pm hC hR hn hdis hpm hpn kk
end SRX
