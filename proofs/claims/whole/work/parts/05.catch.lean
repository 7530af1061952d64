/-! A THROW; A CATCH -/
section SRU
variable {p : Program} {l : Launch} {e : Env} {R : Room} {s : State} {m : MethodId} {args : Array Value} {below : List Frame} {meth : Method} {c : Code} {H : Heap} {locs : List Loc} {cells slots : Nat} {Q : State → Prop} {T : State}
variable {pc : Nat} {ls : Array Slot} {rest st0 : List Value} {A : Nat → Prop} {D : va_G} {tys : List (ClassId × FieldType)} {cc : ByteArray}
abbrev sr_r1 : Cond := .isRef (.static Bundle.tN "UNASSIGNED_STACK" Bundle.steD)
abbrev sr_r3 : Cond := .laysStatic Bundle.tN "UNASSIGNED_STACK" Bundle.steD
abbrev sr_r4 : Cond := .laysStatic Bundle.tN "SUPPRESSED_SENTINEL" Bundle.listD
abbrev sr_r2 : Cond := .isRef (.static Bundle.tN "SUPPRESSED_SENTINEL" Bundle.listD)
/-- new C; dup; ldc text; C.<init>(String); athrow, in a method that has no world and no handler -/
theorem sr_throwS {own C tx : String} {names : List String} {inew iu ic q : Nat} (hx : p.tables.exec = Jvm.exec) (hb : c.code = cc) (hml : c.maxLocals = ls.size) (htr : e.platform.stackTraces = false) (hown : s.vm.findClass own = some m.cls) (hex : ∀ y ∈ c.exceptionTable.toList, ∀ q : Nat, covers y q = false) (hlocks : meth.locks = false)
    (hfit : Bundle.fit C = true) (hnames : ∀ n ∈ names, Bundle.fit n = true) (hat : ∀ w ∈ Bundle.ownAtoms own ic C names, w ∈ sr_ws ∨ w ∈ sr_dw ∨ w = sr_r1 ∨ w = sr_r2 ∨ w = sr_r3 ∨ w = sr_r4) (hws : ∀ w ∈ sr_ws, w.before args s = true) (hz : sr_z A s s.heap) (hcl : (Cond.classLink own inew C).before args s = true) (hini : (Cond.initialized C).before args s = true) (hS : vk_R own iu tx q s)
    (hK : va_K D vwCl tys s) (G : sr_G D A [] s H locs) (hA1 : ∀ q, A q → s.heap.size ≤ q) (hfr : names.length + 3 < R.frames) (hlo : 43 + 13 * (names.length + 1) ≤ R.locals) (hc1 : cells + 1 ≤ R.cells) (hs1 : slots + 6 ≤ R.slots)
    (d0 : decode cc pc = .ok (.new inew, 3)) (d3 : decode cc (pc + 3) = .ok (.dup, 1)) (d4 : decode cc (pc + 4) = .ok (.ldc iu, 2)) (d6 : decode cc (pc + 6) = .ok (.invokespecial ic, 3)) (d9 : decode cc (pc + 9) = .ok (.athrow, 1)) :
    W p l e R s m args below meth c H locs cells slots (sr_MQ below (sr_Q D tys A [] (.inr C) s.heap.size) args s (cells + 1) (slots + 6) A) (F0 m pc ls []) := by
  have hall : ∀ w ∈ Bundle.ownAtoms own ic C names, w.before args s = true := fun w hw => by
    rcases hat w hw with h | h | rfl | rfl | rfl | rfl
    · exact hws w h
    · have h2 := (List.mem_filter.mp h).2
      have h3 := hz.2.2.1 w h
      cases w <;> first | (exact va_Nw.use rfl h3) | (exact Bool.noConfusion h2)
    · exact sr_isRef hz.1.1
    · exact sr_isRef hz.2.1.1
    · exact hz.1.2.use
    · exact hz.2.1.2.use
  refine W.newc hx hb hown hcl (n := 6) (hall (.instantiable C 6) (by simp [Bundle.ownAtoms])) hini (g := F0 m pc ls []) rfl d0 hc1 hs1 ?_
  intro cC kC hfc hkC hkind hsz6
  refine W.eq (g2 := F0 m (pc + 3) ls [.ref H.size]) rfl ?_
  refine lv_dup hx hb d3 rfl ?_
  refine va_ldcS hx hb hown hS d4 ?_
  intro T hT X
  have hcell : T.heap[H.size]? = some (freshCell cC kC) := by rw [hT]; simp
  obtain ⟨U, hst, h1, h2, h3, h4, ce, h5, h6⟩ := X.ctorThrowS hx htr hown hfit hnames hall (fun y hy cell hc => absurd (Array.getElem?_eq_some_iff.mp hc).1 (Nat.not_lt.mpr (hA1 _ (G.2.2.2.2 y hy)))) (a := H.size) (cX := cC) (kX := kC) hfc hkC hcell G.2.2.1 (msg := .ref q) rfl (g := F0 m (pc + 6) ls [.ref q, .ref H.size, .ref H.size]) rfl hml.symm rfl rfl (rest := []) rfl (by rw [hb]; exact d6) (by rw [hb]; exact d9) (fun y hy => hex y hy _) hfr (by show 2 * 0 + (1 + 0) + (13 * (names.length + 1) + 42) ≤ R.locals; omega) hlocks
  refine ⟨U, hst, .threw H.size, h1, h2, ⟨⟨H.size, rfl, G.2.2.1, ce, h5, by rw [h6.vm]; rfl, by rw [h3.alike.findClass]; exact h6.cls⟩, fun k q h => by simp at h, va_K.moved h3.alike hK, ⟨fun i j p q h => by simp at h, fun k q h => by simp at h⟩, ?_⟩, locs, ⟨h3, h4⟩, G.2.2.2.2⟩
  refine ⟨h4.2.1, fun q hq hA' => ?_⟩
  have hc : s.heap[q]? = some s.heap[q] := Array.getElem?_eq_getElem hq
  rw [hc]
  exact Free.kept_of_same (keep := fun a => ¬ A a) h4 (fun x hx hk => hk (G.2.2.2.2 x hx)) q _ hA' hc
theorem sr_go_cold {f : JFrame} {a : Addr} {x : ExceptionTableEntry} {t : List ExceptionTableEntry} {cT : ClassId} {cell : Cell} {U : State} {Q : Handler → Pre} {E : CtlPost} {d : Bool} {acts : List Action} (hx : covers x f.pc = true) (h0 : x.catchType ≠ 0)
    (hl : U.vm.ClassLinks e.platform f.method.cls x.catchType cT) (hcell : U.heap[a]? = some cell) (hobj : ∀ k, cell.vm ≠ .statics k) (hk : ∃ k, (U.vm.noted f.method.cls x.catchType (.cls cT)).classes[cell.cls]? = some k) (hc : ∃ k, (U.vm.noted f.method.cls x.catchType (.cls cT)).classes[cT]? = some k)
    (hsz : (U.vm.noted f.method.cls x.catchType (.cls cT)).classes.size ≤ U.vm.classes.size) :
    wp (findHandler.go f a (x :: t)) Q E e d acts U ↔
      if (U.vm.noted f.method.cls x.catchType (.cls cT)).assignable cell.cls cT = true then Q (.found x.handlerPc) d acts (U.setVm (U.vm.noted f.method.cls x.catchType (.cls cT))) else wp (findHandler.go f a t) Q E e d acts (U.setVm (U.vm.noted f.method.cls x.catchType (.cls cT))) := by
  simp only [covers] at hx
  obtain ⟨ha, ht⟩ := (resolveClass_links e.toSetting hl).op (op := VmOp.resolveClass f.method.cls x.catchType) rfl
  generalize U.vm.noted f.method.cls x.catchType (.cls cT) = vm' at *
  cases hfit : vm'.assignable cell.cls cT <;>
    simp [findHandler.go, hx, h0, ha, ht, hsz, hcell, hobj, hk, hc, hfit, VmOp.dirties, VmOp.acts]
def sr_find (C : String) : List (Nat × String) → Option Nat
  | [] => none
  | q :: t => if q.2 = C then some q.1 else sr_find C t
/-- a table whose entries all cover the pc, with their handlers and classes -/
def sr_ents (args : Array Value) (s : State) (own C : String) (fpc : Nat) : List ExceptionTableEntry → List (Nat × String) → Prop
  | [], [] => True
  | y :: t, q :: u => (covers y fpc = true ∧ y.catchType ≠ 0 ∧ y.handlerPc = q.1 ∧ (Cond.classLink own y.catchType q.2).before args s = true ∧ (q.2 = C ∨ va_Nc C q.2 s)) ∧ sr_ents args s own C fpc t u
  | _, _ => False
theorem sr_search {own C : String} {f : JFrame} {x : Nat} {cell : Cell} (hpl : e.platform.magicAccessors = ({} : Platform).magicAccessors) (hown : s.vm.findClass own = some f.method.cls) (hC : s.vm.findClass C = some cell.cls) (hobj : cell.vm.isStatics = false) (hself : s.vm.assignable cell.cls cell.cls = true) :
    ∀ (es : List ExceptionTableEntry) (hn : List (Nat × String)), sr_ents args s own C f.pc es hn → ∀ (pcH : Nat), sr_find C hn = some pcH → ∀ vm : Vm, s.WarmedH vm → ∃ vm' : Vm, s.WarmedH vm' ∧
      ∀ (U : State) (Q : Handler → Pre) (E : CtlPost) (d : Bool) (acts : List Action), U.vm = vm → U.heap[x]? = some cell → (wp (findHandler.go f x es) Q E e d acts U ↔ Q (.found pcH) d acts (U.setVm vm'))
  | [], [], _, pcH, hf, _, _ => by cases hf
  | [], _ :: _, h, _, _, _, _ => h.elim
  | _ :: _, [], h, _, _, _, _ => h.elim
  | y :: es, q :: hn, h, pcH, hf, vm0, hW => by
    obtain ⟨⟨hx, h0, hpc, hlink, hor⟩, hrest⟩ := h
    obtain ⟨cT, hcT, hcl⟩ := Cond.classLink_spec hown hlink e.platform hpl
    obtain ⟨dk, _, _, kt, hd, _, _, _, _, hkt, _, hopen⟩ := hcl.here
    have hcl₀ := hW.classLinks hcl
    have hW1 : s.WarmedH (vm0.noted f.method.cls y.catchType (.cls cT)) := hW.noted hd hopen (State.rightAt_cls hcl)
    obtain ⟨kx, hkx⟩ := Vm.classAt_of_findClass hC
    obtain ⟨kx', hkx', -⟩ := hW1.alike.2.2 _ _ hkx
    obtain ⟨kt', hkt', -⟩ := hW1.alike.2.2 _ _ hkt
    have hsz : (vm0.noted f.method.cls y.catchType (.cls cT)).classes.size ≤ vm0.classes.size := by no_record
    by_cases hq : q.2 = C
    · have hcc : cT = cell.cls := by
        rw [hq] at hcT
        exact Option.some.inj (hcT.symm.trans hC)
      have hpp : pcH = q.1 := by
        unfold sr_find at hf
        rw [if_pos hq] at hf
        exact (Option.some.inj hf).symm
      refine ⟨_, hW1, fun U Q E d acts hU hc => ?_⟩
      subst hU
      rw [sr_go_cold hx h0 hcl₀ hc (VmData.noStatics_of hobj) ⟨kx', hkx'⟩ ⟨kt', hkt'⟩ hsz, if_pos (by rw [hW1.alike.assignable, hcc]; exact hself), hpc, hpp]
    · have hnc : va_Nc C q.2 s := hor.resolve_left hq
      have hf' : sr_find C hn = some pcH := by
        unfold sr_find at hf
        rw [if_neg hq] at hf
        exact hf
      obtain ⟨c0, t0, f1, f2, f3⟩ := hnc
      have e1 : c0 = cell.cls := Option.some.inj (f1.symm.trans hC)
      have e2 : t0 = cT := Option.some.inj (f2.symm.trans hcT)
      obtain ⟨vm', hW', hg⟩ := sr_search hpl hown hC hobj hself es hn hrest pcH hf' _ hW1
      refine ⟨vm', hW', fun U Q E d acts hU hc => ?_⟩
      subst hU
      rw [sr_go_cold hx h0 hcl₀ hc (VmData.noStatics_of hobj) ⟨kx', hkx'⟩ ⟨kt', hkt'⟩ hsz, if_neg (by rw [hW1.alike.assignable, ← e1, ← e2, f3]; decide)]
      exact hg (U.setVm (U.vm.noted f.method.cls y.catchType (.cls cT))) Q E d acts rfl hc
theorem sr_step {S : State} {a : Addr} {f : JFrame} {r : List Frame} {vm' : Vm} {pcH : Nat} (hfind : ∀ (Q : Handler → Pre) (E : CtlPost) (d : Bool) (acts : List Action), wp (findHandler f a) Q E e d acts S ↔ Q (.found pcH) d acts (S.setVm vm')) :
    (stepThrowing e S a (.java f :: r)).Is ((S.setVm vm').setFrames (.java { f with pc := pcH, stack := [.ref a] } :: r)) [] := by
  simp only [stepThrowing, searchFrame, vmDo]
  generalize hr : Sem.go _ e false [] S = res
  obtain ⟨as, rfl, ha⟩ := Sem.eq_ok_of hr (a := Handler.found pcH) (s' := S.setVm vm') (acts' := []) (by simp [hfind _ _ _ _])
  exact ⟨rfl, ha⟩
theorem sr_caught {tb : Tables} {g : JFrame} {a : Addr} {vm' : Vm} {pcH : Nat} {target : State} (h : At T g.method c below) (hfind : ∀ (Q : Handler → Pre) (E : CtlPost) (d : Bool) (acts : List Action), wp (findHandler g a) Q E e d acts ((T.setTop g).pushFrame (.throwing a)) ↔ Q (.found pcH) d acts (((T.setTop g).pushFrame (.throwing a)).setVm vm'))
    (hrest : Steps tb e below ((T.setVm vm').setTop { g with pc := pcH, stack := [.ref a] }) target) : Steps tb e below ((T.setTop g).pushFrame (.throwing a)) target := by
  obtain ⟨hgo, hw⟩ := h.throwing a
  refine Steps.head hgo hw ?_
  rw [stepThread_throwing (frames_entered h.top _), (sr_step hfind).1]
  obtain ⟨g₀, hg⟩ := Option.isSome_iff_exists.mp h.top
  obtain ⟨r, hr⟩ := State.topJava?_eq_some.mp hg
  have hr' : (T.setVm vm').frames = .java g₀ :: r := hr
  rw [State.setTop_of_frames _ hr'] at hrest
  rw [State.pushFrame, State.setTop_of_frames _ hr, State.setFrames_setFrames, hr]
  have e1 : ∀ A B : List Frame, ((T.setFrames A).setVm vm').setFrames B = (T.setVm vm').setFrames B := fun A B => by
    show ((T.setVm vm').setFrames A).setFrames B = _
    rw [State.setFrames_setFrames]
  rw [e1]
  exact hrest
theorem sr_WT.catch {own C : String} {hn : List (Nat × String)} {st : List Value} {x pcH : Nat} (hown : s.vm.findClass own = some m.cls) (hxo : sr_xo C x s H) (hself : va_Nw (.castable C C) s) (hents : sr_ents args s own C pc c.exceptionTable.toList hn) (hfind : sr_find C hn = some pcH)
    (kk : W p l e R s m args below meth c H locs cells slots Q (F0 m pcH ls [.ref x])) : sr_WT p l e R s m args below meth c H locs cells slots Q (F0 m pc ls st) x := by
  intro T hT X
  obtain ⟨cell, h1, h2, h3⟩ := hxo
  obtain ⟨c0, t0, f1, f2, f3⟩ := Cond.castable_spec (va_Nw.use (A := args) rfl hself)
  have e1 : c0 = cell.cls := Option.some.inj (f1.symm.trans h3)
  have e2 : t0 = cell.cls := Option.some.inj (f2.symm.trans h3)
  have hpl : e.platform.magicAccessors = ({} : Platform).magicAccessors := by rw [X.admits.platform]
  obtain ⟨vm', hW', hf⟩ := sr_search (f := F0 m pc ls st) (x := x) hpl hown h3 h2 (by rw [e1, e2] at f3; exact f3) _ _ hents pcH hfind T.vm X.warmed
  obtain ⟨t, a1, b1⟩ := kk (T.setVm vm') hT (X.noted hW')
  refine ⟨t, sr_caught (g := F0 m pc ls st) (vm' := vm') (pcH := pcH) X.here (fun Q E d acts => ?_) a1, b1⟩
  rw [W.findHandler_eq (meth := meth) (code := c) (by rw [Stand.throwing_vm]; exact X.method') X.code]
  exact hf _ Q E d acts (Stand.throwing_vm T _ x) (by rw [Stand.throwing_heap, hT]; exact h1)
end SRU

def sr_mk (q : Nat × Nat × Nat × Nat) : ExceptionTableEntry := ⟨q.1, q.2.1, q.2.2.1, q.2.2.2⟩
theorem sr_mk_of : ∀ {es : List ExceptionTableEntry} {hs : List (Nat × Nat × Nat × Nat)}, es.map (fun h => (h.startPc, h.endPc, h.handlerPc, h.catchType)) = hs → es = hs.map sr_mk
  | [], [], _ => rfl
  | [], _ :: _, h => by simp at h
  | _ :: _, [], h => by simp at h
  | y :: es, q :: hs, h => by
    simp only [List.map_cons, List.cons.injEq] at h
    rw [List.map_cons, ← sr_mk_of h.2, ← h.1]
    rfl
/-- a method with handlers: it returns; at the most one exception's cell is new -/
def sr_Wt (l : Launch) (y : MethodName) (wY : List Cond) (rm : Room) (D : va_G) (tys : List (ClassId × FieldType)) (av : List Value) (ws : va_W) (ro : Option Value) (ws' : va_W) : Prop :=
  ∀ sz : Nat, sr_Met l y wY rm 1 6 (sr_Pz D tys av ws sz) (sr_Q D tys (va_A ws sz) ws' (.inl ro) sz) (va_A ws sz)
theorem sr_Wt.of {l : Launch} {y : MethodName} {cc : ByteArray} {maxL : Nat} {ret : Option FieldType} {hs : List (Nat × Nat × Nat × Nat)} {wY ws' : List Cond} {rm : Room} {D : va_G} {tys : List (ClassId × FieldType)} {av : List Value} {wc : va_W} {ro : Option Value} {we : va_W}
    (hy : plainName y.cls = true) (hw : wY = Cond.codeWith y cc maxL ret hs :: ws') (hav : (lg_sl av).length ≤ maxL)
    (body : ∀ (p : Program) (e : Env) (s : State) (m : MethodId) (below : List Frame) (meth : Method) (c : Code) (A : Nat → Prop) (ls : Array Slot), sr_cx p s m av.toArray meth c cc maxL ret y.cls y.name wY → c.exceptionTable.toList = hs.map sr_mk → (∀ q, s.heap.size ≤ q → A q) → va_K D vwCl tys s → sr_z A s s.heap → sr_G D A wc s s.heap [] → lv_has ls maxL (lv_args 0 av) →
      W p l e rm s m av.toArray below meth c s.heap [] 0 0 (sr_MQ below (sr_Q D tys A we (.inl ro) s.heap.size) av.toArray s 1 6 A) (F0 m 0 ls [])) : sr_Wt l y wY rm D tys av wc ro we := by
  intro sz
  refine sr_Met.ofW (cc := cc) (maxL := maxL) (ret := ret) hy (fun args s m h hn => ?_) ?_
  · obtain ⟨m', meth, c, h0, h1, h2, h3, h4, -, h6, h7, -⟩ := Cond.codeWith_spec (h _ (by rw [hw]; exact List.mem_cons_self))
    cases hn.symm.trans h0
    exact ⟨meth, c, h1, h2, h3, h4, h6, h7⟩
  intro p e s m args below meth c s₁ B hml hv
  obtain ⟨rfl, hsz, hP, hK, hD0, hz⟩ := hv
  subst hsz
  have hl := lv_entry av (n := maxL) hav
  have hts := atoms_spec (ws := wY) B.pre
  obtain ⟨m', meth', c', g0, g1, g2, -, -, g5, -⟩ := Cond.codeWith_spec (hts _ (by rw [hw]; exact List.mem_cons_self))
  cases B.named.symm.trans g0
  cases B.method.symm.trans g1
  cases (Stand.of_body B).code.symm.trans g2
  rw [lg_entry_eq]
  exact body p e s m below meth c (va_A wc s.heap.size) _ ⟨B.exec, B.bytes, hml, B.returns, findClass_of_methodNamed B.named, hts, B.notSynchronized, (name_of_methodNamed B.named B.method).1⟩ (sr_mk_of g5) (fun q h => Or.inr h) hK (hz.world hP) ⟨hP, hD0.self, va_S.rf⟩ hl
theorem sr_ocC {z k : Nat} {C : String} (hk : z = k) (h : sr_oc z none = .inr C) : sr_oc k none = .inr C := hk ▸ h
section SRV
variable {p : Program} {l : Launch} {e : Env} {R : Room} {s : State} {m : MethodId} {args : Array Value} {below : List Frame} {meth : Method} {c : Code} {H : Heap} {locs : List Loc} {cells slots : Nat} {Q : State → Prop} {T : State}
variable {pc : Nat} {ls : Array Slot} {rest st0 : List Value} {A : Nat → Prop} {D : va_G} {tys : List (ClassId × FieldType)} {cc : ByteArray}
theorem sr_retW {ws : va_W} {ro : Option Value} {sz : Nat} {g : JFrame} (hc : cells ≤ 1) (hs : slots ≤ 6) (h : W p l e R s m args below meth c H locs 1 6 (MQ below (sr_Q D tys A ws (.inl ro) sz) args s 1 6 A) g) : W p l e R s m args below meth c H locs cells slots (sr_MQ below (sr_Q D tys A ws (.inl ro) sz) args s 1 6 A) g := W.widen hc hs (sr_W.imp (fun _ h => sr_MQ.of h) h)
theorem sr_runH {y : MethodName} {bytes : ByteArray} {maxL nL n index mc ms : Nat} {ret : Option FieldType} {hs : List (Nat × Nat × Nat × Nat)} {rm : Room} {Pc : Array Value → State → Prop} {Qc : Array Value → State → Outcome → State → Prop} {free : Addr → Prop} {own : String} {As : List Value} {g : JFrame}
    (hx : p.tables.exec = Jvm.exec) (hb : c.code = cc) (hml : c.maxLocals = nL) (ho : s.vm.findClass own = some m.cls) (hws : ∀ w ∈ sr_ws, w.before args s = true) (hM : sr_Met l y (sr_WH y bytes maxL ret hs) rm mc ms Pc Qc free) (hc : Cond.codeWith y bytes maxL ret hs ∈ sr_ws) (hi : Cond.initialized y.cls ∈ sr_ws) (hl : Cond.methodLink own index y ∈ sr_ws) (hst : Cond.static y ∈ sr_ws)
    (hd : y.cls ≠ "java/lang/invoke/MethodHandle" ∧ y.cls ≠ "java/lang/invoke/VarHandle" ∧ (parseMethodDescriptor y.desc).map (fun d => d.parameters.length) = some n) (hR : rm.frames + 1 ≤ R.frames ∧ 8 + (maxL + 11) + rm.locals ≤ R.locals) (hp : PreS s H Pc As)
    (hg : g.method = m) (hn : As.length = n) (hsize : g.locals.size = nL) (hstack : g.stack = As.reverse ++ rest) (hW : 2 * g.monitorRoom + (rest.map fun v => v.category).sum ≤ 8) (hdg : decode cc g.pc = .ok (.invokestatic index, 3)) (hf : cells + rm.cells ≤ R.cells ∧ slots + rm.slots ≤ R.slots) :
    sr_Run p l e R s m args below meth c H locs cells slots mc ms g rest (Qc As.toArray) free := by
  intro T hT X
  obtain ⟨mk, methM, cM, hnamed, hmethM, hcM, -, hlM, -, -, -, hsigM⟩ := Cond.codeWith_spec (hws _ hc)
  have hini := hws _ hi
  have hstatic : methM.isStatic = true := Cond.static_spec hnamed hmethM (hws _ hst)
  obtain ⟨kP, hkP, -⟩ := className_of_methodNamed hnamed
  have hinitP : kP.init = .initialized := Cond.initialized_spec (findClass_of_methodNamed hnamed) hkP hini
  obtain ⟨vm₁, X₁, hstep₁⟩ := X.invokestatic hx ho (hws _ hl) hnamed hmethM hstatic hkP hinitP ⟨hd.1, hd.2.1⟩ (g := g) hg (argsL := As) (rest := rest) (hn.trans (sr_len hd.2.2 _ hsigM)) hstack (by rw [hb]; exact hdg)
  have hall : ∀ w ∈ sr_WH y bytes maxL ret hs, w.before As.toArray (T.setVm vm₁) = true := fun w hw => by
    have hw' : w ∈ sr_ws := by
      rcases List.mem_cons.mp hw with rfl | h
      · exact hc
      · exact h
    exact word_at X₁.warmed (good_of_word (List.mem_filter.mp hw').2) (hws w hw')
  obtain ⟨o, t, T', L, X', hL, e1, e2, hq, r1, r2⟩ := sr_inv X₁ hM hp.1 hR.1 hR.2 hf.1 hf.2 (X₁.named hnamed) hall (by rw [X₁.warmed.alike.method?]; exact hmethM) hcM hlM (word_at X₁.warmed (Or.inl (by first | rfl | simp [Cond.onTables, Cond.keeps, Cond.steady])) hini) (hp.2 (T.setVm vm₁) hT X₁.warmed) (g := { g with stack := rest }) hg (hsize.trans hml.symm) (by rw [hb]; exact hdg) hW
  exact ⟨o, (T.setVm vm₁).calling { g with stack := rest } mk As.toArray, t, T', L, hT, X', hL, e1, e2, hq, fun v hv tg h => hstep₁ _ fun acts => by rw [doInvoke_state]; exact (r1 v hv).trans h, fun x hx tg h => hstep₁ _ fun acts => by rw [doInvoke_state]; exact (r2 x hx).trans h⟩
theorem sr_callH {y : MethodName} {bytes : ByteArray} {maxL nL n index : Nat} {ret : Option FieldType} {hs : List (Nat × Nat × Nat × Nat)} {rm : Room} {own : String} {As : List Value} {wc wc' wr ws ws1 : va_W} {ro : Option Value} {st1 : List Value}
    (hx : p.tables.exec = Jvm.exec) (hb : c.code = cc) (hml : c.maxLocals = nL) (ho : s.vm.findClass own = some m.cls) (hws : ∀ w ∈ sr_ws, w.before args s = true) (hM : sr_Wt l y (sr_WH y bytes maxL ret hs) rm D tys As wc ro wc') (hc : Cond.codeWith y bytes maxL ret hs ∈ sr_ws) (hi : Cond.initialized y.cls ∈ sr_ws) (hl : Cond.methodLink own index y ∈ sr_ws) (hstt : Cond.static y ∈ sr_ws)
    (hd : y.cls ≠ "java/lang/invoke/MethodHandle" ∧ y.cls ≠ "java/lang/invoke/VarHandle" ∧ (parseMethodDescriptor y.desc).map (fun d => d.parameters.length) = some n) (hR : rm.frames + 1 ≤ R.frames ∧ 8 + (maxL + 11) + rm.locals ≤ R.locals) (hK : va_K D vwCl tys s) (hz : sr_z A s s.heap) (G : sr_G D A ws s H locs) (hA : ∀ q, s.heap.size ≤ q → A q)
    (isC isR pm : List Nat) (hC : isC.map (fun i => ws[i]?) = wc.map some) (hcn : va_nd isC = true) (hRr : isR.map (fun i => ws[i]?) = wr.map some) (hn : va_nd isR = true) (hdis : ∀ i ∈ isR, i ∉ isC) (hpm : pm.map (fun i => (wr ++ wc')[i]?) = ws1.map some) (hpn : va_nd pm = true)
    (hlen : As.length = n) (hsize : ls.size = nL) (hst : st0 = As.reverse ++ rest) (hW : (rest.map fun v => v.category).sum ≤ 8) (hdg : decode cc pc = .ok (.invokestatic index, 3)) (hf : cells + rm.cells ≤ R.cells ∧ slots + rm.slots ≤ R.slots) (hst1 : ro.toList ++ rest = st1)
    (kk : ∀ (H1 : Heap) (locs1 : List Loc), sr_G D A ws1 s H1 locs1 → W p l e R s m args below meth c H1 locs1 (cells + 1) (slots + 6) Q (F0 m (pc + 3) ls st1)) : W p l e R s m args below meth c H locs cells slots Q (F0 m pc ls st0) := by
  subst hst1
  have hPc : va_P D vwCl wc H := G.1.sub isC (sr_fm hC)
  have hDc := G.2.1.sub isC hcn hC
  have hr := sr_runH (g := F0 m pc ls st0) (As := As) (rest := rest) (H := H) (locs := locs) (cells := cells) (slots := slots) (e := e) (below := below) (meth := meth) hx hb hml ho hws (hM H.size) hc hi hl hstt hd hR ⟨sr_Pz.blind, fun U hU hW => ⟨rfl, by rw [hU], by rw [hU]; exact hPc, va_K.moved hW.alike hK, hDc.weaken (fun _ _ _ _ => trivial), by rw [hU]; exact hz.at G.2.2 hW⟩⟩ rfl hlen hsize hst (lv_room hW) hdg hf
  obtain ⟨hP, hD, hS⟩ := G
  have hF := va_free (wc := wc) hD hS hA isC hC
  intro T hT X
  obtain ⟨o, st₀, t, T', L, h0, X', hL, e1, e2, ⟨ho, hP1, -, hD1, hz1, hk⟩, r1, r2⟩ := hr T hT X
  have ho : o = .returned ro := ho
  rw [h0] at hz1 hk
  obtain ⟨hP2, hD2⟩ := va_join (w1 := wc') hP hD isC isR hC hRr hn hdis hk hF hP1 hD1
  obtain ⟨t2, a1, b1⟩ := kk T'.heap (locs ++ L) ⟨by rw [e1]; exact hP2.sub pm (sr_fm hpm), hD2.sub pm hpn hpm, Nat.le_trans hS.1 (by rw [e1]; exact hz1), fun q h1 h2 => by rw [e1, hk q (Nat.lt_of_lt_of_le h1 hS.1) (fun z => h2 (hF q z))]; exact hS.2.1 q h1 h2, fun q hq => by
      rcases List.mem_append.mp hq with h | h
      · exact hS.2.2 q h
      · exact hF _ (hL q h)⟩ T' rfl X'
  exact ⟨t2, r1 ro ho t2 a1, b1⟩
end SRV
