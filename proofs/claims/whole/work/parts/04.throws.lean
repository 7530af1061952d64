/-! THROWS AND CATCHES -/
/-- words that stay, though the tables' own test doesn't say so -/
def sr_isd : Cond → Bool
  | .declares _ => true
  | .castable _ _ => true
  | _ => false
def sr_dw : List Cond := tables_1.filter sr_isd
theorem sr_dw.warm {s U : State} (hW : s.WarmedH U.vm) {w : Cond} (hw : w ∈ sr_dw) (h : va_Nw w s) : va_Nw w U := by
  have h2 := (List.mem_filter.mp hw).2
  cases w <;> first | (exact va_Nw.warmD hW h) | (exact va_Nw.warmC hW h) | (exact Bool.noConfusion h2)
abbrev sr_E1 : String := "java/lang/IllegalArgumentException"
abbrev sr_E2 : String := "java/lang/IndexOutOfBoundsException"
abbrev sr_E3 : String := "java/lang/IllegalStateException"
abbrev sr_E4 : String := "java/lang/UnsupportedOperationException"
def sr_strs : List (Nat × String) := [(195, "outside of the range"), (210, "no room"), (201, "a time of less than a minute"), (188, "unknown number"), (205, "not in this state"), (199, "a place below 0")]
def sr_ncs : List (String × String) := [(sr_E1, sr_E2), (sr_E1, sr_E3), (sr_E1, sr_E4), (sr_E2, sr_E1), (sr_E2, sr_E3), (sr_E2, sr_E4), (sr_E3, sr_E1), (sr_E3, sr_E2), (sr_E3, sr_E4), (sr_E4, sr_E1), (sr_E4, sr_E2), (sr_E4, sr_E3)]
/-- facts of the tables that stay: no class of the four is another one; the texts; declared, castable -/
def sr_zt (U : State) : Prop := (∀ w ∈ sr_dw, va_Nw w U) ∧ (∀ q ∈ sr_strs, ∃ a : Nat, vk_R "StationRows" q.1 q.2 a U) ∧ ∀ q ∈ sr_ncs, va_Nc q.1 q.2 U
theorem sr_zt.warm {s U : State} (hW : s.WarmedH U.vm) (h : sr_zt s) : sr_zt U := ⟨fun w hw => sr_dw.warm hW hw (h.1 w hw), fun q hq => (h.2.1 q hq).imp fun a ha => ha.warm hW, fun q hq => (h.2.2 q hq).moved hW.alike⟩
/-- a static is laid -/
def sr_L (C n d : String) (A : Nat → Prop) (U : State) (H : Heap) : Prop := ∃ (c : ClassId) (k : Class) (i : Nat) (f : Field) (a : Nat) (cell : Cell), U.vm.findClass C = some c ∧ U.fieldFound? C n d = some (c, k, i, f) ∧ f.isStatic = true ∧ k.statics = some a ∧ H[a]? = some cell ∧ cell.vm.isStatics = true ∧ cell.cls = c ∧ f.slot < cell.slots.size ∧ k.staticTypes[f.slot]? = some f.type ∧ ¬ A a
theorem sr_L.of {C n d : String} {A : Nat → Prop} {s : State} {args : Array Value} (h : (Cond.laysStatic C n d).before args s = true) (hA : ∀ a : Nat, a < s.heap.size → ¬ A a) : sr_L C n d A s s.heap := by
  obtain ⟨c, k, i, f, a, cell, h1, h2, h3, h4, h5, h6, h7, h8, h9⟩ := Cond.laysStatic_spec h
  exact ⟨c, k, i, f, a, cell, h1, h2, h3, h4, h5, h6, h7, h8, h9, hA a (Array.getElem?_eq_some_iff.mp h5).1⟩
theorem sr_L.use {C n d : String} {A : Nat → Prop} {s : State} {args : Array Value} (h : sr_L C n d A s s.heap) : (Cond.laysStatic C n d).before args s = true := by
  obtain ⟨c, k, i, f, a, cell, h1, h2, h3, h4, h5, h6, h7, h8, h9, -⟩ := h
  simp [Cond.before, Cond.holds, Cond.value, h1, h2, h3, h4, h5, h6, h7, h8, h9]
theorem sr_L.kept {C n d : String} {A : Nat → Prop} {U : State} {H H1 : Heap} (h : sr_L C n d A U H) (hq : ∀ a : Nat, a < H.size → ¬ A a → H1[a]? = H[a]?) : sr_L C n d A U H1 := by
  obtain ⟨c, k, i, f, a, cell, h1, h2, h3, h4, h5, h6, h7, h8, h9, hA⟩ := h
  exact ⟨c, k, i, f, a, cell, h1, h2, h3, h4, by rw [hq a (Array.getElem?_eq_some_iff.mp h5).1 hA]; exact h5, h6, h7, h8, h9, hA⟩
theorem sr_L.narrow {C n d : String} {A B : Nat → Prop} {U : State} {H : Heap} (h : sr_L C n d A U H) (hAB : ∀ q, B q → A q) : sr_L C n d B U H := by
  obtain ⟨c, k, i, f, a, cell, h1, h2, h3, h4, h5, h6, h7, h8, h9, hA⟩ := h
  exact ⟨c, k, i, f, a, cell, h1, h2, h3, h4, h5, h6, h7, h8, h9, fun z => hA (hAB a z)⟩
theorem sr_L.moved {C n d : String} {A : Nat → Prop} {u U : State} {H : Heap} (hvm : u.vm.Alike U.vm) (h : sr_L C n d A u H) : sr_L C n d A U H := by
  obtain ⟨c, k, i, f, a, cell, h1, h2, h3, h4, h5, h6, h7, h8, h9, hA⟩ := h
  obtain ⟨k', hi', he⟩ := State.fieldFound?_setVm hvm h2
  exact ⟨c, k', i, f, a, cell, by rw [hvm.findClass]; exact h1, hi', h3, by rw [he]; exact h4, h5, h6, h7, h8, by rw [he]; exact h9, hA⟩
def sr_ZL (C n d : String) (A : Nat → Prop) (U : State) (H : Heap) : Prop := va_Zq C n d A U H ∧ sr_L C n d A U H
/-- the two statics of Throwable that its constructor reads, and those facts -/
def sr_z (A : Nat → Prop) (U : State) (H : Heap) : Prop := sr_ZL Bundle.tN "UNASSIGNED_STACK" Bundle.steD A U H ∧ sr_ZL Bundle.tN "SUPPRESSED_SENTINEL" Bundle.listD A U H ∧ sr_zt U
theorem sr_vpc (cA : ClassId) (x : vp_A) : (vp_cell cA x).vm = .none := by
  obtain ⟨n, f⟩ := x
  rcases f with f | f | f | f | f <;> rfl
theorem sr_ns {D : va_G} {ws : va_W} {H : Heap} {a : Nat} {cell : Cell} (hP : va_P D vwCl ws H) (hc : H[a]? = some cell) (hs : cell.vm.isStatics = true) : ¬ va_A ws H.size a := by
  rintro (⟨k, e, hk⟩ | h)
  · have h1 := hP k _ hk
    cases e with
    | inl x =>
      have h2 : H[a]? = some (vp_cell x.1 x.2) := h1
      rw [hc] at h2
      rw [Option.some.inj h2, sr_vpc] at hs
      exact absurd hs (by simp [VmData.isStatics])
    | inr o =>
      obtain ⟨r, -, cell', h2, -, h3, -⟩ := h1
      have h2 : H[a]? = some cell' := h2
      rw [hc] at h2
      rw [Option.some.inj h2, h3] at hs
      exact absurd hs (by simp [VmData.isStatics])
  · have := (Array.getElem?_eq_some_iff.mp hc).1
    omega
theorem sr_Zw {D : va_G} {ws : va_W} {C n d : String} {v : Value} {U : State} {H : Heap} (hP : va_P D vwCl ws H) (h : va_Z C n d v (fun _ => False) U H) : va_Z C n d v (va_A ws H.size) U H := by
  obtain ⟨cf, kf, fi, f, a, cell, h1, h2, h3, h4, h5, h6, h7, -⟩ := h
  exact ⟨cf, kf, fi, f, a, cell, h1, h2, h3, h4, h5, h6, h7, sr_ns hP h5 h6⟩
theorem sr_Zqw {D : va_G} {ws : va_W} {C n d : String} {U : State} {H : Heap} (hP : va_P D vwCl ws H) (h : va_Zq C n d (fun _ => False) U H) : va_Zq C n d (va_A ws H.size) U H := by
  rcases h with h | ⟨t, h⟩
  · exact Or.inl (sr_Zw hP h)
  · exact Or.inr ⟨t, sr_Zw hP h⟩
theorem sr_ZLw {D : va_G} {ws : va_W} {C n d : String} {U : State} {H : Heap} (hP : va_P D vwCl ws H) (h : sr_ZL C n d (fun _ => False) U H) : sr_ZL C n d (va_A ws H.size) U H := by
  refine ⟨sr_Zqw hP h.1, ?_⟩
  obtain ⟨c, k, i, f, a, cell, h1, h2, h3, h4, h5, h6, h7, h8, h9, -⟩ := h.2
  exact ⟨c, k, i, f, a, cell, h1, h2, h3, h4, h5, h6, h7, h8, h9, sr_ns hP h5 h6⟩
theorem sr_ZL.at {C n d : String} {A : Nat → Prop} {s U : State} {H : Heap} {locs : List Loc} (h : sr_ZL C n d A s s.heap) (hS : va_S A s.heap H locs) (hvm : s.vm.Alike U.vm) : sr_ZL C n d (fun _ => False) U H :=
  ⟨((h.1.kept hS.2.1).narrow (fun _ q => q.elim)).moved hvm, ((h.2.kept hS.2.1).narrow (fun _ q => q.elim)).moved hvm⟩
theorem sr_z.world {D : va_G} {ws : va_W} {U : State} {H : Heap} (h : sr_z (fun _ => False) U H) (hP : va_P D vwCl ws H) : sr_z (va_A ws H.size) U H := ⟨sr_ZLw hP h.1, sr_ZLw hP h.2.1, h.2.2⟩
theorem sr_z.at {A : Nat → Prop} {s U : State} {H : Heap} {locs : List Loc} (h : sr_z A s s.heap) (hS : va_S A s.heap H locs) (hW : s.WarmedH U.vm) : sr_z (fun _ => False) U H :=
  ⟨h.1.at hS hW.alike, h.2.1.at hS hW.alike, h.2.2.warm hW⟩
theorem sr_isRefZ {C n d : String} {v : Value} {A : Nat → Prop} {s : State} {args : Array Value} (h : va_Z C n d v A s s.heap) (hv : v = .null ∨ ∃ t : Nat, v = .ref t) : (Cond.isRef (.static C n d)).before args s = true := by
  obtain ⟨cf, kf, fi, f, a, cell, h1, h2, h3, h4, h5, h6, h7, -⟩ := h
  have e : (Term.static C n d).eval args s none [] s = some v := by
    simp [Term.eval, State.fieldNamed?, h1, h2, h4, h5, h6, h7]
  rcases hv with rfl | ⟨t, rfl⟩ <;> simp [Cond.before, Cond.holds, Cond.value, e]
theorem sr_isRef {C n d : String} {A : Nat → Prop} {s : State} {args : Array Value} (h : va_Zq C n d A s s.heap) : (Cond.isRef (.static C n d)).before args s = true := by
  rcases h with h | ⟨t, h⟩
  · exact sr_isRefZ h (Or.inl rfl)
  · exact sr_isRefZ h (Or.inr ⟨t, rfl⟩)
def sr_E (st t : State) (L : List Loc) (k n : Nat) : Prop := st.WarmedH t.vm ∧ st.sameButNew ({ t with vm := st.vm } : State) L k n
def sr_Met (l : Launch) (y : MethodName) (ws : List Cond) (rm : Room) (mc ms : Nat) (Pc : Array Value → State → Prop) (Qc : Array Value → State → Outcome → State → Prop) (free : Addr → Prop) : Prop :=
  MetFree l y (headSpec ws rm) Pc (fun _ _ _ _ _ => True) (fun a st o t => Qc a st o t ∧ ∃ L, sr_E st t L mc ms ∧ ∀ q ∈ L, free q.base)
def sr_MQ (below : List Frame) (Qc : Array Value → State → Outcome → State → Prop) (a : Array Value) (s : State) (mc ms : Nat) (free : Addr → Prop) : State → Prop := fun t =>
  ∃ o, t.status = .running ∧ Ended t below o ∧ Qc a s o t ∧ ∃ L, sr_E s t L mc ms ∧ ∀ q ∈ L, free q.base
theorem sr_MQ.of {below : List Frame} {Qc : Array Value → State → Outcome → State → Prop} {a : Array Value} {s : State} {mc ms : Nat} {free : Addr → Prop} {t : State} (h : MQ below Qc a s mc ms free t) : sr_MQ below Qc a s mc ms free t := by
  obtain ⟨o, h1, h2, h3, L, h4, h5⟩ := h
  exact ⟨o, h1, h2, h3, L, h4.2, h5⟩
def sr_Pz (D : va_G) (tys : List (ClassId × FieldType)) (av : List Value) (ws : va_W) (sz : Nat) : Array Value → State → Prop := va_Pc av (fun U => U.heap.size = sz ∧ va_P D vwCl ws U.heap ∧ va_K D vwCl tys U ∧ va_D (fun _ => True) ws ∧ sr_z (fun _ => False) U U.heap)
theorem sr_Pz.blind {D : va_G} {tys : List (ClassId × FieldType)} {av : List Value} {ws : va_W} {sz : Nat} : FrameBlind (sr_Pz D tys av ws sz) := fun a U g mk q => by
  obtain ⟨q0, q1, qP, qK, qD, qz⟩ := q
  exact ⟨q0, q1, qP, va_K.moved (u := U) (U := U.calling g mk a) (Vm.Alike.refl U.vm) qK, qD, ⟨va_Zq.moved (u := U) (U := U.calling g mk a) (Vm.Alike.refl U.vm) qz.1.1, sr_L.moved (u := U) (U := U.calling g mk a) (Vm.Alike.refl U.vm) qz.1.2⟩, ⟨va_Zq.moved (u := U) (U := U.calling g mk a) (Vm.Alike.refl U.vm) qz.2.1.1, sr_L.moved (u := U) (U := U.calling g mk a) (Vm.Alike.refl U.vm) qz.2.1.2⟩, sr_zt.warm (U := U.calling g mk a) (State.WarmedH.refl U) qz.2.2⟩
/-- what is new behind it: nothing, or the exception's cell -/
def sr_gc (oc : sr_Oc) : Nat := match oc with
  | .inl _ => 0
  | .inr _ => 1
def sr_gs (oc : sr_Oc) : Nat := match oc with
  | .inl _ => 0
  | .inr _ => 6
/-- a method that returns or throws -/
def sr_Tt (l : Launch) (y : MethodName) (wY : List Cond) (rm : Room) (D : va_G) (tys : List (ClassId × FieldType)) (av : List Value) (ws : va_W) (oc : sr_Oc) (ws' : va_W) : Prop :=
  ∀ sz : Nat, sr_Met l y wY rm (sr_gc oc) (sr_gs oc) (sr_Pz D tys av ws sz) (sr_Q D tys (va_A ws sz) ws' oc sz) (va_A ws sz)
def sr_oc (k : Nat) (ro : Option Value) : sr_Oc := match k with
  | 0 => .inl ro
  | 1 => .inr "java/lang/IllegalArgumentException"
  | 2 => .inr "java/lang/IndexOutOfBoundsException"
  | 3 => .inr "java/lang/IllegalStateException"
  | _ => .inr "java/lang/UnsupportedOperationException"
theorem sr_Met.ofW {l : Launch} {y : MethodName} {ws : List Cond} {rm : Room} {mc ms : Nat} {Pc : Array Value → State → Prop} {Qc : Array Value → State → Outcome → State → Prop} {free : Addr → Prop} {cc : ByteArray} {maxL : Nat} {ret : Option FieldType}
    (hy : plainName y.cls = true) (hw : ∀ (args : Array Value) (s : State) (m : MethodId), (∀ w ∈ ws, w.before args s = true) → s.methodNamed? y = some m → ∃ meth c, s.vm.method? m = some meth ∧ meth.code = some c ∧ c.code = cc ∧ c.maxLocals = maxL ∧ meth.sig.returnType = ret ∧ meth.locks = false)
    (body : ∀ p e s m args below meth c s₁, BodyLoose p l y (headSpec ws rm) cc maxL ret e s m args below meth c s₁ → c.maxLocals = maxL → Pc args s →
      W p l e (headSpec ws rm).room s m args below meth c s.heap [] 0 0 (sr_MQ below Qc args s mc ms free) (entryFrame m args maxL)) : sr_Met l y ws rm mc ms Pc Qc free := by
  refine MetFree.of_bodyS (code := cc) (maxLocals := maxL) (ret := ret) hy ?_ ?_
  · intro args s m h hn
    exact hw args s m (atoms_spec (ws := ws) h) hn
  · intro p e s m args below meth c s₁ B hml hP _
    have hh0 : s₁.heap = s.heap := by rw [B.state]; rfl
    obtain ⟨t, a1, o, b1, b2, b3⟩ := body p e s m args below meth c s₁ B hml hP s₁ hh0 (Stand.of_body B)
    exact ⟨t, o, a1, b1, b2, ⟨b3.1, b3.2⟩⟩
theorem sr_codeW {y : MethodName} {cc : ByteArray} {maxL : Nat} {ret : Option FieldType} {ws ws' : List Cond} (hw : ws = Cond.code y cc maxL ret :: ws') (args : Array Value) (s : State) (m : MethodId) (h : ∀ w ∈ ws, w.before args s = true) (hn : s.methodNamed? y = some m) :
    ∃ meth c, s.vm.method? m = some meth ∧ meth.code = some c ∧ c.code = cc ∧ c.maxLocals = maxL ∧ meth.sig.returnType = ret ∧ meth.locks = false := by
  obtain ⟨meth, c, h1, h2, h3, h4, h5, h6, -, -⟩ := Cond.code_spec hn (h _ (by rw [hw]; exact List.mem_cons_self))
  exact ⟨meth, c, h1, h2, h3, h4, h5, h6⟩
theorem sr_Tt.of {l : Launch} {y : MethodName} {cc : ByteArray} {maxL : Nat} {ret : Option FieldType} {wY ws' : List Cond} {rm : Room} {D : va_G} {tys : List (ClassId × FieldType)} {av : List Value} {wc : va_W} {oc : sr_Oc} {we : va_W}
    (hy : plainName y.cls = true) (hw : wY = Cond.code y cc maxL ret :: ws') (hav : (lg_sl av).length ≤ maxL)
    (body : ∀ (p : Program) (e : Env) (s : State) (m : MethodId) (below : List Frame) (meth : Method) (c : Code) (A : Nat → Prop) (ls : Array Slot), l.admits e → sr_cx p s m av.toArray meth c cc maxL ret y.cls y.name wY → (∀ x ∈ c.exceptionTable.toList, ∀ q : Nat, covers x q = false) → (∀ q, s.heap.size ≤ q → A q) → (wc = [] → ∀ q, A q → s.heap.size ≤ q) → va_K D vwCl tys s → sr_z A s s.heap → sr_G D A wc s s.heap [] → lv_has ls maxL (lv_args 0 av) →
      W p l e rm s m av.toArray below meth c s.heap [] 0 0 (sr_MQ below (sr_Q D tys A we oc s.heap.size) av.toArray s (sr_gc oc) (sr_gs oc) A) (F0 m 0 ls [])) : sr_Tt l y wY rm D tys av wc oc we := by
  intro sz
  refine sr_Met.ofW (cc := cc) (maxL := maxL) (ret := ret) hy (sr_codeW hw) ?_
  intro p e s m args below meth c s₁ B hml hv
  obtain ⟨rfl, hsz, hP, hK, hD0, hz⟩ := hv
  subst hsz
  have hl := lv_entry av (n := maxL) hav
  have hts := atoms_spec (ws := wY) B.pre
  have hem : c.exceptionTable.isEmpty = true := B.noHandlers (hts _ (by rw [hw]; exact List.mem_cons_self))
  have hem2 : c.exceptionTable.toList = [] := by simpa [Array.isEmpty_iff] using hem
  rw [lg_entry_eq]
  exact body p e s m below meth c (va_A wc s.heap.size) _ B.admits ⟨B.exec, B.bytes, hml, B.returns, findClass_of_methodNamed B.named, hts, B.notSynchronized, (name_of_methodNamed B.named B.method).1⟩ (fun x hx => by rw [hem2] at hx; cases hx) (fun q h => Or.inr h) (fun hw0 q h => by
      subst hw0
      rcases h with ⟨k, e, h⟩ | h
      · simp at h
      · exact h) hK (hz.world hP) ⟨hP, hD0.self, va_S.rf⟩ hl
section SRT
variable {p : Program} {l : Launch} {e : Env} {R : Room} {s : State} {m : MethodId} {args : Array Value} {below : List Frame} {meth : Method} {c : Code} {H : Heap} {locs : List Loc} {cells slots : Nat} {Q : State → Prop} {T : State}
variable {pc : Nat} {ls : Array Slot} {rest st0 : List Value} {A : Nat → Prop} {D : va_G} {tys : List (ClassId × FieldType)} {cc : ByteArray}
theorem sr_W.imp {Q' : State → Prop} {g : JFrame} (h : ∀ t, Q t → Q' t) (k : W p l e R s m args below meth c H locs cells slots Q g) : W p l e R s m args below meth c H locs cells slots Q' g := by
  intro T hT X
  obtain ⟨t, a, b⟩ := k T hT X
  exact ⟨t, a, h t b⟩
/-- the machine with an exception x under way over the frame g -/
def sr_WT (p : Program) (l : Launch) (e : Env) (R : Room) (s : State) (m : MethodId) (args : Array Value) (below : List Frame) (meth : Method) (c : Code) (H : Heap) (locs : List Loc) (cells slots : Nat) (Q : State → Prop) (g : JFrame) (x : Nat) : Prop :=
  ∀ T : State, T.heap = H → Stand p l e R s m args below meth c T locs cells slots → ∃ t, Steps p.tables e below ((T.setTop g).pushFrame (.throwing x)) t ∧ Q t
theorem sr_WT.widen {k n : Nat} {g : JFrame} {x : Nat} (hk : cells ≤ k) (hn : slots ≤ n) (kk : sr_WT p l e R s m args below meth c H locs k n Q g x) : sr_WT p l e R s m args below meth c H locs cells slots Q g x :=
  fun T hT X => kk T hT (stand_widen X hk hn)
theorem sr_WT.leave {Qc : Array Value → State → Outcome → State → Prop} {free : Addr → Prop} {st : List Value} {x : Nat} (hex : ∀ y ∈ c.exceptionTable.toList, covers y pc = false) (hlocks : meth.locks = false) (hq : ∀ t : State, t.heap = H → s.WarmedH t.vm → Qc args s (.threw x) t) (hf : ∀ q ∈ locs, free q.base) :
    sr_WT p l e R s m args below meth c H locs cells slots (sr_MQ below Qc args s cells slots free) (F0 m pc ls st) x := by
  intro T hT X
  obtain ⟨st1, h1, h2, h3, h4⟩ := X.leaveThrown x (g := F0 m pc ls st) rfl rfl rfl hex hlocks
  exact ⟨_, st1, .threw x, h1, h2, hq _ hT h3, locs, ⟨h3, h4⟩, hf⟩
theorem sr_inv {y : MethodName} {ws : List Cond} {rm : Room} {Pc : Array Value → State → Prop} {Qc : Array Value → State → Outcome → State → Prop} {free : Addr → Prop} {maxL len Wt mc ms : Nat} (X : Stand p l e R s m args below meth c T locs cells slots) (hM : sr_Met l y ws rm mc ms Pc Qc free) (hbl : FrameBlind Pc)
    (hfr : rm.frames + 1 ≤ R.frames) (hlo : Wt + (maxL + 11) + rm.locals ≤ R.locals) (hcl : cells + rm.cells ≤ R.cells) (hsl : slots + rm.slots ≤ R.slots) {mk : MethodId} {a : Array Value} (hn : T.methodNamed? y = some mk) (hws : ∀ w ∈ ws, w.before a T = true) {methY : Method} {cY : Code} (hmY : T.vm.method? mk = some methY) (hcY : methY.code = some cY) (hlY : cY.maxLocals = maxL) (hini : (Cond.initialized y.cls).before a T = true) (hP : Pc a T)
    {g : JFrame} {ig : Instr} (hg : g.method = m) (hsize : g.locals.size = c.maxLocals) (hdg : decode c.code g.pc = .ok (ig, len)) (hW : 2 * g.monitorRoom + (g.stack.map fun v => v.category).sum ≤ Wt) :
    ∃ (o : Outcome) (t T' : State) (L : List Loc), Stand p l e R s m args below meth c T' (locs ++ L) (cells + mc) (slots + ms) ∧ (∀ q ∈ L, free q.base) ∧ T'.heap = t.heap ∧ T'.vm = t.vm ∧ Qc a (T.calling g mk a) o t ∧
      (∀ v, o = .returned v → Steps p.tables e below (doInvoke e (T.setTop g) [] mk a).1 (T'.setTop { g with pc := g.pc + len, stack := v.toList ++ g.stack })) ∧
      (∀ x, o = .threw x → Steps p.tables e below (doInvoke e (T.setTop g) [] mk a).1 ((T'.setTop g).pushFrame (.throwing x))) := by
  obtain ⟨kY, hkY, -⟩ := className_of_methodNamed hn
  have hinitY : kY.init = .initialized := Cond.initialized_spec (findClass_of_methodNamed hn) hkY hini
  have h : At T g.method c below := by rw [hg]; exact X.here
  have hlo' : Wt + (maxL + 11) + (headSpec ws rm).room.locals ≤ R.locals := hlo
  have happ : (headSpec ws rm).appliesLoose y e.platform (T.calling g mk a) = true :=
    Spec.appliesLoose_calling (g := g) h hdg hn hkY hinitY
      (X.room_calling (g := g) (R' := (headSpec ws rm).room) hsize hmY hcY hfr (by rw [hlY]; omega) hcl hsl) (atoms_intro hws)
  obtain ⟨mid, hmid⟩ := h.above
  have hfr2 : (T.setTop g).frames = (.java g :: mid) ++ below := by rw [State.frames_setTop' g h.top, hmid]; rfl
  obtain ⟨o, s₂, hsteps, -, hend, hq⟩ := Steps.callFree hM p X.admits X.cas X.clock (acts := []) hfr2 happ (hbl _ _ _ _ hP) trivial
  have hq' : Qc a (T.calling g mk a) o s₂ ∧ ∃ L, sr_E (T.calling g mk a) s₂ L mc ms ∧ ∀ q ∈ L, free q.base := hq
  rw [State.frames_setTop' g h.top] at hend
  obtain ⟨hq1, L, ⟨hW₂, e2, q2, q3, q4, q5, q6⟩, hL⟩ := hq'
  have e3 : s₂ = ({ (T.calling g mk a).setFrames s₂.frames with heap := s₂.heap, slotsUsed := s₂.slotsUsed } : State).setVm s₂.vm := by
    have : s₂ = ({ s₂ with vm := (T.calling g mk a).vm } : State).setVm s₂.vm := rfl
    rw [e2] at this
    exact this
  have hW' : T.WarmedH s₂.vm := hW₂
  obtain ⟨g₀, hg0⟩ := Option.isSome_iff_exists.mp h.top
  obtain ⟨r, hr⟩ := State.topJava?_eq_some.mp hg0
  have hr' : (({ T with heap := s₂.heap, slotsUsed := s₂.slotsUsed } : State).setVm s₂.vm).frames = .java g₀ :: r := hr
  have hsame : T.sameButNew ({ T with heap := s₂.heap, slotsUsed := s₂.slotsUsed } : State) L mc ms := by
    refine ⟨?_, q2, q3, q4, q5, q6⟩
    obtain ⟨t, ht, -⟩ := State.frames_cons hr
    show ({ T with heap := s₂.heap, slotsUsed := s₂.slotsUsed } : State) = { T.setFrames T.frames with heap := s₂.heap, slotsUsed := s₂.slotsUsed }
    rw [State.setFrames_self ht]
  subst hg
  refine ⟨o, s₂, (({ T with heap := s₂.heap, slotsUsed := s₂.slotsUsed } : State).setVm s₂.vm), L,
    ⟨X.admits, X.cas, X.clock, X.frames, X.room, X.hears, X.method, X.code, (X.here.setHeapUsed s₂.heap s₂.slotsUsed).setVm hW'.alike, X.tail, State.WarmedH.trans X.warmed hW', X.limits, X.bytes, X.same.trans (hsame.setVm s.vm)⟩, hL, rfl, rfl, hq1, ?_, ?_⟩
  · intro v hv
    subst hv
    obtain ⟨c₂, i₂, len₂, hc₂, hd₂, hf₂⟩ := hend
    have hcc : c₂ = c := by
      have h1 : s₂.code? g.method = T.code? g.method := by
        rw [State.code?_eq, State.code?_eq, hW'.alike.method?]
      exact Option.some.inj (hc₂.symm.trans (h1.trans h.code))
    subst hcc
    have hlen : len₂ = len := by rw [hdg] at hd₂; cases hd₂; rfl
    subst hlen
    have hs₂ : s₂ = (({ T with heap := s₂.heap, slotsUsed := s₂.slotsUsed } : State).setVm s₂.vm).setTop { g with pc := g.pc + len₂, stack := v.toList ++ g.stack } := by
      refine e3.trans ?_
      rw [hf₂, State.calling_eq h.top, State.setFrames_setFrames, State.setTop_of_frames _ hr', hr]
      rfl
    rw [← hs₂]
    exact hsteps
  · intro x hx
    subst hx
    have hf₂ : s₂.frames = .throwing x :: .java g :: T.frames.tail := hend
    have hs₂ : s₂ = ((({ T with heap := s₂.heap, slotsUsed := s₂.slotsUsed } : State).setVm s₂.vm).setTop g).pushFrame (.throwing x) := by
      refine e3.trans ?_
      rw [hf₂, State.calling_eq h.top, State.setFrames_setFrames, State.pushFrame, State.frames_setTop _ hr', State.setTop_of_frames _ hr', State.setFrames_setFrames, hr]
      rfl
    rw [← hs₂]
    exact hsteps
/-- a call that comes back or throws -/
def sr_Run (p : Program) (l : Launch) (e : Env) (R : Room) (s : State) (m : MethodId) (args : Array Value) (below : List Frame) (meth : Method) (c : Code) (H : Heap) (locs : List Loc) (cells slots mc ms : Nat) (g : JFrame) (rest : List Value) (Qa : State → Outcome → State → Prop) (free : Addr → Prop) : Prop :=
  ∀ T : State, T.heap = H → Stand p l e R s m args below meth c T locs cells slots → ∃ (o : Outcome) (st₀ t T' : State) (L : List Loc), st₀.heap = H ∧ Stand p l e R s m args below meth c T' (locs ++ L) (cells + mc) (slots + ms) ∧ (∀ q ∈ L, free q.base) ∧ T'.heap = t.heap ∧ T'.vm = t.vm ∧ Qa st₀ o t ∧
    (∀ v, o = .returned v → Goes p e below T g T' { g with pc := g.pc + 3, stack := v.toList ++ rest }) ∧
    (∀ x, o = .threw x → ∀ tg, Steps p.tables e below ((T'.setTop { g with stack := rest }).pushFrame (.throwing x)) tg → Steps p.tables e below (T.setTop g) tg)
theorem sr_runS {y : MethodName} {bytes : ByteArray} {maxL nL n index : Nat} {ret : Option FieldType} {wY : List Cond} {rm : Room} {Pc : Array Value → State → Prop} {Qc : Array Value → State → Outcome → State → Prop} {free : Addr → Prop} {Ts : List Cond} {own : String} {As : List Value} {g : JFrame} {mc ms : Nat}
    (S : CallFix p m c cc nL s args Ts own) (hM : sr_Met l y wY rm mc ms Pc Qc free) (cw : CallB R s args own index y bytes maxL ret wY rm rm.cells rm.slots n ∧ (Cond.static y).before args s = true) (hp : PreS s H Pc As)
    (hg : g.method = m) (hn : As.length = n) (hsize : g.locals.size = nL) (hstack : g.stack = As.reverse ++ rest) (hW : 2 * g.monitorRoom + (rest.map fun v => v.category).sum ≤ 8) (hdg : decode cc g.pc = .ok (.invokestatic index, 3)) (hf : cells + rm.cells ≤ R.cells ∧ slots + rm.slots ≤ R.slots) :
    sr_Run p l e R s m args below meth c H locs cells slots mc ms g rest (Qc As.toArray) free := by
  obtain ⟨⟨-, -, hfr, hlo, hws, -, hcode, hini, hy, hlen, hl⟩, hstt⟩ := cw
  obtain ⟨hx, hb, hml, ho, -⟩ := S
  intro T hT X
  obtain ⟨mk, hnamed⟩ := Cond.code_named hcode
  obtain ⟨methM, cM, hmethM, hcM, -, hlM, -, -, -, hsigM⟩ := Cond.code_spec hnamed hcode
  have hstatic : methM.isStatic = true := Cond.static_spec hnamed hmethM hstt
  obtain ⟨kP, hkP, -⟩ := className_of_methodNamed hnamed
  have hinitP : kP.init = .initialized := Cond.initialized_spec (findClass_of_methodNamed hnamed) hkP hini
  obtain ⟨vm₁, X₁, hstep₁⟩ := X.invokestatic hx ho hl hnamed hmethM hstatic hkP hinitP hy (g := g) hg (argsL := As) (rest := rest) (hn.trans (hlen _ hsigM)) hstack (by rw [hb]; exact hdg)
  obtain ⟨o, t, T', L, X', hL, e1, e2, hq, r1, r2⟩ := sr_inv X₁ hM hp.1 hfr hlo hf.1 hf.2 (X₁.named hnamed) (fun w hw => hws w hw _ _ X₁.warmed) (by rw [X₁.warmed.alike.method?]; exact hmethM) hcM hlM (word_at X₁.warmed (Or.inl (by first | rfl | simp [Cond.onTables, Cond.keeps, Cond.steady])) hini) (hp.2 (T.setVm vm₁) hT X₁.warmed) (g := { g with stack := rest }) hg (hsize.trans hml.symm) (by rw [hb]; exact hdg) hW
  exact ⟨o, (T.setVm vm₁).calling { g with stack := rest } mk As.toArray, t, T', L, hT, X', hL, e1, e2, hq, fun v hv tg h => hstep₁ _ fun acts => by rw [doInvoke_state]; exact (r1 v hv).trans h, fun x hx tg h => hstep₁ _ fun acts => by rw [doInvoke_state]; exact (r2 x hx).trans h⟩
theorem sr_runV {y : MethodName} {bytes : ByteArray} {maxL nL n index : Nat} {ret : Option FieldType} {wY : List Cond} {rm : Room} {Pc : Array Value → State → Prop} {Qc : Array Value → State → Outcome → State → Prop} {free : Addr → Prop} {Ts : List Cond} {own C : String} {b : Addr} {As : List Value} {g : JFrame} {mc ms : Nat}
    (S : CallFix p m c cc nL s args Ts own) (hM : sr_Met l y wY rm mc ms Pc Qc free) (cw : CallW R s args own C index y bytes maxL ret wY rm rm.cells rm.slots n) (hp : PreV s H C b Pc As)
    (hg : g.method = m) (hn : As.length = n) (hsize : g.locals.size = nL) (hstack : g.stack = As.reverse ++ .ref b :: rest) (hW : 2 * g.monitorRoom + (rest.map fun v => v.category).sum ≤ 8) (hdg : decode cc g.pc = .ok (.invokevirtual index, 3)) (hf : cells + rm.cells ≤ R.cells ∧ slots + rm.slots ≤ R.slots) :
    sr_Run p l e R s m args below meth c H locs cells slots mc ms g rest (Qc (Value.ref b :: As).toArray) free := by
  obtain ⟨⟨-, -, hfr, hlo, hws, -, hcode, hini, hy, hlen, hl⟩, hinst, hsel⟩ := cw
  obtain ⟨hx, hb, hml, ho, -⟩ := S
  obtain ⟨hbl, ⟨cellB, hcB, hoB, hclB⟩, hPc⟩ := hp
  intro T hT X
  obtain ⟨mk, methM, hnamed, hmethM, hstM, habM⟩ := Cond.instanceMethod_spec hinst
  obtain ⟨methM', cM, hmethM', hcM, -, hlM, -, -, -, hsigM⟩ := Cond.code_spec hnamed hcode
  cases hmethM.symm.trans hmethM'
  obtain ⟨c2, r2, m2, q1, q2, q3, q4, kP, hkP, hkPi⟩ := Cond.selects_spec hsel
  cases hclB.symm.trans q1
  cases (State.methodFound?_of_named hnamed hy).symm.trans q2
  cases hnamed.symm.trans q3
  have hselP : selectMethod e.platform s.vm cellB.cls mk = .method mk := by rw [Launch.admits_selectMethod X.admits]; exact q4
  obtain ⟨vm₁, X₁, hstep₁⟩ := X.invokevirtual hx ho hl hnamed hmethM hstM hkP hkPi hy (a := b) (cell := cellB) (by rw [hT]; exact hcB)
    (fun z h => by rw [h] at hoB; cases hoB) hselP hmethM habM hkP hkPi (g := g) hg (argsL := As) (rest := rest) (hn.trans (hlen _ hsigM)) hstack (by rw [hb]; exact hdg)
  obtain ⟨o, t, T', L, X', hL, e1, e2, hq, r1, r2⟩ := sr_inv X₁ hM hbl hfr hlo hf.1 hf.2 (X₁.named hnamed) (fun w hw => hws w hw _ _ X₁.warmed) (by rw [X₁.warmed.alike.method?]; exact hmethM) hcM hlM (word_at X₁.warmed (Or.inl (by first | rfl | simp [Cond.onTables, Cond.keeps, Cond.steady])) hini) (hPc (T.setVm vm₁) hT X₁.warmed) (g := { g with stack := rest }) hg (hsize.trans hml.symm) (by rw [hb]; exact hdg) hW
  exact ⟨o, (T.setVm vm₁).calling { g with stack := rest } mk (Value.ref b :: As).toArray, t, T', L, hT, X', hL, e1, e2, hq, fun v hv tg h => hstep₁ _ fun acts => by rw [doInvoke_state]; exact (r1 v hv).trans h, fun x hx tg h => hstep₁ _ fun acts => by rw [doInvoke_state]; exact (r2 x hx).trans h⟩
theorem sr_afterT {wc wc' wr ws ws1 : va_W} {oc : sr_Oc} {a : Array Value} (hr : sr_Run p l e R s m args below meth c H locs cells slots (sr_gc oc) (sr_gs oc) (F0 m pc ls st0) rest (sr_Q D tys (va_A wc H.size) wc' oc H.size a) (va_A wc H.size)) (G : sr_G D A ws s H locs) (hA : ∀ q, s.heap.size ≤ q → A q)
    (isC isR pm : List Nat) (hC : isC.map (fun i => ws[i]?) = wc.map some) (hR : isR.map (fun i => ws[i]?) = wr.map some) (hn : va_nd isR = true) (hdis : ∀ i ∈ isR, i ∉ isC) (hpm : pm.map (fun i => (wr ++ wc')[i]?) = ws1.map some) (hpn : va_nd pm = true)
    (k0 : ∀ (ro : Option Value), oc = .inl ro → ∀ (H1 : Heap) (locs1 : List Loc), sr_G D A ws1 s H1 locs1 → W p l e R s m args below meth c H1 locs1 cells slots Q (F0 m (pc + 3) ls (ro.toList ++ rest)))
    (k1 : ∀ (C : String), oc = .inr C → ∀ (x : Nat) (H1 : Heap) (locs1 : List Loc), sr_G D A ws1 s H1 locs1 → s.heap.size ≤ x → sr_xo C x s H1 → sr_WT p l e R s m args below meth c H1 locs1 (cells + 1) (slots + 6) Q (F0 m pc ls rest) x) : W p l e R s m args below meth c H locs cells slots Q (F0 m pc ls st0) := by
  obtain ⟨hP, hD, hS⟩ := G
  have hF := va_free (wc := wc) hD hS hA isC hC
  intro T hT X
  obtain ⟨o, st₀, t, T', L, h0, X', hL, e1, e2, ⟨ho, hP1, -, hD1, hz, hk⟩, r1, r2⟩ := hr T hT X
  rw [h0] at hz hk
  obtain ⟨hP2, hD2⟩ := va_join (w1 := wc') hP hD isC isR hC hR hn hdis hk hF hP1 hD1
  have G1 : sr_G D A ws1 s T'.heap (locs ++ L) := ⟨by rw [e1]; exact hP2.sub pm (sr_fm hpm), hD2.sub pm hpn hpm, Nat.le_trans hS.1 (by rw [e1]; exact hz), fun q h1 h2 => by rw [e1, hk q (Nat.lt_of_lt_of_le h1 hS.1) (fun z => h2 (hF q z))]; exact hS.2.1 q h1 h2, fun q hq => by
      rcases List.mem_append.mp hq with h | h
      · exact hS.2.2 q h
      · exact hF _ (hL q h)⟩
  cases oc with
  | inl ro =>
    have ho : o = .returned ro := ho
    obtain ⟨t2, a1, b1⟩ := k0 ro rfl T'.heap (locs ++ L) G1 T' rfl X'
    exact ⟨t2, r1 ro ho t2 a1, b1⟩
  | inr C =>
    obtain ⟨x, hx, hsz, cell, hc1, hc2, hc3⟩ := ho
    have hvm : s.vm.Alike t.vm := by rw [← e2]; exact X'.warmed.alike
    obtain ⟨t2, a1, b1⟩ := k1 C rfl x T'.heap (locs ++ L) G1 (Nat.le_trans hS.1 hsz) ⟨cell, by rw [e1]; exact hc1, hc2, by rw [← hvm.findClass]; exact hc3⟩ T' rfl X'
    exact ⟨t2, r2 x hx t2 a1, b1⟩
theorem sr_nz {z : Nat} {C : String} (h : sr_oc z none = .inr C) : ¬ z = 0 := by
  rintro rfl
  cases h
theorem sr_ocr {z : Nat} {ro : Option Value} {C : String} (h : sr_oc z none = .inr C) : sr_oc z ro = .inr C := by
  match z, h with
  | 0, h => cases h
  | 1, h => exact h
  | 2, h => exact h
  | 3, h => exact h
  | _ + 4, h => exact h
theorem sr_ocl {z : Nat} {ro ro' : Option Value} (h : sr_oc z ro = .inl ro') : z = 0 ∧ ro' = ro := by
  match z, h with
  | 0, h => cases h; exact ⟨rfl, rfl⟩
  | 1, h => cases h
  | 2, h => cases h
  | 3, h => cases h
  | _ + 4, h => cases h
theorem sr_ocn {z : Nat} {ro : Option Value} {C : String} (h : sr_oc z ro = .inr C) : sr_oc z none = .inr C := by
  match z, h with
  | 0, h => cases h
  | 1, h => exact h
  | 2, h => exact h
  | 3, h => exact h
  | _ + 4, h => exact h
theorem sr_retT {ws : va_W} {ro : Option Value} {sz : Nat} {g : JFrame} (h : W p l e R s m args below meth c H locs 0 0 (MQ below (sr_Q D tys A ws (.inl ro) sz) args s 0 0 A) g) : W p l e R s m args below meth c H locs 0 0 (sr_MQ below (sr_Q D tys A ws (.inl ro) sz) args s 0 0 A) g := sr_W.imp (fun _ h => sr_MQ.of h) h
theorem sr_leaveT {ws : va_W} {oc : sr_Oc} {C : String} {x : Nat} {st : List Value} (hex : ∀ y ∈ c.exceptionTable.toList, ∀ q : Nat, covers y q = false) (hlocks : meth.locks = false) (hK : va_K D vwCl tys s) (G : sr_G D A ws s H locs) (hsz : s.heap.size ≤ x) (hx : sr_xo C x s H) (hoc : oc = .inr C) :
    sr_WT p l e R s m args below meth c H locs (0 + 1) (0 + 6) (sr_MQ below (sr_Q D tys A ws oc s.heap.size) args s (sr_gc oc) (sr_gs oc) A) (F0 m pc ls st) x := by
  subst hoc
  exact sr_WT.leave (fun y hy => hex y hy _) hlocks (fun t ht hW => ⟨⟨x, rfl, hsz, by
    obtain ⟨cell, h1, h2, h3⟩ := hx
    exact ⟨cell, by rw [ht]; exact h1, h2, by rw [hW.alike.findClass]; exact h3⟩⟩, by rw [ht]; exact G.1, va_K.moved hW.alike hK, G.2.1, G.2.2.F ht⟩) G.2.2.2.2
theorem sr_callTS {y : MethodName} {bytes : ByteArray} {maxL nL n index : Nat} {ret : Option FieldType} {wY Ts : List Cond} {rm : Room} {own : String} {As : List Value} {wc wc' wr ws ws1 : va_W} {z : Nat} {ro : Option Value} {st1 : List Value}
    (S : CallFix p m c cc nL s args Ts own) (hM : sr_Tt l y wY rm D tys As wc (sr_oc z ro) wc') (cw : CallB R s args own index y bytes maxL ret wY rm rm.cells rm.slots n ∧ (Cond.static y).before args s = true) (hK : va_K D vwCl tys s) (hz : sr_z A s s.heap) (G : sr_G D A ws s H locs) (hA : ∀ q, s.heap.size ≤ q → A q)
    (isC isR pm : List Nat) (hC : isC.map (fun i => ws[i]?) = wc.map some) (hcn : va_nd isC = true) (hR : isR.map (fun i => ws[i]?) = wr.map some) (hn : va_nd isR = true) (hdis : ∀ i ∈ isR, i ∉ isC) (hpm : pm.map (fun i => (wr ++ wc')[i]?) = ws1.map some) (hpn : va_nd pm = true)
    (hlen : As.length = n) (hsize : ls.size = nL) (hst : st0 = As.reverse ++ rest) (hW : (rest.map fun v => v.category).sum ≤ 8) (hdg : decode cc pc = .ok (.invokestatic index, 3)) (hf : cells + rm.cells ≤ R.cells ∧ slots + rm.slots ≤ R.slots) (hst1 : ro.toList ++ rest = st1)
    (k1 : ∀ (C : String), sr_oc z none = .inr C → ∀ (x : Nat) (H1 : Heap) (locs1 : List Loc), sr_G D A ws1 s H1 locs1 → s.heap.size ≤ x → sr_xo C x s H1 → sr_WT p l e R s m args below meth c H1 locs1 (cells + 1) (slots + 6) Q (F0 m pc ls rest) x)
    (k0 : z = 0 → ∀ (H1 : Heap) (locs1 : List Loc), sr_G D A ws1 s H1 locs1 → W p l e R s m args below meth c H1 locs1 cells slots Q (F0 m (pc + 3) ls st1)) : W p l e R s m args below meth c H locs cells slots Q (F0 m pc ls st0) := by
  subst hst1
  have hPc : va_P D vwCl wc H := G.1.sub isC (sr_fm hC)
  have hDc := G.2.1.sub isC hcn hC
  exact sr_afterT (sr_runS (g := F0 m pc ls st0) (As := As) (rest := rest) S (hM H.size) cw ⟨sr_Pz.blind, fun U hU hW => ⟨rfl, by rw [hU], by rw [hU]; exact hPc, va_K.moved hW.alike hK, hDc.weaken (fun _ _ _ _ => trivial), by rw [hU]; exact hz.at G.2.2 hW⟩⟩ rfl hlen hsize hst (lv_room hW) hdg hf) G hA isC isR pm hC hR hn hdis hpm hpn
    (fun ro' h H1 locs1 G1 => by
      obtain ⟨h1, h2⟩ := sr_ocl h
      subst h2
      exact k0 h1 H1 locs1 G1) (fun C h => k1 C (sr_ocn h))
theorem sr_callTV {y : MethodName} {bytes : ByteArray} {maxL nL n index : Nat} {ret : Option FieldType} {wY Ts : List Cond} {rm : Room} {own : String} {b : Nat} {As : List Value} {wc wc' wr ws ws1 : va_W} {z : Nat} {ro : Option Value} {st1 : List Value} {ci : Nat} {vc : vw_C} {fs : List Value}
    (S : CallFix p m c cc nL s args Ts own) (hM : sr_Tt l y wY rm D tys (.ref b :: As) wc (sr_oc z ro) wc') (cw : CallW R s args own vc.1 index y bytes maxL ret wY rm rm.cells rm.slots n) (hK : va_K D vwCl tys s) (hz : sr_z A s s.heap) (G : sr_G D A ws s H locs) (hA : ∀ q, s.heap.size ≤ q → A q)
    (isC isR pm : List Nat) (hC : isC.map (fun i => ws[i]?) = wc.map some) (hcn : va_nd isC = true) (hR : isR.map (fun i => ws[i]?) = wr.map some) (hn : va_nd isR = true) (hdis : ∀ i ∈ isR, i ∉ isC) (hpm : pm.map (fun i => (wr ++ wc')[i]?) = ws1.map some) (hpn : va_nd pm = true)
    (q0 : Nat) (hci : vwCl[ci]? = some vc) (he : wc[q0]? = some (b, .inr (ci, fs))) (hlen : As.length = n) (hsize : ls.size = nL) (hst : st0 = As.reverse ++ .ref b :: rest) (hW : (rest.map fun v => v.category).sum ≤ 8) (hdg : decode cc pc = .ok (.invokevirtual index, 3)) (hf : cells + rm.cells ≤ R.cells ∧ slots + rm.slots ≤ R.slots) (hst1 : ro.toList ++ rest = st1)
    (k1 : ∀ (C : String), sr_oc z none = .inr C → ∀ (x : Nat) (H1 : Heap) (locs1 : List Loc), sr_G D A ws1 s H1 locs1 → s.heap.size ≤ x → sr_xo C x s H1 → sr_WT p l e R s m args below meth c H1 locs1 (cells + 1) (slots + 6) Q (F0 m pc ls rest) x)
    (k0 : z = 0 → ∀ (H1 : Heap) (locs1 : List Loc), sr_G D A ws1 s H1 locs1 → W p l e R s m args below meth c H1 locs1 cells slots Q (F0 m (pc + 3) ls st1)) : W p l e R s m args below meth c H locs cells slots Q (F0 m pc ls st0) := by
  subst hst1
  have hPc : va_P D vwCl wc H := G.1.sub isC (sr_fm hC)
  have hDc := G.2.1.sub isC hcn hC
  exact sr_afterT (sr_runV (g := F0 m pc ls st0) (As := As) (rest := rest) (b := b) S (hM H.size) cw ⟨sr_Pz.blind, va_recv hK hPc hci he, fun U hU hW => ⟨rfl, by rw [hU], by rw [hU]; exact hPc, va_K.moved hW.alike hK, hDc.weaken (fun _ _ _ _ => trivial), by rw [hU]; exact hz.at G.2.2 hW⟩⟩ rfl hlen hsize hst (lv_room hW) hdg hf) G hA isC isR pm hC hR hn hdis hpm hpn
    (fun ro' h H1 locs1 G1 => by
      obtain ⟨h1, h2⟩ := sr_ocl h
      subst h2
      exact k0 h1 H1 locs1 G1) (fun C h => k1 C (sr_ocn h))
end SRT
