/-! A THROW; A CATCH -/
section SRU
variable {p : Program} {l : Launch} {e : Env} {R : Room} {s : State} {m : MethodId} {args : Array Value} {below : List Frame} {meth : Method} {c : Code} {H : Heap} {locs : List Loc} {cells slots : Nat} {Q : State → Prop} {T : State}
variable {pc : Nat} {ls : Array Slot} {rest st0 : List Value} {A : Nat → Prop} {D : va_G} {tys : List (ClassId × FieldType)} {cc : ByteArray}
abbrev sr_r1 : Cond := .isRef (.static Bundle.tN "UNASSIGNED_STACK" Bundle.steD)
abbrev sr_r2 : Cond := .isRef (.static Bundle.tN "SUPPRESSED_SENTINEL" Bundle.listD)
/-- new C; dup; ldc text; C.<init>(String); athrow, in a method that has no world and no handler -/
theorem sr_throwS {own C tx : String} {names : List String} {inew iu ic q : Nat} (hx : p.tables.exec = Jvm.exec) (hb : c.code = cc) (hml : c.maxLocals = ls.size) (htr : e.platform.stackTraces = false) (hown : s.vm.findClass own = some m.cls) (hex : ∀ y ∈ c.exceptionTable.toList, ∀ q : Nat, covers y q = false) (hlocks : meth.locks = false)
    (hfit : Bundle.fit C = true) (hnames : ∀ n ∈ names, Bundle.fit n = true) (hat : ∀ w ∈ Bundle.ownAtoms own ic C names, w ∈ sr_ws ∨ w ∈ sr_dw ∨ w = sr_r1 ∨ w = sr_r2) (hws : ∀ w ∈ sr_ws, w.before args s = true) (hz : sr_z A s s.heap) (hcl : (Cond.classLink own inew C).before args s = true) (hini : (Cond.initialized C).before args s = true) (hS : vk_R own iu tx q s)
    (hK : va_K D vwCl tys s) (G : sr_G D A [] s H locs) (hA1 : ∀ q, A q → s.heap.size ≤ q) (hfr : names.length + 3 < R.frames) (hlo : 43 + 13 * (names.length + 1) ≤ R.locals) (hc1 : cells + 1 ≤ R.cells) (hs1 : slots + 6 ≤ R.slots)
    (d0 : decode cc pc = .ok (.new inew, 3)) (d3 : decode cc (pc + 3) = .ok (.dup, 1)) (d4 : decode cc (pc + 4) = .ok (.ldc iu, 2)) (d6 : decode cc (pc + 6) = .ok (.invokespecial ic, 3)) (d9 : decode cc (pc + 9) = .ok (.athrow, 1)) :
    W p l e R s m args below meth c H locs cells slots (sr_MQ below (sr_Q D tys A [] (.inr C) s.heap.size) args s (cells + 1) (slots + 6) A) (F0 m pc ls []) := by
  have hall : ∀ w ∈ Bundle.ownAtoms own ic C names, w.before args s = true := fun w hw => by
    rcases hat w hw with h | h | rfl | rfl
    · exact hws w h
    · have h2 := (List.mem_filter.mp h).2
      have h3 := hz.2.2.1 w h
      cases w <;> first | (exact va_Nw.use rfl h3) | (exact Bool.noConfusion h2)
    · exact sr_isRef hz.1
    · exact sr_isRef hz.2.1
  refine W.newc hx hb hown hcl (n := 6) (hall (.instantiable C 6) (by simp [Bundle.ownAtoms])) hini (g := F0 m pc ls []) rfl d0 hc1 hs1 ?_
  intro cC kC hfc hkC hkind hsz6
  refine W.eq (g2 := F0 m (pc + 3) ls [.ref H.size]) rfl ?_
  refine lv_dup hx hb d3 rfl ?_
  refine va_ldcS hx hb hown hS d4 ?_
  intro T hT X
  have hcell : T.heap[H.size]? = some (freshCell cC kC) := by rw [hT]; simp
  obtain ⟨U, hst, h1, h2, h3, h4, ce, h5, h6⟩ := X.ctorThrowS hx htr hown hfit hnames hall (fun y hy cell hc => absurd (Array.getElem?_eq_some_iff.mp hc).1 (Nat.not_lt.mpr (hA1 _ (G.2.2.2.2 y hy)))) (a := H.size) (cX := cC) (kX := kC) hfc hkC hcell G.2.2.1 (msg := .ref q) rfl (g := F0 m (pc + 6) ls [.ref q, .ref H.size, .ref H.size]) rfl hml.symm rfl rfl (rest := []) rfl (by rw [hb]; exact d6) (by rw [hb]; exact d9) (fun y hy => hex y hy _) hfr (by show 2 * 0 + (1 + 0) + (13 * (names.length + 1) + 42) ≤ R.locals; omega) hlocks
  refine ⟨U, hst, .threw H.size, h1, h2, ⟨⟨H.size, rfl, G.2.2.1, ce, h5, by rw [h6.vm]; rfl, by rw [h3.alike.findClass]; exact h6.cls⟩, fun k q h => by simp at h, va_K.moved h3.alike hK, ⟨fun i j p q h => by simp at h, fun k q h => by simp at h⟩, ?_⟩, locs, ⟨h3, h4⟩, G.2.2.2.2⟩
  refine ⟨h4.2.1, fun q hq hA' => ?_⟩
  have hc : s.heap[q]? = some s.heap[q] := Array.getElem?_eq_getElem hq
  rw [hc]
  exact Free.kept_of_same (keep := fun a => ¬ A a) h4 (fun x hx hk => hk (G.2.2.2.2 x hx)) q _ hA' hc
theorem sr_go_cold {f : JFrame} {a : Addr} {x : ExceptionTableEntry} {t : List ExceptionTableEntry} {cT : ClassId} {cell : Cell} {U : State} {Q : Handler → Pre} {E : CtlPost} {d : Bool} {acts : List Action} (hx : covers x f.pc = true) (h0 : x.catchType ≠ 0)
    (hl : U.vm.ClassLinks e.platform f.method.cls x.catchType cT) (hcell : U.heap[a]? = some cell) (hobj : ∀ k, cell.vm ≠ .statics k) (hk : ∃ k, (U.vm.noted f.method.cls x.catchType (.cls cT)).classes[cell.cls]? = some k) (hc : ∃ k, (U.vm.noted f.method.cls x.catchType (.cls cT)).classes[cT]? = some k)
    (hsz : (U.vm.noted f.method.cls x.catchType (.cls cT)).classes.size ≤ U.vm.classes.size) :
    wp (findHandler.go f a (x :: t)) Q E e d acts U ↔
      if (U.vm.noted f.method.cls x.catchType (.cls cT)).assignable cell.cls cT = true then Q (.found x.handlerPc) d acts (U.setVm (U.vm.noted f.method.cls x.catchType (.cls cT))) else wp (findHandler.go f a t) Q E e d acts (U.setVm (U.vm.noted f.method.cls x.catchType (.cls cT))) := by
  simp only [covers] at hx
  obtain ⟨ha, ht⟩ := (resolveClass_links e.toSetting hl).op (op := VmOp.resolveClass f.method.cls x.catchType) rfl
  generalize U.vm.noted f.method.cls x.catchType (.cls cT) = vm' at *
  cases hfit : vm'.assignable cell.cls cT <;>
    simp [findHandler.go, hx, h0, ha, ht, hsz, hcell, hobj, hk, hc, hfit, VmOp.dirties, VmOp.acts]
end SRU
