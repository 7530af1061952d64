/-! java/util/Arrays.fill([II)V -/
abbrev rm_J_fill : Room := { frames := 0, cells := 0, slots := 0, locals := 0 }
def f_J_fill_5 (n : Nat) (n_p0 : Nat)  (x1 : Int32)  : Nat → Int32 → Int32 → (Nat → Int32) → Option (Nat → Int32)
  | 0, _, _, _ => none
  | k + 1, y2, y3, F_p0 =>
    (if y3 ≤ y2 then
    (some F_p0)
    else
    (sr_bk y2 n_p0
    (sr_nm (y2 + 1) fun z3 =>
    (f_J_fill_5 n n_p0 x1  k z3 y3 (upd F_p0 (y2 : Int32).toNatClampNeg x1)))))
theorem f_J_fill_5_eq (n : Nat) (n_p0 : Nat)  (x1 : Int32)  (k : Nat) (y2 y3 : Int32) (F_p0 : Nat → Int32) : f_J_fill_5 n n_p0 x1  (k + 1) y2 y3 F_p0 =
    (if y3 ≤ y2 then
    (some F_p0)
    else
    (sr_bk y2 n_p0
    (sr_nm (y2 + 1) fun z3 =>
    (f_J_fill_5 n n_p0 x1  k z3 y3 (upd F_p0 (y2 : Int32).toNatClampNeg x1))))) := rfl
set_option maxHeartbeats 4000000 in
set_option maxRecDepth 100000 in
theorem w_J_fill_5 (l : Launch) {p : Program} {e : Env} {s : State} {m : MethodId} {below : List Frame} {meth : Method} {c : Code} (dC : Nat → ClassId) (dI : Nat → Nat → Nat) (cI cJ cZ : ClassId) (r_p0 : Nat) (n_p0 : Nat)  (x1 : Int32) (n : Nat) (A : Nat → Prop) (args : Array Value) (o : Nat → Int32) (C0 : sr_cx p s m args meth c b_J_fill 4 none "java/util/Arrays" "fill" (sr_W y_J_fill b_J_fill 4 none)) (hK : va_K (dC, dI) vwCl (sr_ty cI cJ cZ) s) (hA : ∀ q, s.heap.size ≤ q → A q)   :
    ∀ (k : Nat) (y2 y3 : Int32) (F_p0 : Nat → Int32) (H : Heap) (locs : List Loc) (ls : Array Slot), f_J_fill_5 n n_p0 x1  k y2 y3 F_p0 = some o → sr_G (dC, dI) A [(r_p0, .inl (cI, n_p0, .inl F_p0))] s H locs → lv_has ls 4 [(0, .ref r_p0), (1, .int x1), (2, .int y2), (3, .int y3)] → W p l e rm_J_fill s m args below meth c H locs 0 0 (MQ below (sr_Q (dC, dI) (sr_ty cI cJ cZ) A [(r_p0, .inl (cI, n_p0, .inl o))] (.inl (none)) s.heap.size) args s rm_J_fill.cells rm_J_fill.slots A) (F0 m 5 ls []) := by
  obtain ⟨hx, hb, hml, hr, hown, hts, hlocks, hnm⟩ := id C0
  have hws := sr_hws hts
  intro k
  induction k with
  | zero =>
    intro y2 y3 F_p0 H locs ls hf
    exact sr_no hf
  | succ k ih =>
    intro y2 y3 F_p0 H locs ls hf G hl
    replace hf := (f_J_fill_5_eq n n_p0 x1  k y2 y3 F_p0).symm.trans hf
    refine lv_iload_n hx hb d_J_fill_5 rfl (lv_at hl 2 rfl) ?_
    refine lv_iload_n hx hb d_J_fill_6 rfl (lv_at hl 3 rfl) ?_
    refine lv_icmp_ge (tgt := 20) hx hb d_J_fill_7 (by decide) (fun c1 => ?_) (fun c1 => ?_)
    · replace hf := (if_pos c1).symm.trans hf
      cases hf
      exact sr_vret hx hb hr hlocks hK G d_J_fill_20
    replace hf := (if_neg c1).symm.trans hf
    refine lv_aload_n hx hb d_J_fill_10 rfl (lv_at hl 0 rfl) ?_
    refine lv_iload_n hx hb d_J_fill_11 rfl (lv_at hl 2 rfl) ?_
    refine lv_iload_n hx hb d_J_fill_12 rfl (lv_at hl 1 rfl) ?_
    obtain ⟨hi2, hf⟩ := sr_bk_e hf
    refine va_iast hx hb hK G.1 G.2.1 G.2.2 0 0 rfl rfl hi2 d_J_fill_13 (fun H locs hP hD hS => ?_)
    have G : sr_G (dC, dI) A [(r_p0, .inl (cI, n_p0, .inl (upd F_p0 (y2 : Int32).toNatClampNeg x1)))] s H locs := ⟨hP, hD, hS⟩
    obtain ⟨z3, ez3⟩ : ∃ y : Int32, y = (y2 + 1) := ⟨_, rfl⟩
    replace hf := sr_nm_u ez3 hf
    refine lv_iinc (v := z3) (lv' := [(2, .int z3), (0, .ref r_p0), (1, .int x1), (3, .int y3)]) hx hb d_J_fill_14 hl (k := 2) rfl ((sr_inc _ (by decide)).trans ez3.symm) (by decide) rfl (fun ls hl => ?_)
    refine lv_goto (tgt := 5) hx hb d_J_fill_17 (by decide) ?_
    exact ih z3 y3 (upd F_p0 (y2 : Int32).toNatClampNeg x1) _ _ _ hf G (lv_sub hl [1, 2, 0, 3] rfl)
def f_J_fill (n : Nat) (n_p0 : Nat) (F_p0 : Nat → Int32) (x1 : Int32) : Option (Nat → Int32) :=
    (sr_nm (nI n_p0) fun z1 =>
    (f_J_fill_5 n n_p0 x1  n 0 z1 F_p0))
set_option maxHeartbeats 4000000 in
set_option maxRecDepth 100000 in
theorem c_J_fill (l : Launch) (dC : Nat → ClassId) (dI : Nat → Nat → Nat) (cI cJ cZ : ClassId) (r_p0 : Nat) (n_p0 : Nat) (F_p0 : Nat → Int32) (x1 : Int32) (n : Nat) (o : Nat → Int32) (hf : f_J_fill n n_p0 F_p0 x1 = some o) : sr_Ct l y_J_fill (sr_W y_J_fill b_J_fill 4 none) rm_J_fill (dC, dI) (sr_ty cI cJ cZ) [.ref r_p0, .int x1] [(r_p0, .inl (cI, n_p0, .inl F_p0))] (none) [(r_p0, .inl (cI, n_p0, .inl o))] := by
  refine sr_Ct.of (cc := b_J_fill) (maxL := 4) (ret := none) (by decide) rfl (Nat.le_of_ble_eq_true rfl) ?_
  intro p e s m below meth c A ls C0 hA hK G hl
  obtain ⟨hx, hb, hml, hr, hown, hts, hlocks, hnm⟩ := id C0
  generalize hargs : ([.ref r_p0, .int x1] : List Value).toArray = args at C0 hts ⊢
  have hws := sr_hws hts
  replace hl : lv_has ls 4 [(0, .ref r_p0), (1, .int x1)] := hl
  replace hf : (sr_nm (nI n_p0) fun z1 =>
    (f_J_fill_5 n n_p0 x1  n 0 z1 F_p0)) = some o := hf
  refine lv_iconst (v := 0) hx hb d_J_fill_0 (by decide) ?_
  refine lv_istore_n (lv' := [(2, .int 0), (0, .ref r_p0), (1, .int x1)]) hx hb d_J_fill_1 rfl hl (by decide) rfl (fun ls hl => ?_)
  refine lv_aload_n hx hb d_J_fill_2 rfl (lv_at hl 1 rfl) ?_
  refine va_alen (v := nI n_p0) hx hb hK G.1 0 0 rfl rfl rfl d_J_fill_3 ?_
  refine lv_topi (fun z1 ez1 => ?_)
  replace hf := sr_nm_u ez1 hf
  refine lv_istore_n (lv' := [(3, .int z1), (2, .int 0), (0, .ref r_p0), (1, .int x1)]) hx hb d_J_fill_4 rfl hl (by decide) rfl (fun ls hl => ?_)
  exact w_J_fill_5 l dC dI cI cJ cZ r_p0 n_p0 x1 n A args o C0 hK hA   n 0 z1 F_p0 _ _ _ hf G (lv_sub hl [2, 3, 1, 0] rfl)
/-! java/lang/Integer.bitCount(I)I -/
abbrev rm_J_bitCount : Room := { frames := 0, cells := 0, slots := 0, locals := 0 }
def f_J_bitCount (x0 : Int32) : Option (Int32) :=
    (sr_nm (x0 - ((((x0).toUInt32 >>> ((1 : Int32).toUInt32 &&& Int32.toUInt32 31)).toInt32) &&& 1431655765)) fun z1 =>
    (sr_nm ((z1 &&& 858993459) + ((((z1).toUInt32 >>> ((2 : Int32).toUInt32 &&& Int32.toUInt32 31)).toInt32) &&& 858993459)) fun z2 =>
    (sr_nm ((z2 + (((z2).toUInt32 >>> ((4 : Int32).toUInt32 &&& Int32.toUInt32 31)).toInt32)) &&& 252645135) fun z3 =>
    (sr_nm (z3 + (((z3).toUInt32 >>> ((8 : Int32).toUInt32 &&& Int32.toUInt32 31)).toInt32)) fun z4 =>
    (sr_nm (z4 + (((z4).toUInt32 >>> ((16 : Int32).toUInt32 &&& Int32.toUInt32 31)).toInt32)) fun z5 =>
    (some (z5 &&& 63)))))))
set_option maxHeartbeats 4000000 in
set_option maxRecDepth 100000 in
theorem c_J_bitCount (l : Launch) (dC : Nat → ClassId) (dI : Nat → Nat → Nat) (cI cJ cZ : ClassId)    (x0 : Int32)  (o : Int32) (hf : f_J_bitCount x0 = some o) : sr_Ct l y_J_bitCount (sr_W y_J_bitCount b_J_bitCount 1 (some .int)) rm_J_bitCount (dC, dI) (sr_ty cI cJ cZ) [.int x0] [] (some (.int o)) [] := by
  refine sr_Ct.of (cc := b_J_bitCount) (maxL := 1) (ret := (some .int)) (by decide) rfl (Nat.le_of_ble_eq_true rfl) ?_
  intro p e s m below meth c A ls C0 hA hK G hl
  obtain ⟨hx, hb, hml, hr, hown, hts, hlocks, hnm⟩ := id C0
  generalize hargs : ([.int x0] : List Value).toArray = args at C0 hts ⊢
  have hws := sr_hws hts
  replace hl : lv_has ls 1 [(0, .int x0)] := hl
  replace hf : (sr_nm (x0 - ((((x0).toUInt32 >>> ((1 : Int32).toUInt32 &&& Int32.toUInt32 31)).toInt32) &&& 1431655765)) fun z1 =>
    (sr_nm ((z1 &&& 858993459) + ((((z1).toUInt32 >>> ((2 : Int32).toUInt32 &&& Int32.toUInt32 31)).toInt32) &&& 858993459)) fun z2 =>
    (sr_nm ((z2 + (((z2).toUInt32 >>> ((4 : Int32).toUInt32 &&& Int32.toUInt32 31)).toInt32)) &&& 252645135) fun z3 =>
    (sr_nm (z3 + (((z3).toUInt32 >>> ((8 : Int32).toUInt32 &&& Int32.toUInt32 31)).toInt32)) fun z4 =>
    (sr_nm (z4 + (((z4).toUInt32 >>> ((16 : Int32).toUInt32 &&& Int32.toUInt32 31)).toInt32)) fun z5 =>
    (some (z5 &&& 63))))))) = some o := hf
  refine lv_iload_n hx hb d_J_bitCount_0 rfl (lv_at hl 0 rfl) ?_
  refine lv_iload_n hx hb d_J_bitCount_1 rfl (lv_at hl 0 rfl) ?_
  refine lv_iconst (v := 1) hx hb d_J_bitCount_2 (by decide) ?_
  refine lv_iushr hx hb d_J_bitCount_3 rfl ?_
  refine lv_ldcw (v := 1431655765) hx hb hown (hws _ k_228) d_J_bitCount_4 ?_
  refine lv_iand hx hb d_J_bitCount_7 ?_
  refine lv_isub hx hb d_J_bitCount_8 ?_
  refine lv_topi (fun z1 ez1 => ?_)
  replace hf := sr_nm_u ez1 hf
  refine lv_istore_n (lv' := [(0, .int z1)]) hx hb d_J_bitCount_9 rfl hl (by decide) rfl (fun ls hl => ?_)
  refine lv_iload_n hx hb d_J_bitCount_10 rfl (lv_at hl 0 rfl) ?_
  refine lv_ldcw (v := 858993459) hx hb hown (hws _ k_229) d_J_bitCount_11 ?_
  refine lv_iand hx hb d_J_bitCount_14 ?_
  refine lv_iload_n hx hb d_J_bitCount_15 rfl (lv_at hl 0 rfl) ?_
  refine lv_iconst (v := 2) hx hb d_J_bitCount_16 (by decide) ?_
  refine lv_iushr hx hb d_J_bitCount_17 rfl ?_
  refine lv_ldcw (v := 858993459) hx hb hown (hws _ k_229) d_J_bitCount_18 ?_
  refine lv_iand hx hb d_J_bitCount_21 ?_
  refine lv_iadd hx hb d_J_bitCount_22 ?_
  refine lv_topi (fun z2 ez2 => ?_)
  replace hf := sr_nm_u ez2 hf
  refine lv_istore_n (lv' := [(0, .int z2)]) hx hb d_J_bitCount_23 rfl hl (by decide) rfl (fun ls hl => ?_)
  refine lv_iload_n hx hb d_J_bitCount_24 rfl (lv_at hl 0 rfl) ?_
  refine lv_iload_n hx hb d_J_bitCount_25 rfl (lv_at hl 0 rfl) ?_
  refine lv_iconst (v := 4) hx hb d_J_bitCount_26 (by decide) ?_
  refine lv_iushr hx hb d_J_bitCount_27 rfl ?_
  refine lv_iadd hx hb d_J_bitCount_28 ?_
  refine lv_ldcw (v := 252645135) hx hb hown (hws _ k_230) d_J_bitCount_29 ?_
  refine lv_iand hx hb d_J_bitCount_32 ?_
  refine lv_topi (fun z3 ez3 => ?_)
  replace hf := sr_nm_u ez3 hf
  refine lv_istore_n (lv' := [(0, .int z3)]) hx hb d_J_bitCount_33 rfl hl (by decide) rfl (fun ls hl => ?_)
  refine lv_iload_n hx hb d_J_bitCount_34 rfl (lv_at hl 0 rfl) ?_
  refine lv_iload_n hx hb d_J_bitCount_35 rfl (lv_at hl 0 rfl) ?_
  refine lv_bipush (v := 8) hx hb d_J_bitCount_36 (by decide +kernel) ?_
  refine lv_iushr hx hb d_J_bitCount_38 rfl ?_
  refine lv_iadd hx hb d_J_bitCount_39 ?_
  refine lv_topi (fun z4 ez4 => ?_)
  replace hf := sr_nm_u ez4 hf
  refine lv_istore_n (lv' := [(0, .int z4)]) hx hb d_J_bitCount_40 rfl hl (by decide) rfl (fun ls hl => ?_)
  refine lv_iload_n hx hb d_J_bitCount_41 rfl (lv_at hl 0 rfl) ?_
  refine lv_iload_n hx hb d_J_bitCount_42 rfl (lv_at hl 0 rfl) ?_
  refine lv_bipush (v := 16) hx hb d_J_bitCount_43 (by decide +kernel) ?_
  refine lv_iushr hx hb d_J_bitCount_45 rfl ?_
  refine lv_iadd hx hb d_J_bitCount_46 ?_
  refine lv_topi (fun z5 ez5 => ?_)
  replace hf := sr_nm_u ez5 hf
  refine lv_istore_n (lv' := [(0, .int z5)]) hx hb d_J_bitCount_47 rfl hl (by decide) rfl (fun ls hl => ?_)
  refine lv_iload_n hx hb d_J_bitCount_48 rfl (lv_at hl 0 rfl) ?_
  refine lv_bipush (v := 63) hx hb d_J_bitCount_49 (by decide +kernel) ?_
  refine lv_iand hx hb d_J_bitCount_51 ?_
  cases hf
  exact sr_iret hx hb hr hlocks hK G d_J_bitCount_52