/-! StationRows$Stations.count()I -/
abbrev rm_St_count : Room := { frames := 0, cells := 0, slots := 0, locals := 0 }
def f_St_count (v_count : Int32) : Option (Int32) :=
    (some v_count)
set_option maxHeartbeats 4000000 in
set_option maxRecDepth 100000 in
theorem c_St_count (l : Launch) (dC : Nat → ClassId) (dI : Nat → Nat → Nat) (cI cJ cZ : ClassId) (h0 q_doors q_froms q_tos : Nat)  (v_count : Int32)   (o : Int32) (hf : f_St_count v_count = some o) : sr_Ct l y_St_count (sr_W y_St_count b_St_count 1 (some .int)) rm_St_count (dC, dI) (sr_ty cI cJ cZ) [.ref h0] [(h0, .inr (1, [.ref q_doors, .ref q_froms, .ref q_tos, .int v_count]))] (some (.int o)) [(h0, .inr (1, [.ref q_doors, .ref q_froms, .ref q_tos, .int v_count]))] := by
  refine sr_Ct.of (cc := b_St_count) (maxL := 1) (ret := (some .int)) (by decide) rfl (Nat.le_of_ble_eq_true rfl) ?_
  intro p e s m below meth c A ls C0 hA hK G hl
  obtain ⟨hx, hb, hml, hr, hown, hts, hlocks, hnm⟩ := id C0
  generalize hargs : ([.ref h0] : List Value).toArray = args at C0 hts ⊢
  have hws := sr_hws hts
  replace hl : lv_has ls 1 [(0, .ref h0)] := hl
  replace hf : (some v_count) = some o := hf
  refine lv_aload_n hx hb d_St_count_0 rfl (lv_at hl 0 rfl) ?_
  refine va_get (D := (dC, dI)) (ci := 1) (v := .int v_count) (C := "StationRows$Stations") (T := zf_St) (N := 4) hx hb hws zi_St hown hK G.1 0 rfl rfl 3 (by decide) (hws _ k_62) (fun _ h9 => h9) rfl d_St_count_1 ?_
  cases hf
  exact sr_iret hx hb hr hlocks hK G d_St_count_4
/-! StationRows$Stations.add(III)I -/
abbrev rm_St_add : Room := { frames := 0, cells := 0, slots := 0, locals := 0 }
def f_St_add (n_doors n_froms n_tos : Nat) (v_count : Int32) (F_doors : Nat → Int32) (F_froms : Nat → Int32) (F_tos : Nat → Int32) (x1 x2 x3 : Int32) : Option (Int32 × Int32 × (Nat → Int32) × (Nat → Int32) × (Nat → Int32)) :=
    (sr_bk v_count n_doors
    (sr_bk v_count n_froms
    (sr_bk v_count n_tos
    (sr_nm (v_count + 1) fun z4 =>
    (some (v_count, z4, (upd F_doors (v_count : Int32).toNatClampNeg x1), (upd F_froms (v_count : Int32).toNatClampNeg x2), (upd F_tos (v_count : Int32).toNatClampNeg x3)))))))
set_option maxHeartbeats 4000000 in
set_option maxRecDepth 100000 in
theorem c_St_add (l : Launch) (dC : Nat → ClassId) (dI : Nat → Nat → Nat) (cI cJ cZ : ClassId) (h0 q_doors q_froms q_tos : Nat) (n_doors n_froms n_tos : Nat) (v_count : Int32) (F_doors : Nat → Int32) (F_froms : Nat → Int32) (F_tos : Nat → Int32) (x1 x2 x3 : Int32)  (o : Int32 × Int32 × (Nat → Int32) × (Nat → Int32) × (Nat → Int32)) (hf : f_St_add n_doors n_froms n_tos v_count F_doors F_froms F_tos x1 x2 x3 = some o) : sr_Ct l y_St_add (sr_W y_St_add b_St_add 4 (some .int)) rm_St_add (dC, dI) (sr_ty cI cJ cZ) [.ref h0, .int x1, .int x2, .int x3] [(h0, .inr (1, [.ref q_doors, .ref q_froms, .ref q_tos, .int v_count])), (q_doors, .inl (cI, n_doors, .inl F_doors)), (q_froms, .inl (cI, n_froms, .inl F_froms)), (q_tos, .inl (cI, n_tos, .inl F_tos))] (some (.int o.1)) [(h0, .inr (1, [.ref q_doors, .ref q_froms, .ref q_tos, .int o.2.1])), (q_doors, .inl (cI, n_doors, .inl o.2.2.1)), (q_froms, .inl (cI, n_froms, .inl o.2.2.2.1)), (q_tos, .inl (cI, n_tos, .inl o.2.2.2.2))] := by
  refine sr_Ct.of (cc := b_St_add) (maxL := 4) (ret := (some .int)) (by decide) rfl (Nat.le_of_ble_eq_true rfl) ?_
  intro p e s m below meth c A ls C0 hA hK G hl
  obtain ⟨hx, hb, hml, hr, hown, hts, hlocks, hnm⟩ := id C0
  generalize hargs : ([.ref h0, .int x1, .int x2, .int x3] : List Value).toArray = args at C0 hts ⊢
  have hws := sr_hws hts
  replace hl : lv_has ls 4 [(0, .ref h0), (1, .int x1), (2, .int x2), (3, .int x3)] := hl
  replace hf : (sr_bk v_count n_doors
    (sr_bk v_count n_froms
    (sr_bk v_count n_tos
    (sr_nm (v_count + 1) fun z4 =>
    (some (v_count, z4, (upd F_doors (v_count : Int32).toNatClampNeg x1), (upd F_froms (v_count : Int32).toNatClampNeg x2), (upd F_tos (v_count : Int32).toNatClampNeg x3))))))) = some o := hf
  refine lv_aload_n hx hb d_St_add_0 rfl (lv_at hl 0 rfl) ?_
  refine va_get (D := (dC, dI)) (ci := 1) (v := .ref q_doors) (C := "StationRows$Stations") (T := zf_St) (N := 4) hx hb hws zi_St hown hK G.1 0 rfl rfl 0 (by decide) (hws _ k_59) (fun _ h9 => h9) rfl d_St_add_1 ?_
  refine lv_aload_n hx hb d_St_add_4 rfl (lv_at hl 0 rfl) ?_
  refine va_get (D := (dC, dI)) (ci := 1) (v := .int v_count) (C := "StationRows$Stations") (T := zf_St) (N := 4) hx hb hws zi_St hown hK G.1 0 rfl rfl 3 (by decide) (hws _ k_62) (fun _ h9 => h9) rfl d_St_add_5 ?_
  refine lv_iload_n hx hb d_St_add_8 rfl (lv_at hl 1 rfl) ?_
  obtain ⟨hi1, hf⟩ := sr_bk_e hf
  refine va_iast hx hb hK G.1 G.2.1 G.2.2 1 0 rfl rfl hi1 d_St_add_9 (fun H locs hP hD hS => ?_)
  have G : sr_G (dC, dI) A [(h0, .inr (1, [.ref q_doors, .ref q_froms, .ref q_tos, .int v_count])), (q_doors, .inl (cI, n_doors, .inl (upd F_doors (v_count : Int32).toNatClampNeg x1))), (q_froms, .inl (cI, n_froms, .inl F_froms)), (q_tos, .inl (cI, n_tos, .inl F_tos))] s H locs := ⟨hP, hD, hS⟩
  refine lv_aload_n hx hb d_St_add_10 rfl (lv_at hl 0 rfl) ?_
  refine va_get (D := (dC, dI)) (ci := 1) (v := .ref q_froms) (C := "StationRows$Stations") (T := zf_St) (N := 4) hx hb hws zi_St hown hK G.1 0 rfl rfl 1 (by decide) (hws _ k_60) (fun _ h9 => h9) rfl d_St_add_11 ?_
  refine lv_aload_n hx hb d_St_add_14 rfl (lv_at hl 0 rfl) ?_
  refine va_get (D := (dC, dI)) (ci := 1) (v := .int v_count) (C := "StationRows$Stations") (T := zf_St) (N := 4) hx hb hws zi_St hown hK G.1 0 rfl rfl 3 (by decide) (hws _ k_62) (fun _ h9 => h9) rfl d_St_add_15 ?_
  refine lv_iload_n hx hb d_St_add_18 rfl (lv_at hl 2 rfl) ?_
  obtain ⟨hi2, hf⟩ := sr_bk_e hf
  refine va_iast hx hb hK G.1 G.2.1 G.2.2 2 0 rfl rfl hi2 d_St_add_19 (fun H locs hP hD hS => ?_)
  have G : sr_G (dC, dI) A [(h0, .inr (1, [.ref q_doors, .ref q_froms, .ref q_tos, .int v_count])), (q_doors, .inl (cI, n_doors, .inl (upd F_doors (v_count : Int32).toNatClampNeg x1))), (q_froms, .inl (cI, n_froms, .inl (upd F_froms (v_count : Int32).toNatClampNeg x2))), (q_tos, .inl (cI, n_tos, .inl F_tos))] s H locs := ⟨hP, hD, hS⟩
  refine lv_aload_n hx hb d_St_add_20 rfl (lv_at hl 0 rfl) ?_
  refine va_get (D := (dC, dI)) (ci := 1) (v := .ref q_tos) (C := "StationRows$Stations") (T := zf_St) (N := 4) hx hb hws zi_St hown hK G.1 0 rfl rfl 2 (by decide) (hws _ k_61) (fun _ h9 => h9) rfl d_St_add_21 ?_
  refine lv_aload_n hx hb d_St_add_24 rfl (lv_at hl 0 rfl) ?_
  refine va_get (D := (dC, dI)) (ci := 1) (v := .int v_count) (C := "StationRows$Stations") (T := zf_St) (N := 4) hx hb hws zi_St hown hK G.1 0 rfl rfl 3 (by decide) (hws _ k_62) (fun _ h9 => h9) rfl d_St_add_25 ?_
  refine lv_iload_n hx hb d_St_add_28 rfl (lv_at hl 3 rfl) ?_
  obtain ⟨hi3, hf⟩ := sr_bk_e hf
  refine va_iast hx hb hK G.1 G.2.1 G.2.2 3 0 rfl rfl hi3 d_St_add_29 (fun H locs hP hD hS => ?_)
  have G : sr_G (dC, dI) A [(h0, .inr (1, [.ref q_doors, .ref q_froms, .ref q_tos, .int v_count])), (q_doors, .inl (cI, n_doors, .inl (upd F_doors (v_count : Int32).toNatClampNeg x1))), (q_froms, .inl (cI, n_froms, .inl (upd F_froms (v_count : Int32).toNatClampNeg x2))), (q_tos, .inl (cI, n_tos, .inl (upd F_tos (v_count : Int32).toNatClampNeg x3)))] s H locs := ⟨hP, hD, hS⟩
  refine lv_aload_n hx hb d_St_add_30 rfl (lv_at hl 0 rfl) ?_
  refine lv_dup hx hb d_St_add_31 rfl ?_
  refine va_get (D := (dC, dI)) (ci := 1) (v := .int v_count) (C := "StationRows$Stations") (T := zf_St) (N := 4) hx hb hws zi_St hown hK G.1 0 rfl rfl 3 (by decide) (hws _ k_62) (fun _ h9 => h9) rfl d_St_add_32 ?_
  refine lv_dup_x1 hx hb d_St_add_35 rfl rfl ?_
  refine lv_iconst (v := 1) hx hb d_St_add_36 (by decide) ?_
  refine lv_iadd hx hb d_St_add_37 ?_
  refine lv_topi (fun z4 ez4 => ?_)
  replace hf := sr_nm_u ez4 hf
  refine va_put (D := (dC, dI)) (ci := 1) (v := .int z4) (ty := .int) (C := "StationRows$Stations") (T := zf_St) (N := 4) hx hb hws zi_St zt_St zt_St_ok zn_St hown hK G.1 G.2.1 G.2.2 0 rfl rfl 3 (by decide) (hws _ k_62) (fun _ h9 => h9) rfl (by decide +kernel) rfl rfl (Nat.le_of_ble_eq_true rfl) d_St_add_38 (fun H locs hP hD hS => ?_)
  have G : sr_G (dC, dI) A [(h0, .inr (1, [.ref q_doors, .ref q_froms, .ref q_tos, .int z4])), (q_doors, .inl (cI, n_doors, .inl (upd F_doors (v_count : Int32).toNatClampNeg x1))), (q_froms, .inl (cI, n_froms, .inl (upd F_froms (v_count : Int32).toNatClampNeg x2))), (q_tos, .inl (cI, n_tos, .inl (upd F_tos (v_count : Int32).toNatClampNeg x3)))] s H locs := ⟨hP, hD, hS⟩
  cases hf
  exact sr_iret hx hb hr hlocks hK G d_St_add_41
/-! StationRows$Stations.doorsOf(I)I -/
abbrev rm_St_doorsOf : Room := { frames := 0, cells := 0, slots := 0, locals := 0 }
def f_St_doorsOf (n_doors : Nat) (F_doors : Nat → Int32) (x1 : Int32) : Option (Int32) :=
    (sr_bk x1 n_doors
    (some (F_doors x1.toNatClampNeg)))
set_option maxHeartbeats 4000000 in
set_option maxRecDepth 100000 in
theorem c_St_doorsOf (l : Launch) (dC : Nat → ClassId) (dI : Nat → Nat → Nat) (cI cJ cZ : ClassId) (h0 q_doors q_froms q_tos : Nat) (n_doors : Nat) (v_count : Int32) (F_doors : Nat → Int32) (x1 : Int32)  (o : Int32) (hf : f_St_doorsOf n_doors F_doors x1 = some o) : sr_Ct l y_St_doorsOf (sr_W y_St_doorsOf b_St_doorsOf 2 (some .int)) rm_St_doorsOf (dC, dI) (sr_ty cI cJ cZ) [.ref h0, .int x1] [(h0, .inr (1, [.ref q_doors, .ref q_froms, .ref q_tos, .int v_count])), (q_doors, .inl (cI, n_doors, .inl F_doors))] (some (.int o)) [(h0, .inr (1, [.ref q_doors, .ref q_froms, .ref q_tos, .int v_count])), (q_doors, .inl (cI, n_doors, .inl F_doors))] := by
  refine sr_Ct.of (cc := b_St_doorsOf) (maxL := 2) (ret := (some .int)) (by decide) rfl (Nat.le_of_ble_eq_true rfl) ?_
  intro p e s m below meth c A ls C0 hA hK G hl
  obtain ⟨hx, hb, hml, hr, hown, hts, hlocks, hnm⟩ := id C0
  generalize hargs : ([.ref h0, .int x1] : List Value).toArray = args at C0 hts ⊢
  have hws := sr_hws hts
  replace hl : lv_has ls 2 [(0, .ref h0), (1, .int x1)] := hl
  replace hf : (sr_bk x1 n_doors
    (some (F_doors x1.toNatClampNeg))) = some o := hf
  refine lv_aload_n hx hb d_St_doorsOf_0 rfl (lv_at hl 0 rfl) ?_
  refine va_get (D := (dC, dI)) (ci := 1) (v := .ref q_doors) (C := "StationRows$Stations") (T := zf_St) (N := 4) hx hb hws zi_St hown hK G.1 0 rfl rfl 0 (by decide) (hws _ k_59) (fun _ h9 => h9) rfl d_St_doorsOf_1 ?_
  refine lv_iload_n hx hb d_St_doorsOf_4 rfl (lv_at hl 1 rfl) ?_
  obtain ⟨hi1, hf⟩ := sr_bk_e hf
  refine va_iald hx hb hK G.1 1 0 rfl rfl hi1 d_St_doorsOf_5 ?_
  cases hf
  exact sr_iret hx hb hr hlocks hK G d_St_doorsOf_6
/-! StationRows$Stations.isThere(II)Z -/
abbrev rm_St_isThere : Room := { frames := 0, cells := 0, slots := 0, locals := 0 }
def f_St_isThere (n_froms n_tos : Nat) (F_froms : Nat → Int32) (F_tos : Nat → Int32) (x1 x2 : Int32) : Option (Int32) :=
    (sr_bk x1 n_froms
    (if x2 < (F_froms x1.toNatClampNeg) then
    (some 0)
    else
    (sr_bk x1 n_tos
    (if (F_tos x1.toNatClampNeg) ≤ x2 then
    (some 0)
    else
    (some 1)))))
set_option maxHeartbeats 4000000 in
set_option maxRecDepth 100000 in
theorem c_St_isThere (l : Launch) (dC : Nat → ClassId) (dI : Nat → Nat → Nat) (cI cJ cZ : ClassId) (h0 q_doors q_froms q_tos : Nat) (n_froms n_tos : Nat) (v_count : Int32) (F_froms : Nat → Int32) (F_tos : Nat → Int32) (x1 x2 : Int32)  (o : Int32) (hf : f_St_isThere n_froms n_tos F_froms F_tos x1 x2 = some o) : sr_Ct l y_St_isThere (sr_W y_St_isThere b_St_isThere 3 (some .boolean)) rm_St_isThere (dC, dI) (sr_ty cI cJ cZ) [.ref h0, .int x1, .int x2] [(h0, .inr (1, [.ref q_doors, .ref q_froms, .ref q_tos, .int v_count])), (q_froms, .inl (cI, n_froms, .inl F_froms)), (q_tos, .inl (cI, n_tos, .inl F_tos))] (some (.int o)) [(h0, .inr (1, [.ref q_doors, .ref q_froms, .ref q_tos, .int v_count])), (q_froms, .inl (cI, n_froms, .inl F_froms)), (q_tos, .inl (cI, n_tos, .inl F_tos))] := by
  refine sr_Ct.of (cc := b_St_isThere) (maxL := 3) (ret := (some .boolean)) (by decide) rfl (Nat.le_of_ble_eq_true rfl) ?_
  intro p e s m below meth c A ls C0 hA hK G hl
  obtain ⟨hx, hb, hml, hr, hown, hts, hlocks, hnm⟩ := id C0
  generalize hargs : ([.ref h0, .int x1, .int x2] : List Value).toArray = args at C0 hts ⊢
  have hws := sr_hws hts
  replace hl : lv_has ls 3 [(0, .ref h0), (1, .int x1), (2, .int x2)] := hl
  replace hf : (sr_bk x1 n_froms
    (if x2 < (F_froms x1.toNatClampNeg) then
    (some 0)
    else
    (sr_bk x1 n_tos
    (if (F_tos x1.toNatClampNeg) ≤ x2 then
    (some 0)
    else
    (some 1))))) = some o := hf
  refine lv_aload_n hx hb d_St_isThere_0 rfl (lv_at hl 0 rfl) ?_
  refine va_get (D := (dC, dI)) (ci := 1) (v := .ref q_froms) (C := "StationRows$Stations") (T := zf_St) (N := 4) hx hb hws zi_St hown hK G.1 0 rfl rfl 1 (by decide) (hws _ k_60) (fun _ h9 => h9) rfl d_St_isThere_1 ?_
  refine lv_iload_n hx hb d_St_isThere_4 rfl (lv_at hl 1 rfl) ?_
  obtain ⟨hi1, hf⟩ := sr_bk_e hf
  refine va_iald hx hb hK G.1 1 0 rfl rfl hi1 d_St_isThere_5 ?_
  refine lv_iload_n hx hb d_St_isThere_6 rfl (lv_at hl 2 rfl) ?_
  refine lv_icmp_gt (tgt := 24) hx hb d_St_isThere_7 (by decide) (fun c2 => ?_) (fun c2 => ?_)
  · replace hf := (if_pos c2).symm.trans hf
    refine lv_iconst (v := 0) hx hb d_St_isThere_24 (by decide) ?_
    cases hf
    exact sr_zret (v := 0) hx hb hr hlocks hK G rfl d_St_isThere_25
  replace hf := (if_neg c2).symm.trans hf
  refine lv_iload_n hx hb d_St_isThere_10 rfl (lv_at hl 2 rfl) ?_
  refine lv_aload_n hx hb d_St_isThere_11 rfl (lv_at hl 0 rfl) ?_
  refine va_get (D := (dC, dI)) (ci := 1) (v := .ref q_tos) (C := "StationRows$Stations") (T := zf_St) (N := 4) hx hb hws zi_St hown hK G.1 0 rfl rfl 2 (by decide) (hws _ k_61) (fun _ h9 => h9) rfl d_St_isThere_12 ?_
  refine lv_iload_n hx hb d_St_isThere_15 rfl (lv_at hl 1 rfl) ?_
  obtain ⟨hi3, hf⟩ := sr_bk_e hf
  refine va_iald hx hb hK G.1 2 0 rfl rfl hi3 d_St_isThere_16 ?_
  refine lv_icmp_ge (tgt := 24) hx hb d_St_isThere_17 (by decide) (fun c4 => ?_) (fun c4 => ?_)
  · replace hf := (if_pos c4).symm.trans hf
    refine lv_iconst (v := 0) hx hb d_St_isThere_24 (by decide) ?_
    cases hf
    exact sr_zret (v := 0) hx hb hr hlocks hK G rfl d_St_isThere_25
  replace hf := (if_neg c4).symm.trans hf
  refine lv_iconst (v := 1) hx hb d_St_isThere_20 (by decide) ?_
  refine lv_goto (tgt := 25) hx hb d_St_isThere_21 (by decide) ?_
  cases hf
  exact sr_zret (v := 1) hx hb hr hlocks hK G rfl d_St_isThere_25