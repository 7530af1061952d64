/-! StationRows$Vehicles.count()I -/
abbrev rm_V_count : Room := { frames := 0, cells := 0, slots := 0, locals := 0 }
def f_V_count (v_count : Int32) : Option (Int32) :=
    (some v_count)
set_option maxHeartbeats 4000000 in
set_option maxRecDepth 100000 in
theorem c_V_count (l : Launch) (dC : Nat → ClassId) (dI : Nat → Nat → Nat) (cI cJ cZ : ClassId) (h0 q_stationRow q_kinds q_crews q_outs q_standsFor q_spares : Nat)  (v_count : Int32)   (o : Int32) (hf : f_V_count v_count = some o) : sr_Ct l y_V_count (sr_W y_V_count b_V_count 1 (some .int)) rm_V_count (dC, dI) (sr_ty cI cJ cZ) [.ref h0] [(h0, .inr (2, [.ref q_stationRow, .ref q_kinds, .ref q_crews, .ref q_outs, .ref q_standsFor, .ref q_spares, .int v_count]))] (some (.int o)) [(h0, .inr (2, [.ref q_stationRow, .ref q_kinds, .ref q_crews, .ref q_outs, .ref q_standsFor, .ref q_spares, .int v_count]))] := by
  refine sr_Ct.of (cc := b_V_count) (maxL := 1) (ret := (some .int)) (by decide) rfl (Nat.le_of_ble_eq_true rfl) ?_
  intro p e s m below meth c A ls C0 hA hK G hl
  obtain ⟨hx, hb, hml, hr, hown, hts, hlocks, hnm⟩ := id C0
  generalize hargs : ([.ref h0] : List Value).toArray = args at C0 hts ⊢
  have hws := sr_hws hts
  replace hl : lv_has ls 1 [(0, .ref h0)] := hl
  replace hf : (some v_count) = some o := hf
  refine lv_aload_n hx hb d_V_count_0 rfl (lv_at hl 0 rfl) ?_
  refine va_get (D := (dC, dI)) (ci := 2) (v := .int v_count) (C := "StationRows$Vehicles") (T := zf_V) (N := 7) hx hb hws zi_V hown hK G.1 0 rfl rfl 6 (by decide) (hws _ k_104) (fun _ h9 => h9) rfl d_V_count_1 ?_
  cases hf
  exact sr_iret hx hb hr hlocks hK G d_V_count_4
/-! StationRows$Vehicles.outs()LStationRows$Times; -/
abbrev rm_V_outs : Room := { frames := 0, cells := 0, slots := 0, locals := 0 }
def f_V_outs  : Option (Unit) :=
    (some ())
set_option maxHeartbeats 4000000 in
set_option maxRecDepth 100000 in
theorem c_V_outs (l : Launch) (dC : Nat → ClassId) (dI : Nat → Nat → Nat) (cI cJ cZ : ClassId) (h0 q_stationRow q_kinds q_crews q_outs q_standsFor q_spares : Nat)  (v_count : Int32)   (o : Unit) (hf : f_V_outs  = some o) : sr_Ct l y_V_outs (sr_W y_V_outs b_V_outs 1 (some (.object "StationRows$Times"))) rm_V_outs (dC, dI) (sr_ty cI cJ cZ) [.ref h0] [(h0, .inr (2, [.ref q_stationRow, .ref q_kinds, .ref q_crews, .ref q_outs, .ref q_standsFor, .ref q_spares, .int v_count]))] (some (.ref q_outs)) [(h0, .inr (2, [.ref q_stationRow, .ref q_kinds, .ref q_crews, .ref q_outs, .ref q_standsFor, .ref q_spares, .int v_count]))] := by
  refine sr_Ct.of (cc := b_V_outs) (maxL := 1) (ret := (some (.object "StationRows$Times"))) (by decide) rfl (Nat.le_of_ble_eq_true rfl) ?_
  intro p e s m below meth c A ls C0 hA hK G hl
  obtain ⟨hx, hb, hml, hr, hown, hts, hlocks, hnm⟩ := id C0
  generalize hargs : ([.ref h0] : List Value).toArray = args at C0 hts ⊢
  have hws := sr_hws hts
  replace hl : lv_has ls 1 [(0, .ref h0)] := hl
  replace hf : (some ()) = some o := hf
  refine lv_aload_n hx hb d_V_outs_0 rfl (lv_at hl 0 rfl) ?_
  refine va_get (D := (dC, dI)) (ci := 2) (v := .ref q_outs) (C := "StationRows$Vehicles") (T := zf_V) (N := 7) hx hb hws zi_V hown hK G.1 0 rfl rfl 3 (by decide) (hws _ k_101) (fun _ h9 => h9) rfl d_V_outs_1 ?_
  cases hf
  exact sr_aret hx hb hr hlocks hK G d_V_outs_4
/-! StationRows$Vehicles.add(III)I -/
abbrev rm_V_add : Room := { frames := 0, cells := 0, slots := 0, locals := 0 }
def f_V_add (n_stationRow n_kinds n_crews : Nat) (v_count : Int32) (F_stationRow : Nat → Int32) (F_kinds : Nat → Int32) (F_crews : Nat → Int32) (x1 x2 x3 : Int32) : Option (Int32 × Int32 × (Nat → Int32) × (Nat → Int32) × (Nat → Int32)) :=
    (sr_bk v_count n_stationRow
    (sr_bk v_count n_kinds
    (sr_bk v_count n_crews
    (sr_nm (v_count + 1) fun z4 =>
    (some (v_count, z4, (upd F_stationRow (v_count : Int32).toNatClampNeg x1), (upd F_kinds (v_count : Int32).toNatClampNeg x2), (upd F_crews (v_count : Int32).toNatClampNeg x3)))))))
set_option maxHeartbeats 4000000 in
set_option maxRecDepth 100000 in
theorem c_V_add (l : Launch) (dC : Nat → ClassId) (dI : Nat → Nat → Nat) (cI cJ cZ : ClassId) (h0 q_stationRow q_kinds q_crews q_outs q_standsFor q_spares : Nat) (n_stationRow n_kinds n_crews : Nat) (v_count : Int32) (F_stationRow : Nat → Int32) (F_kinds : Nat → Int32) (F_crews : Nat → Int32) (x1 x2 x3 : Int32)  (o : Int32 × Int32 × (Nat → Int32) × (Nat → Int32) × (Nat → Int32)) (hf : f_V_add n_stationRow n_kinds n_crews v_count F_stationRow F_kinds F_crews x1 x2 x3 = some o) : sr_Ct l y_V_add (sr_W y_V_add b_V_add 4 (some .int)) rm_V_add (dC, dI) (sr_ty cI cJ cZ) [.ref h0, .int x1, .int x2, .int x3] [(h0, .inr (2, [.ref q_stationRow, .ref q_kinds, .ref q_crews, .ref q_outs, .ref q_standsFor, .ref q_spares, .int v_count])), (q_stationRow, .inl (cI, n_stationRow, .inl F_stationRow)), (q_kinds, .inl (cI, n_kinds, .inl F_kinds)), (q_crews, .inl (cI, n_crews, .inl F_crews))] (some (.int o.1)) [(h0, .inr (2, [.ref q_stationRow, .ref q_kinds, .ref q_crews, .ref q_outs, .ref q_standsFor, .ref q_spares, .int o.2.1])), (q_stationRow, .inl (cI, n_stationRow, .inl o.2.2.1)), (q_kinds, .inl (cI, n_kinds, .inl o.2.2.2.1)), (q_crews, .inl (cI, n_crews, .inl o.2.2.2.2))] := by
  refine sr_Ct.of (cc := b_V_add) (maxL := 4) (ret := (some .int)) (by decide) rfl (Nat.le_of_ble_eq_true rfl) ?_
  intro p e s m below meth c A ls C0 hA hK G hl
  obtain ⟨hx, hb, hml, hr, hown, hts, hlocks, hnm⟩ := id C0
  generalize hargs : ([.ref h0, .int x1, .int x2, .int x3] : List Value).toArray = args at C0 hts ⊢
  have hws := sr_hws hts
  replace hl : lv_has ls 4 [(0, .ref h0), (1, .int x1), (2, .int x2), (3, .int x3)] := hl
  replace hf : (sr_bk v_count n_stationRow
    (sr_bk v_count n_kinds
    (sr_bk v_count n_crews
    (sr_nm (v_count + 1) fun z4 =>
    (some (v_count, z4, (upd F_stationRow (v_count : Int32).toNatClampNeg x1), (upd F_kinds (v_count : Int32).toNatClampNeg x2), (upd F_crews (v_count : Int32).toNatClampNeg x3))))))) = some o := hf
  refine lv_aload_n hx hb d_V_add_0 rfl (lv_at hl 0 rfl) ?_
  refine va_get (D := (dC, dI)) (ci := 2) (v := .ref q_stationRow) (C := "StationRows$Vehicles") (T := zf_V) (N := 7) hx hb hws zi_V hown hK G.1 0 rfl rfl 0 (by decide) (hws _ k_98) (fun _ h9 => h9) rfl d_V_add_1 ?_
  refine lv_aload_n hx hb d_V_add_4 rfl (lv_at hl 0 rfl) ?_
  refine va_get (D := (dC, dI)) (ci := 2) (v := .int v_count) (C := "StationRows$Vehicles") (T := zf_V) (N := 7) hx hb hws zi_V hown hK G.1 0 rfl rfl 6 (by decide) (hws _ k_104) (fun _ h9 => h9) rfl d_V_add_5 ?_
  refine lv_iload_n hx hb d_V_add_8 rfl (lv_at hl 1 rfl) ?_
  obtain ⟨hi1, hf⟩ := sr_bk_e hf
  refine va_iast hx hb hK G.1 G.2.1 G.2.2 1 0 rfl rfl hi1 d_V_add_9 (fun H locs hP hD hS => ?_)
  have G : sr_G (dC, dI) A [(h0, .inr (2, [.ref q_stationRow, .ref q_kinds, .ref q_crews, .ref q_outs, .ref q_standsFor, .ref q_spares, .int v_count])), (q_stationRow, .inl (cI, n_stationRow, .inl (upd F_stationRow (v_count : Int32).toNatClampNeg x1))), (q_kinds, .inl (cI, n_kinds, .inl F_kinds)), (q_crews, .inl (cI, n_crews, .inl F_crews))] s H locs := ⟨hP, hD, hS⟩
  refine lv_aload_n hx hb d_V_add_10 rfl (lv_at hl 0 rfl) ?_
  refine va_get (D := (dC, dI)) (ci := 2) (v := .ref q_kinds) (C := "StationRows$Vehicles") (T := zf_V) (N := 7) hx hb hws zi_V hown hK G.1 0 rfl rfl 1 (by decide) (hws _ k_99) (fun _ h9 => h9) rfl d_V_add_11 ?_
  refine lv_aload_n hx hb d_V_add_14 rfl (lv_at hl 0 rfl) ?_
  refine va_get (D := (dC, dI)) (ci := 2) (v := .int v_count) (C := "StationRows$Vehicles") (T := zf_V) (N := 7) hx hb hws zi_V hown hK G.1 0 rfl rfl 6 (by decide) (hws _ k_104) (fun _ h9 => h9) rfl d_V_add_15 ?_
  refine lv_iload_n hx hb d_V_add_18 rfl (lv_at hl 2 rfl) ?_
  obtain ⟨hi2, hf⟩ := sr_bk_e hf
  refine va_iast hx hb hK G.1 G.2.1 G.2.2 2 0 rfl rfl hi2 d_V_add_19 (fun H locs hP hD hS => ?_)
  have G : sr_G (dC, dI) A [(h0, .inr (2, [.ref q_stationRow, .ref q_kinds, .ref q_crews, .ref q_outs, .ref q_standsFor, .ref q_spares, .int v_count])), (q_stationRow, .inl (cI, n_stationRow, .inl (upd F_stationRow (v_count : Int32).toNatClampNeg x1))), (q_kinds, .inl (cI, n_kinds, .inl (upd F_kinds (v_count : Int32).toNatClampNeg x2))), (q_crews, .inl (cI, n_crews, .inl F_crews))] s H locs := ⟨hP, hD, hS⟩
  refine lv_aload_n hx hb d_V_add_20 rfl (lv_at hl 0 rfl) ?_
  refine va_get (D := (dC, dI)) (ci := 2) (v := .ref q_crews) (C := "StationRows$Vehicles") (T := zf_V) (N := 7) hx hb hws zi_V hown hK G.1 0 rfl rfl 2 (by decide) (hws _ k_100) (fun _ h9 => h9) rfl d_V_add_21 ?_
  refine lv_aload_n hx hb d_V_add_24 rfl (lv_at hl 0 rfl) ?_
  refine va_get (D := (dC, dI)) (ci := 2) (v := .int v_count) (C := "StationRows$Vehicles") (T := zf_V) (N := 7) hx hb hws zi_V hown hK G.1 0 rfl rfl 6 (by decide) (hws _ k_104) (fun _ h9 => h9) rfl d_V_add_25 ?_
  refine lv_iload_n hx hb d_V_add_28 rfl (lv_at hl 3 rfl) ?_
  obtain ⟨hi3, hf⟩ := sr_bk_e hf
  refine va_iast hx hb hK G.1 G.2.1 G.2.2 3 0 rfl rfl hi3 d_V_add_29 (fun H locs hP hD hS => ?_)
  have G : sr_G (dC, dI) A [(h0, .inr (2, [.ref q_stationRow, .ref q_kinds, .ref q_crews, .ref q_outs, .ref q_standsFor, .ref q_spares, .int v_count])), (q_stationRow, .inl (cI, n_stationRow, .inl (upd F_stationRow (v_count : Int32).toNatClampNeg x1))), (q_kinds, .inl (cI, n_kinds, .inl (upd F_kinds (v_count : Int32).toNatClampNeg x2))), (q_crews, .inl (cI, n_crews, .inl (upd F_crews (v_count : Int32).toNatClampNeg x3)))] s H locs := ⟨hP, hD, hS⟩
  refine lv_aload_n hx hb d_V_add_30 rfl (lv_at hl 0 rfl) ?_
  refine lv_dup hx hb d_V_add_31 rfl ?_
  refine va_get (D := (dC, dI)) (ci := 2) (v := .int v_count) (C := "StationRows$Vehicles") (T := zf_V) (N := 7) hx hb hws zi_V hown hK G.1 0 rfl rfl 6 (by decide) (hws _ k_104) (fun _ h9 => h9) rfl d_V_add_32 ?_
  refine lv_dup_x1 hx hb d_V_add_35 rfl rfl ?_
  refine lv_iconst (v := 1) hx hb d_V_add_36 (by decide) ?_
  refine lv_iadd hx hb d_V_add_37 ?_
  refine lv_topi (fun z4 ez4 => ?_)
  replace hf := sr_nm_u ez4 hf
  refine va_put (D := (dC, dI)) (ci := 2) (v := .int z4) (ty := .int) (C := "StationRows$Vehicles") (T := zf_V) (N := 7) hx hb hws zi_V zt_V zt_V_ok zn_V hown hK G.1 G.2.1 G.2.2 0 rfl rfl 6 (by decide) (hws _ k_104) (fun _ h9 => h9) rfl (by decide +kernel) rfl rfl (Nat.le_of_ble_eq_true rfl) d_V_add_38 (fun H locs hP hD hS => ?_)
  have G : sr_G (dC, dI) A [(h0, .inr (2, [.ref q_stationRow, .ref q_kinds, .ref q_crews, .ref q_outs, .ref q_standsFor, .ref q_spares, .int z4])), (q_stationRow, .inl (cI, n_stationRow, .inl (upd F_stationRow (v_count : Int32).toNatClampNeg x1))), (q_kinds, .inl (cI, n_kinds, .inl (upd F_kinds (v_count : Int32).toNatClampNeg x2))), (q_crews, .inl (cI, n_crews, .inl (upd F_crews (v_count : Int32).toNatClampNeg x3)))] s H locs := ⟨hP, hD, hS⟩
  cases hf
  exact sr_iret hx hb hr hlocks hK G d_V_add_41
/-! StationRows$Vehicles.stationOf(I)I -/
abbrev rm_V_stationOf : Room := { frames := 0, cells := 0, slots := 0, locals := 0 }
def f_V_stationOf (n_stationRow : Nat) (F_stationRow : Nat → Int32) (x1 : Int32) : Option (Int32) :=
    (sr_bk x1 n_stationRow
    (some (F_stationRow x1.toNatClampNeg)))
set_option maxHeartbeats 4000000 in
set_option maxRecDepth 100000 in
theorem c_V_stationOf (l : Launch) (dC : Nat → ClassId) (dI : Nat → Nat → Nat) (cI cJ cZ : ClassId) (h0 q_stationRow q_kinds q_crews q_outs q_standsFor q_spares : Nat) (n_stationRow : Nat) (v_count : Int32) (F_stationRow : Nat → Int32) (x1 : Int32)  (o : Int32) (hf : f_V_stationOf n_stationRow F_stationRow x1 = some o) : sr_Ct l y_V_stationOf (sr_W y_V_stationOf b_V_stationOf 2 (some .int)) rm_V_stationOf (dC, dI) (sr_ty cI cJ cZ) [.ref h0, .int x1] [(h0, .inr (2, [.ref q_stationRow, .ref q_kinds, .ref q_crews, .ref q_outs, .ref q_standsFor, .ref q_spares, .int v_count])), (q_stationRow, .inl (cI, n_stationRow, .inl F_stationRow))] (some (.int o)) [(h0, .inr (2, [.ref q_stationRow, .ref q_kinds, .ref q_crews, .ref q_outs, .ref q_standsFor, .ref q_spares, .int v_count])), (q_stationRow, .inl (cI, n_stationRow, .inl F_stationRow))] := by
  refine sr_Ct.of (cc := b_V_stationOf) (maxL := 2) (ret := (some .int)) (by decide) rfl (Nat.le_of_ble_eq_true rfl) ?_
  intro p e s m below meth c A ls C0 hA hK G hl
  obtain ⟨hx, hb, hml, hr, hown, hts, hlocks, hnm⟩ := id C0
  generalize hargs : ([.ref h0, .int x1] : List Value).toArray = args at C0 hts ⊢
  have hws := sr_hws hts
  replace hl : lv_has ls 2 [(0, .ref h0), (1, .int x1)] := hl
  replace hf : (sr_bk x1 n_stationRow
    (some (F_stationRow x1.toNatClampNeg))) = some o := hf
  refine lv_aload_n hx hb d_V_stationOf_0 rfl (lv_at hl 0 rfl) ?_
  refine va_get (D := (dC, dI)) (ci := 2) (v := .ref q_stationRow) (C := "StationRows$Vehicles") (T := zf_V) (N := 7) hx hb hws zi_V hown hK G.1 0 rfl rfl 0 (by decide) (hws _ k_98) (fun _ h9 => h9) rfl d_V_stationOf_1 ?_
  refine lv_iload_n hx hb d_V_stationOf_4 rfl (lv_at hl 1 rfl) ?_
  obtain ⟨hi1, hf⟩ := sr_bk_e hf
  refine va_iald hx hb hK G.1 1 0 rfl rfl hi1 d_V_stationOf_5 ?_
  cases hf
  exact sr_iret hx hb hr hlocks hK G d_V_stationOf_6
/-! StationRows$Vehicles.countOf(I)I -/
abbrev rm_V_countOf : Room := { frames := 0, cells := 0, slots := 0, locals := 0 }
def f_V_countOf_4 (n : Nat) (n_stationRow : Nat) (v_count : Int32) (F_stationRow : Nat → Int32) (x1 : Int32)  : Nat → Int32 → Int32 → Option (Int32)
  | 0, _, _ => none
  | k + 1, y2, y3 =>
    (if v_count ≤ y3 then
    (some y2)
    else
    (sr_bk y3 n_stationRow
    (if (F_stationRow y3.toNatClampNeg) = x1 then
    (sr_nm (y2 + 1) fun z5 =>
    (sr_nm (y3 + 1) fun z6 =>
    (f_V_countOf_4 n n_stationRow v_count F_stationRow x1  k z5 z6)))
    else
    (sr_nm (y3 + 1) fun z4 =>
    (f_V_countOf_4 n n_stationRow v_count F_stationRow x1  k y2 z4)))))
theorem f_V_countOf_4_eq (n : Nat) (n_stationRow : Nat) (v_count : Int32) (F_stationRow : Nat → Int32) (x1 : Int32)  (k : Nat) (y2 y3 : Int32) : f_V_countOf_4 n n_stationRow v_count F_stationRow x1  (k + 1) y2 y3 =
    (if v_count ≤ y3 then
    (some y2)
    else
    (sr_bk y3 n_stationRow
    (if (F_stationRow y3.toNatClampNeg) = x1 then
    (sr_nm (y2 + 1) fun z5 =>
    (sr_nm (y3 + 1) fun z6 =>
    (f_V_countOf_4 n n_stationRow v_count F_stationRow x1  k z5 z6)))
    else
    (sr_nm (y3 + 1) fun z4 =>
    (f_V_countOf_4 n n_stationRow v_count F_stationRow x1  k y2 z4))))) := rfl
set_option maxHeartbeats 4000000 in
set_option maxRecDepth 100000 in
theorem w_V_countOf_4 (l : Launch) {p : Program} {e : Env} {s : State} {m : MethodId} {below : List Frame} {meth : Method} {c : Code} (dC : Nat → ClassId) (dI : Nat → Nat → Nat) (cI cJ cZ : ClassId) (h0 q_stationRow q_kinds q_crews q_outs q_standsFor q_spares : Nat) (n_stationRow : Nat) (v_count : Int32) (F_stationRow : Nat → Int32) (x1 : Int32) (n : Nat) (A : Nat → Prop) (args : Array Value) (o : Int32) (C0 : sr_cx p s m args meth c b_V_countOf 4 (some .int) "StationRows$Vehicles" "countOf" (sr_W y_V_countOf b_V_countOf 4 (some .int))) (hK : va_K (dC, dI) vwCl (sr_ty cI cJ cZ) s) (hA : ∀ q, s.heap.size ≤ q → A q)   :
    ∀ (k : Nat) (y2 y3 : Int32) (H : Heap) (locs : List Loc) (ls : Array Slot), f_V_countOf_4 n n_stationRow v_count F_stationRow x1  k y2 y3 = some o → sr_G (dC, dI) A [(h0, .inr (2, [.ref q_stationRow, .ref q_kinds, .ref q_crews, .ref q_outs, .ref q_standsFor, .ref q_spares, .int v_count])), (q_stationRow, .inl (cI, n_stationRow, .inl F_stationRow))] s H locs → lv_has ls 4 [(0, .ref h0), (1, .int x1), (2, .int y2), (3, .int y3)] → W p l e rm_V_countOf s m args below meth c H locs 0 0 (MQ below (sr_Q (dC, dI) (sr_ty cI cJ cZ) A [(h0, .inr (2, [.ref q_stationRow, .ref q_kinds, .ref q_crews, .ref q_outs, .ref q_standsFor, .ref q_spares, .int v_count])), (q_stationRow, .inl (cI, n_stationRow, .inl F_stationRow))] (.inl (some (.int o))) s.heap.size) args s rm_V_countOf.cells rm_V_countOf.slots A) (F0 m 4 ls []) := by
  obtain ⟨hx, hb, hml, hr, hown, hts, hlocks, hnm⟩ := id C0
  have hws := sr_hws hts
  intro k
  induction k with
  | zero =>
    intro y2 y3 H locs ls hf
    exact sr_no hf
  | succ k ih =>
    intro y2 y3 H locs ls hf G hl
    replace hf := (f_V_countOf_4_eq n n_stationRow v_count F_stationRow x1  k y2 y3).symm.trans hf
    refine lv_iload_n hx hb d_V_countOf_4 rfl (lv_at hl 3 rfl) ?_
    refine lv_aload_n hx hb d_V_countOf_5 rfl (lv_at hl 0 rfl) ?_
    refine va_get (D := (dC, dI)) (ci := 2) (v := .int v_count) (C := "StationRows$Vehicles") (T := zf_V) (N := 7) hx hb hws zi_V hown hK G.1 0 rfl rfl 6 (by decide) (hws _ k_104) (fun _ h9 => h9) rfl d_V_countOf_6 ?_
    refine lv_icmp_ge (tgt := 31) hx hb d_V_countOf_9 (by decide) (fun c1 => ?_) (fun c1 => ?_)
    · replace hf := (if_pos c1).symm.trans hf
      refine lv_iload_n hx hb d_V_countOf_31 rfl (lv_at hl 2 rfl) ?_
      cases hf
      exact sr_iret hx hb hr hlocks hK G d_V_countOf_32
    replace hf := (if_neg c1).symm.trans hf
    refine lv_aload_n hx hb d_V_countOf_12 rfl (lv_at hl 0 rfl) ?_
    refine va_get (D := (dC, dI)) (ci := 2) (v := .ref q_stationRow) (C := "StationRows$Vehicles") (T := zf_V) (N := 7) hx hb hws zi_V hown hK G.1 0 rfl rfl 0 (by decide) (hws _ k_98) (fun _ h9 => h9) rfl d_V_countOf_13 ?_
    refine lv_iload_n hx hb d_V_countOf_16 rfl (lv_at hl 3 rfl) ?_
    obtain ⟨hi2, hf⟩ := sr_bk_e hf
    refine va_iald hx hb hK G.1 1 0 rfl rfl hi2 d_V_countOf_17 ?_
    refine lv_iload_n hx hb d_V_countOf_18 rfl (lv_at hl 1 rfl) ?_
    refine lv_icmp_ne (tgt := 25) hx hb d_V_countOf_19 (by decide) (fun c3 => ?_) (fun c3 => ?_)
    · replace hf := (if_neg c3).symm.trans hf
      obtain ⟨z4, ez4⟩ : ∃ y : Int32, y = (y3 + 1) := ⟨_, rfl⟩
      replace hf := sr_nm_u ez4 hf
      refine lv_iinc (v := z4) (lv' := [(3, .int z4), (0, .ref h0), (1, .int x1), (2, .int y2)]) hx hb d_V_countOf_25 hl (k := 3) rfl ((sr_inc _ (by decide)).trans ez4.symm) (by decide) rfl (fun ls hl => ?_)
      refine lv_goto (tgt := 4) hx hb d_V_countOf_28 (by decide) ?_
      exact ih y2 z4 _ _ _ hf G (lv_sub hl [1, 2, 3, 0] rfl)
    replace hf := (if_pos c3).symm.trans hf
    obtain ⟨z5, ez5⟩ : ∃ y : Int32, y = (y2 + 1) := ⟨_, rfl⟩
    replace hf := sr_nm_u ez5 hf
    refine lv_iinc (v := z5) (lv' := [(2, .int z5), (0, .ref h0), (1, .int x1), (3, .int y3)]) hx hb d_V_countOf_22 hl (k := 2) rfl ((sr_inc _ (by decide)).trans ez5.symm) (by decide) rfl (fun ls hl => ?_)
    obtain ⟨z6, ez6⟩ : ∃ y : Int32, y = (y3 + 1) := ⟨_, rfl⟩
    replace hf := sr_nm_u ez6 hf
    refine lv_iinc (v := z6) (lv' := [(3, .int z6), (2, .int z5), (0, .ref h0), (1, .int x1)]) hx hb d_V_countOf_25 hl (k := 3) rfl ((sr_inc _ (by decide)).trans ez6.symm) (by decide) rfl (fun ls hl => ?_)
    refine lv_goto (tgt := 4) hx hb d_V_countOf_28 (by decide) ?_
    exact ih z5 z6 _ _ _ hf G (lv_sub hl [2, 3, 1, 0] rfl)
def f_V_countOf (n : Nat) (n_stationRow : Nat) (v_count : Int32) (F_stationRow : Nat → Int32) (x1 : Int32) : Option (Int32) :=
    (f_V_countOf_4 n n_stationRow v_count F_stationRow x1  n 0 0)
set_option maxHeartbeats 4000000 in
set_option maxRecDepth 100000 in
theorem c_V_countOf (l : Launch) (dC : Nat → ClassId) (dI : Nat → Nat → Nat) (cI cJ cZ : ClassId) (h0 q_stationRow q_kinds q_crews q_outs q_standsFor q_spares : Nat) (n_stationRow : Nat) (v_count : Int32) (F_stationRow : Nat → Int32) (x1 : Int32) (n : Nat) (o : Int32) (hf : f_V_countOf n n_stationRow v_count F_stationRow x1 = some o) : sr_Ct l y_V_countOf (sr_W y_V_countOf b_V_countOf 4 (some .int)) rm_V_countOf (dC, dI) (sr_ty cI cJ cZ) [.ref h0, .int x1] [(h0, .inr (2, [.ref q_stationRow, .ref q_kinds, .ref q_crews, .ref q_outs, .ref q_standsFor, .ref q_spares, .int v_count])), (q_stationRow, .inl (cI, n_stationRow, .inl F_stationRow))] (some (.int o)) [(h0, .inr (2, [.ref q_stationRow, .ref q_kinds, .ref q_crews, .ref q_outs, .ref q_standsFor, .ref q_spares, .int v_count])), (q_stationRow, .inl (cI, n_stationRow, .inl F_stationRow))] := by
  refine sr_Ct.of (cc := b_V_countOf) (maxL := 4) (ret := (some .int)) (by decide) rfl (Nat.le_of_ble_eq_true rfl) ?_
  intro p e s m below meth c A ls C0 hA hK G hl
  obtain ⟨hx, hb, hml, hr, hown, hts, hlocks, hnm⟩ := id C0
  generalize hargs : ([.ref h0, .int x1] : List Value).toArray = args at C0 hts ⊢
  have hws := sr_hws hts
  replace hl : lv_has ls 4 [(0, .ref h0), (1, .int x1)] := hl
  replace hf : (f_V_countOf_4 n n_stationRow v_count F_stationRow x1  n 0 0) = some o := hf
  refine lv_iconst (v := 0) hx hb d_V_countOf_0 (by decide) ?_
  refine lv_istore_n (lv' := [(2, .int 0), (0, .ref h0), (1, .int x1)]) hx hb d_V_countOf_1 rfl hl (by decide) rfl (fun ls hl => ?_)
  refine lv_iconst (v := 0) hx hb d_V_countOf_2 (by decide) ?_
  refine lv_istore_n (lv' := [(3, .int 0), (2, .int 0), (0, .ref h0), (1, .int x1)]) hx hb d_V_countOf_3 rfl hl (by decide) rfl (fun ls hl => ?_)
  exact w_V_countOf_4 l dC dI cI cJ cZ h0 q_stationRow q_kinds q_crews q_outs q_standsFor q_spares n_stationRow v_count F_stationRow x1 n A args o C0 hK hA   n 0 0 _ _ _ hf G (lv_sub hl [2, 3, 1, 0] rfl)
/-! StationRows$Vehicles.isOut(II)Z -/
abbrev rm_V_isOut : Room := { frames := 1, cells := 0, slots := 0, locals := 24 }
def f_V_isOut (n : Nat) (n_outs_counts n_outs_froms n_outs_tos : Nat) (v_outs_most : Int32) (F_outs_counts : Nat → Int32) (F_outs_froms : Nat → Int32) (F_outs_tos : Nat → Int32) (x1 x2 : Int32) : Option (Int32) :=
    (sr_bd (f_T_indexAt n n_outs_counts n_outs_froms n_outs_tos v_outs_most F_outs_counts F_outs_froms F_outs_tos x1 x2) fun o1 =>
    (if o1 = (-1) then
    (some 0)
    else
    (some 1)))
set_option maxHeartbeats 4000000 in
set_option maxRecDepth 100000 in
theorem c_V_isOut (l : Launch) (dC : Nat → ClassId) (dI : Nat → Nat → Nat) (cI cJ cZ : ClassId) (h0 q_stationRow q_kinds q_crews q_outs q_standsFor q_spares q_outs_counts q_outs_froms q_outs_tos : Nat) (n_outs_counts n_outs_froms n_outs_tos : Nat) (v_count : Int32) (v_outs_most : Int32) (F_outs_counts : Nat → Int32) (F_outs_froms : Nat → Int32) (F_outs_tos : Nat → Int32) (x1 x2 : Int32) (n : Nat) (o : Int32) (hf : f_V_isOut n n_outs_counts n_outs_froms n_outs_tos v_outs_most F_outs_counts F_outs_froms F_outs_tos x1 x2 = some o) : sr_Ct l y_V_isOut (sr_W y_V_isOut b_V_isOut 3 (some .boolean)) rm_V_isOut (dC, dI) (sr_ty cI cJ cZ) [.ref h0, .int x1, .int x2] [(h0, .inr (2, [.ref q_stationRow, .ref q_kinds, .ref q_crews, .ref q_outs, .ref q_standsFor, .ref q_spares, .int v_count])), (q_outs, .inr (0, [.int v_outs_most, .ref q_outs_counts, .ref q_outs_froms, .ref q_outs_tos])), (q_outs_counts, .inl (cI, n_outs_counts, .inl F_outs_counts)), (q_outs_froms, .inl (cI, n_outs_froms, .inl F_outs_froms)), (q_outs_tos, .inl (cI, n_outs_tos, .inl F_outs_tos))] (some (.int o)) [(h0, .inr (2, [.ref q_stationRow, .ref q_kinds, .ref q_crews, .ref q_outs, .ref q_standsFor, .ref q_spares, .int v_count])), (q_outs, .inr (0, [.int v_outs_most, .ref q_outs_counts, .ref q_outs_froms, .ref q_outs_tos])), (q_outs_counts, .inl (cI, n_outs_counts, .inl F_outs_counts)), (q_outs_froms, .inl (cI, n_outs_froms, .inl F_outs_froms)), (q_outs_tos, .inl (cI, n_outs_tos, .inl F_outs_tos))] := by
  refine sr_Ct.of (cc := b_V_isOut) (maxL := 3) (ret := (some .boolean)) (by decide) rfl (Nat.le_of_ble_eq_true rfl) ?_
  intro p e s m below meth c A ls C0 hA hK G hl
  obtain ⟨hx, hb, hml, hr, hown, hts, hlocks, hnm⟩ := id C0
  generalize hargs : ([.ref h0, .int x1, .int x2] : List Value).toArray = args at C0 hts ⊢
  have hws := sr_hws hts
  replace hl : lv_has ls 3 [(0, .ref h0), (1, .int x1), (2, .int x2)] := hl
  replace hf : (sr_bd (f_T_indexAt n n_outs_counts n_outs_froms n_outs_tos v_outs_most F_outs_counts F_outs_froms F_outs_tos x1 x2) fun o1 =>
    (if o1 = (-1) then
    (some 0)
    else
    (some 1))) = some o := hf
  refine lv_aload_n hx hb d_V_isOut_0 rfl (lv_at hl 0 rfl) ?_
  refine va_get (D := (dC, dI)) (ci := 2) (v := .ref q_outs) (C := "StationRows$Vehicles") (T := zf_V) (N := 7) hx hb hws zi_V hown hK G.1 0 rfl rfl 3 (by decide) (hws _ k_101) (fun _ h9 => h9) rfl d_V_isOut_1 ?_
  refine lv_iload_n hx hb d_V_isOut_4 rfl (lv_at hl 1 rfl) ?_
  refine lv_iload_n hx hb d_V_isOut_5 rfl (lv_at hl 2 rfl) ?_
  obtain ⟨o1, ho1, hf⟩ := sr_bd_e hf
  refine sr_callV (ci := 0) (vc := ("StationRows$Times", zf_T, 4)) (wr := [(h0, .inr (2, [.ref q_stationRow, .ref q_kinds, .ref q_crews, .ref q_outs, .ref q_standsFor, .ref q_spares, .int v_count]))]) (ws1 := [(h0, .inr (2, [.ref q_stationRow, .ref q_kinds, .ref q_crews, .ref q_outs, .ref q_standsFor, .ref q_spares, .int v_count])), (q_outs, .inr (0, [.int v_outs_most, .ref q_outs_counts, .ref q_outs_froms, .ref q_outs_tos])), (q_outs_counts, .inl (cI, n_outs_counts, .inl F_outs_counts)), (q_outs_froms, .inl (cI, n_outs_froms, .inl F_outs_froms)), (q_outs_tos, .inl (cI, n_outs_tos, .inl F_outs_tos))]) (rest := []) (st1 := [.int o1]) ⟨hx, hb, hml, hown, hts⟩ (c_T_indexAt l dC dI cI cJ cZ q_outs q_outs_counts q_outs_froms q_outs_tos n_outs_counts n_outs_froms n_outs_tos v_outs_most F_outs_counts F_outs_froms F_outs_tos x1 x2 n o1 ho1) ⟨(sr_cB 2 hws k_530 k_29 k_576 (by decide +kernel) ⟨Nat.le_of_ble_eq_true rfl, Nat.le_of_ble_eq_true rfl⟩), hws _ k_528, hws _ k_529⟩ hK G hA [1, 2, 3, 4] [0] [0, 1, 2, 3, 4] rfl (by decide) rfl (by decide) (by decide) rfl (by decide) 0 rfl rfl rfl hl.1 rfl (Nat.le_of_ble_eq_true rfl) d_V_isOut_6 ⟨Nat.le_of_ble_eq_true rfl, Nat.le_of_ble_eq_true rfl⟩ rfl (fun H locs G => ?_)
  refine lv_iconst (v := (-1)) hx hb d_V_isOut_9 (by decide) ?_
  refine lv_icmp_eq (tgt := 17) hx hb d_V_isOut_10 (by decide) (fun c2 => ?_) (fun c2 => ?_)
  · replace hf := (if_pos c2).symm.trans hf
    refine lv_iconst (v := 0) hx hb d_V_isOut_17 (by decide) ?_
    cases hf
    exact sr_zret (v := 0) hx hb hr hlocks hK G rfl d_V_isOut_18
  replace hf := (if_neg c2).symm.trans hf
  refine lv_iconst (v := 1) hx hb d_V_isOut_13 (by decide) ?_
  refine lv_goto (tgt := 18) hx hb d_V_isOut_14 (by decide) ?_
  cases hf
  exact sr_zret (v := 1) hx hb hr hlocks hK G rfl d_V_isOut_18
/-! StationRows$Vehicles.standsFor(I)I -/
abbrev rm_V_standsFor : Room := { frames := 0, cells := 0, slots := 0, locals := 0 }
def f_V_standsFor (n_standsFor : Nat) (F_standsFor : Nat → Int32) (x1 : Int32) : Option (Int32) :=
    (sr_bk x1 n_standsFor
    (some (F_standsFor x1.toNatClampNeg)))
set_option maxHeartbeats 4000000 in
set_option maxRecDepth 100000 in
theorem c_V_standsFor (l : Launch) (dC : Nat → ClassId) (dI : Nat → Nat → Nat) (cI cJ cZ : ClassId) (h0 q_stationRow q_kinds q_crews q_outs q_standsFor q_spares : Nat) (n_standsFor : Nat) (v_count : Int32) (F_standsFor : Nat → Int32) (x1 : Int32)  (o : Int32) (hf : f_V_standsFor n_standsFor F_standsFor x1 = some o) : sr_Ct l y_V_standsFor (sr_W y_V_standsFor b_V_standsFor 2 (some .int)) rm_V_standsFor (dC, dI) (sr_ty cI cJ cZ) [.ref h0, .int x1] [(h0, .inr (2, [.ref q_stationRow, .ref q_kinds, .ref q_crews, .ref q_outs, .ref q_standsFor, .ref q_spares, .int v_count])), (q_standsFor, .inl (cI, n_standsFor, .inl F_standsFor))] (some (.int o)) [(h0, .inr (2, [.ref q_stationRow, .ref q_kinds, .ref q_crews, .ref q_outs, .ref q_standsFor, .ref q_spares, .int v_count])), (q_standsFor, .inl (cI, n_standsFor, .inl F_standsFor))] := by
  refine sr_Ct.of (cc := b_V_standsFor) (maxL := 2) (ret := (some .int)) (by decide) rfl (Nat.le_of_ble_eq_true rfl) ?_
  intro p e s m below meth c A ls C0 hA hK G hl
  obtain ⟨hx, hb, hml, hr, hown, hts, hlocks, hnm⟩ := id C0
  generalize hargs : ([.ref h0, .int x1] : List Value).toArray = args at C0 hts ⊢
  have hws := sr_hws hts
  replace hl : lv_has ls 2 [(0, .ref h0), (1, .int x1)] := hl
  replace hf : (sr_bk x1 n_standsFor
    (some (F_standsFor x1.toNatClampNeg))) = some o := hf
  refine lv_aload_n hx hb d_V_standsFor_0 rfl (lv_at hl 0 rfl) ?_
  refine va_get (D := (dC, dI)) (ci := 2) (v := .ref q_standsFor) (C := "StationRows$Vehicles") (T := zf_V) (N := 7) hx hb hws zi_V hown hK G.1 0 rfl rfl 4 (by decide) (hws _ k_102) (fun _ h9 => h9) rfl d_V_standsFor_1 ?_
  refine lv_iload_n hx hb d_V_standsFor_4 rfl (lv_at hl 1 rfl) ?_
  obtain ⟨hi1, hf⟩ := sr_bk_e hf
  refine va_iald hx hb hK G.1 1 0 rfl rfl hi1 d_V_standsFor_5 ?_
  cases hf
  exact sr_iret hx hb hr hlocks hK G d_V_standsFor_6
/-! StationRows$Vehicles.spareOf(I)I -/
abbrev rm_V_spareOf : Room := { frames := 0, cells := 0, slots := 0, locals := 0 }
def f_V_spareOf (n_spares : Nat) (F_spares : Nat → Int32) (x1 : Int32) : Option (Int32) :=
    (sr_bk x1 n_spares
    (some (F_spares x1.toNatClampNeg)))
set_option maxHeartbeats 4000000 in
set_option maxRecDepth 100000 in
theorem c_V_spareOf (l : Launch) (dC : Nat → ClassId) (dI : Nat → Nat → Nat) (cI cJ cZ : ClassId) (h0 q_stationRow q_kinds q_crews q_outs q_standsFor q_spares : Nat) (n_spares : Nat) (v_count : Int32) (F_spares : Nat → Int32) (x1 : Int32)  (o : Int32) (hf : f_V_spareOf n_spares F_spares x1 = some o) : sr_Ct l y_V_spareOf (sr_W y_V_spareOf b_V_spareOf 2 (some .int)) rm_V_spareOf (dC, dI) (sr_ty cI cJ cZ) [.ref h0, .int x1] [(h0, .inr (2, [.ref q_stationRow, .ref q_kinds, .ref q_crews, .ref q_outs, .ref q_standsFor, .ref q_spares, .int v_count])), (q_spares, .inl (cI, n_spares, .inl F_spares))] (some (.int o)) [(h0, .inr (2, [.ref q_stationRow, .ref q_kinds, .ref q_crews, .ref q_outs, .ref q_standsFor, .ref q_spares, .int v_count])), (q_spares, .inl (cI, n_spares, .inl F_spares))] := by
  refine sr_Ct.of (cc := b_V_spareOf) (maxL := 2) (ret := (some .int)) (by decide) rfl (Nat.le_of_ble_eq_true rfl) ?_
  intro p e s m below meth c A ls C0 hA hK G hl
  obtain ⟨hx, hb, hml, hr, hown, hts, hlocks, hnm⟩ := id C0
  generalize hargs : ([.ref h0, .int x1] : List Value).toArray = args at C0 hts ⊢
  have hws := sr_hws hts
  replace hl : lv_has ls 2 [(0, .ref h0), (1, .int x1)] := hl
  replace hf : (sr_bk x1 n_spares
    (some (F_spares x1.toNatClampNeg))) = some o := hf
  refine lv_aload_n hx hb d_V_spareOf_0 rfl (lv_at hl 0 rfl) ?_
  refine va_get (D := (dC, dI)) (ci := 2) (v := .ref q_spares) (C := "StationRows$Vehicles") (T := zf_V) (N := 7) hx hb hws zi_V hown hK G.1 0 rfl rfl 5 (by decide) (hws _ k_103) (fun _ h9 => h9) rfl d_V_spareOf_1 ?_
  refine lv_iload_n hx hb d_V_spareOf_4 rfl (lv_at hl 1 rfl) ?_
  obtain ⟨hi1, hf⟩ := sr_bk_e hf
  refine va_iald hx hb hK G.1 1 0 rfl rfl hi1 d_V_spareOf_5 ?_
  cases hf
  exact sr_iret hx hb hr hlocks hK G d_V_spareOf_6
/-! StationRows$Vehicles.isSpare(I)Z -/
abbrev rm_V_isSpare : Room := { frames := 0, cells := 0, slots := 0, locals := 0 }
def f_V_isSpare (n_crews : Nat) (F_crews : Nat → Int32) (x1 : Int32) : Option (Int32) :=
    (sr_bk x1 n_crews
    (if (F_crews x1.toNatClampNeg) = 0 then
    (some 1)
    else
    (some 0)))
set_option maxHeartbeats 4000000 in
set_option maxRecDepth 100000 in
theorem c_V_isSpare (l : Launch) (dC : Nat → ClassId) (dI : Nat → Nat → Nat) (cI cJ cZ : ClassId) (h0 q_stationRow q_kinds q_crews q_outs q_standsFor q_spares : Nat) (n_crews : Nat) (v_count : Int32) (F_crews : Nat → Int32) (x1 : Int32)  (o : Int32) (hf : f_V_isSpare n_crews F_crews x1 = some o) : sr_Ct l y_V_isSpare (sr_W y_V_isSpare b_V_isSpare 2 (some .boolean)) rm_V_isSpare (dC, dI) (sr_ty cI cJ cZ) [.ref h0, .int x1] [(h0, .inr (2, [.ref q_stationRow, .ref q_kinds, .ref q_crews, .ref q_outs, .ref q_standsFor, .ref q_spares, .int v_count])), (q_crews, .inl (cI, n_crews, .inl F_crews))] (some (.int o)) [(h0, .inr (2, [.ref q_stationRow, .ref q_kinds, .ref q_crews, .ref q_outs, .ref q_standsFor, .ref q_spares, .int v_count])), (q_crews, .inl (cI, n_crews, .inl F_crews))] := by
  refine sr_Ct.of (cc := b_V_isSpare) (maxL := 2) (ret := (some .boolean)) (by decide) rfl (Nat.le_of_ble_eq_true rfl) ?_
  intro p e s m below meth c A ls C0 hA hK G hl
  obtain ⟨hx, hb, hml, hr, hown, hts, hlocks, hnm⟩ := id C0
  generalize hargs : ([.ref h0, .int x1] : List Value).toArray = args at C0 hts ⊢
  have hws := sr_hws hts
  replace hl : lv_has ls 2 [(0, .ref h0), (1, .int x1)] := hl
  replace hf : (sr_bk x1 n_crews
    (if (F_crews x1.toNatClampNeg) = 0 then
    (some 1)
    else
    (some 0))) = some o := hf
  refine lv_aload_n hx hb d_V_isSpare_0 rfl (lv_at hl 0 rfl) ?_
  refine va_get (D := (dC, dI)) (ci := 2) (v := .ref q_crews) (C := "StationRows$Vehicles") (T := zf_V) (N := 7) hx hb hws zi_V hown hK G.1 0 rfl rfl 2 (by decide) (hws _ k_100) (fun _ h9 => h9) rfl d_V_isSpare_1 ?_
  refine lv_iload_n hx hb d_V_isSpare_4 rfl (lv_at hl 1 rfl) ?_
  obtain ⟨hi1, hf⟩ := sr_bk_e hf
  refine va_iald hx hb hK G.1 1 0 rfl rfl hi1 d_V_isSpare_5 ?_
  refine lv_if_ne (tgt := 13) hx hb d_V_isSpare_6 (by decide) (fun c2 => ?_) (fun c2 => ?_)
  · replace hf := (if_neg c2).symm.trans hf
    refine lv_iconst (v := 0) hx hb d_V_isSpare_13 (by decide) ?_
    cases hf
    exact sr_zret (v := 0) hx hb hr hlocks hK G rfl d_V_isSpare_14
  replace hf := (if_pos c2).symm.trans hf
  refine lv_iconst (v := 1) hx hb d_V_isSpare_9 (by decide) ?_
  refine lv_goto (tgt := 14) hx hb d_V_isSpare_10 (by decide) ?_
  cases hf
  exact sr_zret (v := 1) hx hb hr hlocks hK G rfl d_V_isSpare_14
/-! StationRows$Vehicles.lowestFreeSpare(ILStationRows$Stations;I)I -/
abbrev rm_V_lowestFreeSpare : Room := { frames := 2, cells := 0, slots := 0, locals := 46 }
def f_V_lowestFreeSpare_3 (n : Nat) (n_stationRow n_kinds n_crews n_outs_counts n_outs_froms n_outs_tos n_standsFor n_p2_froms n_p2_tos : Nat) (v_count : Int32) (F_stationRow : Nat → Int32) (F_kinds : Nat → Int32) (F_crews : Nat → Int32) (v_outs_most : Int32) (F_outs_counts : Nat → Int32) (F_outs_froms : Nat → Int32) (F_outs_tos : Nat → Int32) (F_standsFor : Nat → Int32) (F_p2_froms : Nat → Int32) (F_p2_tos : Nat → Int32) (x1 x3 : Int32)  : Nat → Int32 → Option (Int32)
  | 0, _ => none
  | k + 1, y4 =>
    (if v_count ≤ y4 then
    (some (-1))
    else
    (sr_bd (f_V_isSpare n_crews F_crews y4) fun o2 =>
    (if o2 = 0 then
    (sr_nm (y4 + 1) fun z4 =>
    (f_V_lowestFreeSpare_3 n n_stationRow n_kinds n_crews n_outs_counts n_outs_froms n_outs_tos n_standsFor n_p2_froms n_p2_tos v_count F_stationRow F_kinds F_crews v_outs_most F_outs_counts F_outs_froms F_outs_tos F_standsFor F_p2_froms F_p2_tos x1 x3  k z4))
    else
    (sr_bk y4 n_kinds
    (if (F_kinds y4.toNatClampNeg) = x1 then
    (sr_bk y4 n_standsFor
    (if (F_standsFor y4.toNatClampNeg) = (-1) then
    (sr_bk y4 n_stationRow
    (sr_bd (f_St_isThere n_p2_froms n_p2_tos F_p2_froms F_p2_tos (F_stationRow y4.toNatClampNeg) x3) fun o12 =>
    (if o12 = 0 then
    (sr_nm (y4 + 1) fun z14 =>
    (f_V_lowestFreeSpare_3 n n_stationRow n_kinds n_crews n_outs_counts n_outs_froms n_outs_tos n_standsFor n_p2_froms n_p2_tos v_count F_stationRow F_kinds F_crews v_outs_most F_outs_counts F_outs_froms F_outs_tos F_standsFor F_p2_froms F_p2_tos x1 x3  k z14))
    else
    (sr_bd (f_V_isOut n n_outs_counts n_outs_froms n_outs_tos v_outs_most F_outs_counts F_outs_froms F_outs_tos y4 x3) fun o15 =>
    (if o15 = 0 then
    (some y4)
    else
    (sr_nm (y4 + 1) fun z17 =>
    (f_V_lowestFreeSpare_3 n n_stationRow n_kinds n_crews n_outs_counts n_outs_froms n_outs_tos n_standsFor n_p2_froms n_p2_tos v_count F_stationRow F_kinds F_crews v_outs_most F_outs_counts F_outs_froms F_outs_tos F_standsFor F_p2_froms F_p2_tos x1 x3  k z17)))))))
    else
    (sr_nm (y4 + 1) fun z10 =>
    (f_V_lowestFreeSpare_3 n n_stationRow n_kinds n_crews n_outs_counts n_outs_froms n_outs_tos n_standsFor n_p2_froms n_p2_tos v_count F_stationRow F_kinds F_crews v_outs_most F_outs_counts F_outs_froms F_outs_tos F_standsFor F_p2_froms F_p2_tos x1 x3  k z10))))
    else
    (sr_nm (y4 + 1) fun z7 =>
    (f_V_lowestFreeSpare_3 n n_stationRow n_kinds n_crews n_outs_counts n_outs_froms n_outs_tos n_standsFor n_p2_froms n_p2_tos v_count F_stationRow F_kinds F_crews v_outs_most F_outs_counts F_outs_froms F_outs_tos F_standsFor F_p2_froms F_p2_tos x1 x3  k z7)))))))
theorem f_V_lowestFreeSpare_3_eq (n : Nat) (n_stationRow n_kinds n_crews n_outs_counts n_outs_froms n_outs_tos n_standsFor n_p2_froms n_p2_tos : Nat) (v_count : Int32) (F_stationRow : Nat → Int32) (F_kinds : Nat → Int32) (F_crews : Nat → Int32) (v_outs_most : Int32) (F_outs_counts : Nat → Int32) (F_outs_froms : Nat → Int32) (F_outs_tos : Nat → Int32) (F_standsFor : Nat → Int32) (F_p2_froms : Nat → Int32) (F_p2_tos : Nat → Int32) (x1 x3 : Int32)  (k : Nat) (y4 : Int32) : f_V_lowestFreeSpare_3 n n_stationRow n_kinds n_crews n_outs_counts n_outs_froms n_outs_tos n_standsFor n_p2_froms n_p2_tos v_count F_stationRow F_kinds F_crews v_outs_most F_outs_counts F_outs_froms F_outs_tos F_standsFor F_p2_froms F_p2_tos x1 x3  (k + 1) y4 =
    (if v_count ≤ y4 then
    (some (-1))
    else
    (sr_bd (f_V_isSpare n_crews F_crews y4) fun o2 =>
    (if o2 = 0 then
    (sr_nm (y4 + 1) fun z4 =>
    (f_V_lowestFreeSpare_3 n n_stationRow n_kinds n_crews n_outs_counts n_outs_froms n_outs_tos n_standsFor n_p2_froms n_p2_tos v_count F_stationRow F_kinds F_crews v_outs_most F_outs_counts F_outs_froms F_outs_tos F_standsFor F_p2_froms F_p2_tos x1 x3  k z4))
    else
    (sr_bk y4 n_kinds
    (if (F_kinds y4.toNatClampNeg) = x1 then
    (sr_bk y4 n_standsFor
    (if (F_standsFor y4.toNatClampNeg) = (-1) then
    (sr_bk y4 n_stationRow
    (sr_bd (f_St_isThere n_p2_froms n_p2_tos F_p2_froms F_p2_tos (F_stationRow y4.toNatClampNeg) x3) fun o12 =>
    (if o12 = 0 then
    (sr_nm (y4 + 1) fun z14 =>
    (f_V_lowestFreeSpare_3 n n_stationRow n_kinds n_crews n_outs_counts n_outs_froms n_outs_tos n_standsFor n_p2_froms n_p2_tos v_count F_stationRow F_kinds F_crews v_outs_most F_outs_counts F_outs_froms F_outs_tos F_standsFor F_p2_froms F_p2_tos x1 x3  k z14))
    else
    (sr_bd (f_V_isOut n n_outs_counts n_outs_froms n_outs_tos v_outs_most F_outs_counts F_outs_froms F_outs_tos y4 x3) fun o15 =>
    (if o15 = 0 then
    (some y4)
    else
    (sr_nm (y4 + 1) fun z17 =>
    (f_V_lowestFreeSpare_3 n n_stationRow n_kinds n_crews n_outs_counts n_outs_froms n_outs_tos n_standsFor n_p2_froms n_p2_tos v_count F_stationRow F_kinds F_crews v_outs_most F_outs_counts F_outs_froms F_outs_tos F_standsFor F_p2_froms F_p2_tos x1 x3  k z17)))))))
    else
    (sr_nm (y4 + 1) fun z10 =>
    (f_V_lowestFreeSpare_3 n n_stationRow n_kinds n_crews n_outs_counts n_outs_froms n_outs_tos n_standsFor n_p2_froms n_p2_tos v_count F_stationRow F_kinds F_crews v_outs_most F_outs_counts F_outs_froms F_outs_tos F_standsFor F_p2_froms F_p2_tos x1 x3  k z10))))
    else
    (sr_nm (y4 + 1) fun z7 =>
    (f_V_lowestFreeSpare_3 n n_stationRow n_kinds n_crews n_outs_counts n_outs_froms n_outs_tos n_standsFor n_p2_froms n_p2_tos v_count F_stationRow F_kinds F_crews v_outs_most F_outs_counts F_outs_froms F_outs_tos F_standsFor F_p2_froms F_p2_tos x1 x3  k z7))))))) := rfl
set_option maxHeartbeats 4000000 in
set_option maxRecDepth 100000 in
theorem w_V_lowestFreeSpare_3 (l : Launch) {p : Program} {e : Env} {s : State} {m : MethodId} {below : List Frame} {meth : Method} {c : Code} (dC : Nat → ClassId) (dI : Nat → Nat → Nat) (cI cJ cZ : ClassId) (h0 r_p2 q_stationRow q_kinds q_crews q_outs q_standsFor q_spares q_outs_counts q_outs_froms q_outs_tos q_p2_doors q_p2_froms q_p2_tos : Nat) (n_stationRow n_kinds n_crews n_outs_counts n_outs_froms n_outs_tos n_standsFor n_p2_froms n_p2_tos : Nat) (v_count : Int32) (F_stationRow : Nat → Int32) (F_kinds : Nat → Int32) (F_crews : Nat → Int32) (v_outs_most : Int32) (F_outs_counts : Nat → Int32) (F_outs_froms : Nat → Int32) (F_outs_tos : Nat → Int32) (F_standsFor : Nat → Int32) (v_p2_count : Int32) (F_p2_froms : Nat → Int32) (F_p2_tos : Nat → Int32) (x1 x3 : Int32) (n : Nat) (A : Nat → Prop) (args : Array Value) (o : Int32) (C0 : sr_cx p s m args meth c b_V_lowestFreeSpare 5 (some .int) "StationRows$Vehicles" "lowestFreeSpare" (sr_W y_V_lowestFreeSpare b_V_lowestFreeSpare 5 (some .int))) (hK : va_K (dC, dI) vwCl (sr_ty cI cJ cZ) s) (hA : ∀ q, s.heap.size ≤ q → A q)   :
    ∀ (k : Nat) (y4 : Int32) (H : Heap) (locs : List Loc) (ls : Array Slot), f_V_lowestFreeSpare_3 n n_stationRow n_kinds n_crews n_outs_counts n_outs_froms n_outs_tos n_standsFor n_p2_froms n_p2_tos v_count F_stationRow F_kinds F_crews v_outs_most F_outs_counts F_outs_froms F_outs_tos F_standsFor F_p2_froms F_p2_tos x1 x3  k y4 = some o → sr_G (dC, dI) A [(h0, .inr (2, [.ref q_stationRow, .ref q_kinds, .ref q_crews, .ref q_outs, .ref q_standsFor, .ref q_spares, .int v_count])), (q_stationRow, .inl (cI, n_stationRow, .inl F_stationRow)), (q_kinds, .inl (cI, n_kinds, .inl F_kinds)), (q_crews, .inl (cI, n_crews, .inl F_crews)), (q_outs, .inr (0, [.int v_outs_most, .ref q_outs_counts, .ref q_outs_froms, .ref q_outs_tos])), (q_outs_counts, .inl (cI, n_outs_counts, .inl F_outs_counts)), (q_outs_froms, .inl (cI, n_outs_froms, .inl F_outs_froms)), (q_outs_tos, .inl (cI, n_outs_tos, .inl F_outs_tos)), (q_standsFor, .inl (cI, n_standsFor, .inl F_standsFor)), (r_p2, .inr (1, [.ref q_p2_doors, .ref q_p2_froms, .ref q_p2_tos, .int v_p2_count])), (q_p2_froms, .inl (cI, n_p2_froms, .inl F_p2_froms)), (q_p2_tos, .inl (cI, n_p2_tos, .inl F_p2_tos))] s H locs → lv_has ls 5 [(0, .ref h0), (1, .int x1), (2, .ref r_p2), (3, .int x3), (4, .int y4)] → W p l e rm_V_lowestFreeSpare s m args below meth c H locs 0 0 (MQ below (sr_Q (dC, dI) (sr_ty cI cJ cZ) A [(h0, .inr (2, [.ref q_stationRow, .ref q_kinds, .ref q_crews, .ref q_outs, .ref q_standsFor, .ref q_spares, .int v_count])), (q_stationRow, .inl (cI, n_stationRow, .inl F_stationRow)), (q_kinds, .inl (cI, n_kinds, .inl F_kinds)), (q_crews, .inl (cI, n_crews, .inl F_crews)), (q_outs, .inr (0, [.int v_outs_most, .ref q_outs_counts, .ref q_outs_froms, .ref q_outs_tos])), (q_outs_counts, .inl (cI, n_outs_counts, .inl F_outs_counts)), (q_outs_froms, .inl (cI, n_outs_froms, .inl F_outs_froms)), (q_outs_tos, .inl (cI, n_outs_tos, .inl F_outs_tos)), (q_standsFor, .inl (cI, n_standsFor, .inl F_standsFor)), (r_p2, .inr (1, [.ref q_p2_doors, .ref q_p2_froms, .ref q_p2_tos, .int v_p2_count])), (q_p2_froms, .inl (cI, n_p2_froms, .inl F_p2_froms)), (q_p2_tos, .inl (cI, n_p2_tos, .inl F_p2_tos))] (.inl (some (.int o))) s.heap.size) args s rm_V_lowestFreeSpare.cells rm_V_lowestFreeSpare.slots A) (F0 m 3 ls []) := by
  obtain ⟨hx, hb, hml, hr, hown, hts, hlocks, hnm⟩ := id C0
  have hws := sr_hws hts
  intro k
  induction k with
  | zero =>
    intro y4 H locs ls hf
    exact sr_no hf
  | succ k ih =>
    intro y4 H locs ls hf G hl
    replace hf := (f_V_lowestFreeSpare_3_eq n n_stationRow n_kinds n_crews n_outs_counts n_outs_froms n_outs_tos n_standsFor n_p2_froms n_p2_tos v_count F_stationRow F_kinds F_crews v_outs_most F_outs_counts F_outs_froms F_outs_tos F_standsFor F_p2_froms F_p2_tos x1 x3  k y4).symm.trans hf
    refine lv_iload hx hb d_V_lowestFreeSpare_3 (lv_at hl 4 rfl) ?_
    refine lv_aload_n hx hb d_V_lowestFreeSpare_5 rfl (lv_at hl 0 rfl) ?_
    refine va_get (D := (dC, dI)) (ci := 2) (v := .int v_count) (C := "StationRows$Vehicles") (T := zf_V) (N := 7) hx hb hws zi_V hown hK G.1 0 rfl rfl 6 (by decide) (hws _ k_104) (fun _ h9 => h9) rfl d_V_lowestFreeSpare_6 ?_
    refine lv_icmp_ge (tgt := 77) hx hb d_V_lowestFreeSpare_9 (by decide) (fun c1 => ?_) (fun c1 => ?_)
    · replace hf := (if_pos c1).symm.trans hf
      refine lv_iconst (v := (-1)) hx hb d_V_lowestFreeSpare_77 (by decide) ?_
      cases hf
      exact sr_iret hx hb hr hlocks hK G d_V_lowestFreeSpare_78
    replace hf := (if_neg c1).symm.trans hf
    refine lv_aload_n hx hb d_V_lowestFreeSpare_12 rfl (lv_at hl 0 rfl) ?_
    refine lv_iload hx hb d_V_lowestFreeSpare_13 (lv_at hl 4 rfl) ?_
    obtain ⟨o2, ho2, hf⟩ := sr_bd_e hf
    refine sr_callV (ci := 2) (vc := ("StationRows$Vehicles", zf_V, 7)) (wr := [(q_stationRow, .inl (cI, n_stationRow, .inl F_stationRow)), (q_kinds, .inl (cI, n_kinds, .inl F_kinds)), (q_outs, .inr (0, [.int v_outs_most, .ref q_outs_counts, .ref q_outs_froms, .ref q_outs_tos])), (q_outs_counts, .inl (cI, n_outs_counts, .inl F_outs_counts)), (q_outs_froms, .inl (cI, n_outs_froms, .inl F_outs_froms)), (q_outs_tos, .inl (cI, n_outs_tos, .inl F_outs_tos)), (q_standsFor, .inl (cI, n_standsFor, .inl F_standsFor)), (r_p2, .inr (1, [.ref q_p2_doors, .ref q_p2_froms, .ref q_p2_tos, .int v_p2_count])), (q_p2_froms, .inl (cI, n_p2_froms, .inl F_p2_froms)), (q_p2_tos, .inl (cI, n_p2_tos, .inl F_p2_tos))]) (ws1 := [(h0, .inr (2, [.ref q_stationRow, .ref q_kinds, .ref q_crews, .ref q_outs, .ref q_standsFor, .ref q_spares, .int v_count])), (q_stationRow, .inl (cI, n_stationRow, .inl F_stationRow)), (q_kinds, .inl (cI, n_kinds, .inl F_kinds)), (q_crews, .inl (cI, n_crews, .inl F_crews)), (q_outs, .inr (0, [.int v_outs_most, .ref q_outs_counts, .ref q_outs_froms, .ref q_outs_tos])), (q_outs_counts, .inl (cI, n_outs_counts, .inl F_outs_counts)), (q_outs_froms, .inl (cI, n_outs_froms, .inl F_outs_froms)), (q_outs_tos, .inl (cI, n_outs_tos, .inl F_outs_tos)), (q_standsFor, .inl (cI, n_standsFor, .inl F_standsFor)), (r_p2, .inr (1, [.ref q_p2_doors, .ref q_p2_froms, .ref q_p2_tos, .int v_p2_count])), (q_p2_froms, .inl (cI, n_p2_froms, .inl F_p2_froms)), (q_p2_tos, .inl (cI, n_p2_tos, .inl F_p2_tos))]) (rest := []) (st1 := [.int o2]) ⟨hx, hb, hml, hown, hts⟩ (c_V_isSpare l dC dI cI cJ cZ h0 q_stationRow q_kinds q_crews q_outs q_standsFor q_spares n_crews v_count F_crews y4 o2 ho2) ⟨(sr_cB 1 hws k_571 k_28 k_568 (by decide +kernel) ⟨Nat.le_of_ble_eq_true rfl, Nat.le_of_ble_eq_true rfl⟩), hws _ k_570, hws _ k_5⟩ hK G hA [0, 3] [1, 2, 4, 5, 6, 7, 8, 9, 10, 11] [10, 0, 1, 11, 2, 3, 4, 5, 6, 7, 8, 9] rfl (by decide) rfl (by decide) (by decide) rfl (by decide) 0 rfl rfl rfl hl.1 rfl (Nat.le_of_ble_eq_true rfl) d_V_lowestFreeSpare_15 ⟨Nat.le_of_ble_eq_true rfl, Nat.le_of_ble_eq_true rfl⟩ rfl (fun H locs G => ?_)
    refine lv_if_eq (tgt := 71) hx hb d_V_lowestFreeSpare_18 (by decide) (fun c3 => ?_) (fun c3 => ?_)
    · replace hf := (if_pos c3).symm.trans hf
      obtain ⟨z4, ez4⟩ : ∃ y : Int32, y = (y4 + 1) := ⟨_, rfl⟩
      replace hf := sr_nm_u ez4 hf
      refine lv_iinc (v := z4) (lv' := [(4, .int z4), (0, .ref h0), (1, .int x1), (2, .ref r_p2), (3, .int x3)]) hx hb d_V_lowestFreeSpare_71 hl (k := 4) rfl ((sr_inc _ (by decide)).trans ez4.symm) (by decide) rfl (fun ls hl => ?_)
      refine lv_goto (tgt := 3) hx hb d_V_lowestFreeSpare_74 (by decide) ?_
      exact ih z4 _ _ _ hf G (lv_sub hl [1, 2, 3, 4, 0] rfl)
    replace hf := (if_neg c3).symm.trans hf
    refine lv_aload_n hx hb d_V_lowestFreeSpare_21 rfl (lv_at hl 0 rfl) ?_
    refine va_get (D := (dC, dI)) (ci := 2) (v := .ref q_kinds) (C := "StationRows$Vehicles") (T := zf_V) (N := 7) hx hb hws zi_V hown hK G.1 0 rfl rfl 1 (by decide) (hws _ k_99) (fun _ h9 => h9) rfl d_V_lowestFreeSpare_22 ?_
    refine lv_iload hx hb d_V_lowestFreeSpare_25 (lv_at hl 4 rfl) ?_
    obtain ⟨hi5, hf⟩ := sr_bk_e hf
    refine va_iald hx hb hK G.1 2 0 rfl rfl hi5 d_V_lowestFreeSpare_27 ?_
    refine lv_iload_n hx hb d_V_lowestFreeSpare_28 rfl (lv_at hl 1 rfl) ?_
    refine lv_icmp_ne (tgt := 71) hx hb d_V_lowestFreeSpare_29 (by decide) (fun c6 => ?_) (fun c6 => ?_)
    · replace hf := (if_neg c6).symm.trans hf
      obtain ⟨z7, ez7⟩ : ∃ y : Int32, y = (y4 + 1) := ⟨_, rfl⟩
      replace hf := sr_nm_u ez7 hf
      refine lv_iinc (v := z7) (lv' := [(4, .int z7), (0, .ref h0), (1, .int x1), (2, .ref r_p2), (3, .int x3)]) hx hb d_V_lowestFreeSpare_71 hl (k := 4) rfl ((sr_inc _ (by decide)).trans ez7.symm) (by decide) rfl (fun ls hl => ?_)
      refine lv_goto (tgt := 3) hx hb d_V_lowestFreeSpare_74 (by decide) ?_
      exact ih z7 _ _ _ hf G (lv_sub hl [1, 2, 3, 4, 0] rfl)
    replace hf := (if_pos c6).symm.trans hf
    refine lv_aload_n hx hb d_V_lowestFreeSpare_32 rfl (lv_at hl 0 rfl) ?_
    refine va_get (D := (dC, dI)) (ci := 2) (v := .ref q_standsFor) (C := "StationRows$Vehicles") (T := zf_V) (N := 7) hx hb hws zi_V hown hK G.1 0 rfl rfl 4 (by decide) (hws _ k_102) (fun _ h9 => h9) rfl d_V_lowestFreeSpare_33 ?_
    refine lv_iload hx hb d_V_lowestFreeSpare_36 (lv_at hl 4 rfl) ?_
    obtain ⟨hi8, hf⟩ := sr_bk_e hf
    refine va_iald hx hb hK G.1 8 0 rfl rfl hi8 d_V_lowestFreeSpare_38 ?_
    refine lv_iconst (v := (-1)) hx hb d_V_lowestFreeSpare_39 (by decide) ?_
    refine lv_icmp_ne (tgt := 71) hx hb d_V_lowestFreeSpare_40 (by decide) (fun c9 => ?_) (fun c9 => ?_)
    · replace hf := (if_neg c9).symm.trans hf
      obtain ⟨z10, ez10⟩ : ∃ y : Int32, y = (y4 + 1) := ⟨_, rfl⟩
      replace hf := sr_nm_u ez10 hf
      refine lv_iinc (v := z10) (lv' := [(4, .int z10), (0, .ref h0), (1, .int x1), (2, .ref r_p2), (3, .int x3)]) hx hb d_V_lowestFreeSpare_71 hl (k := 4) rfl ((sr_inc _ (by decide)).trans ez10.symm) (by decide) rfl (fun ls hl => ?_)
      refine lv_goto (tgt := 3) hx hb d_V_lowestFreeSpare_74 (by decide) ?_
      exact ih z10 _ _ _ hf G (lv_sub hl [1, 2, 3, 4, 0] rfl)
    replace hf := (if_pos c9).symm.trans hf
    refine lv_aload_n hx hb d_V_lowestFreeSpare_43 rfl (lv_at hl 2 rfl) ?_
    refine lv_aload_n hx hb d_V_lowestFreeSpare_44 rfl (lv_at hl 0 rfl) ?_
    refine va_get (D := (dC, dI)) (ci := 2) (v := .ref q_stationRow) (C := "StationRows$Vehicles") (T := zf_V) (N := 7) hx hb hws zi_V hown hK G.1 0 rfl rfl 0 (by decide) (hws _ k_98) (fun _ h9 => h9) rfl d_V_lowestFreeSpare_45 ?_
    refine lv_iload hx hb d_V_lowestFreeSpare_48 (lv_at hl 4 rfl) ?_
    obtain ⟨hi11, hf⟩ := sr_bk_e hf
    refine va_iald hx hb hK G.1 1 0 rfl rfl hi11 d_V_lowestFreeSpare_50 ?_
    refine lv_iload_n hx hb d_V_lowestFreeSpare_51 rfl (lv_at hl 3 rfl) ?_
    obtain ⟨o12, ho12, hf⟩ := sr_bd_e hf
    refine sr_callV (ci := 1) (vc := ("StationRows$Stations", zf_St, 4)) (wr := [(h0, .inr (2, [.ref q_stationRow, .ref q_kinds, .ref q_crews, .ref q_outs, .ref q_standsFor, .ref q_spares, .int v_count])), (q_stationRow, .inl (cI, n_stationRow, .inl F_stationRow)), (q_kinds, .inl (cI, n_kinds, .inl F_kinds)), (q_crews, .inl (cI, n_crews, .inl F_crews)), (q_outs, .inr (0, [.int v_outs_most, .ref q_outs_counts, .ref q_outs_froms, .ref q_outs_tos])), (q_outs_counts, .inl (cI, n_outs_counts, .inl F_outs_counts)), (q_outs_froms, .inl (cI, n_outs_froms, .inl F_outs_froms)), (q_outs_tos, .inl (cI, n_outs_tos, .inl F_outs_tos)), (q_standsFor, .inl (cI, n_standsFor, .inl F_standsFor))]) (ws1 := [(h0, .inr (2, [.ref q_stationRow, .ref q_kinds, .ref q_crews, .ref q_outs, .ref q_standsFor, .ref q_spares, .int v_count])), (q_stationRow, .inl (cI, n_stationRow, .inl F_stationRow)), (q_kinds, .inl (cI, n_kinds, .inl F_kinds)), (q_crews, .inl (cI, n_crews, .inl F_crews)), (q_outs, .inr (0, [.int v_outs_most, .ref q_outs_counts, .ref q_outs_froms, .ref q_outs_tos])), (q_outs_counts, .inl (cI, n_outs_counts, .inl F_outs_counts)), (q_outs_froms, .inl (cI, n_outs_froms, .inl F_outs_froms)), (q_outs_tos, .inl (cI, n_outs_tos, .inl F_outs_tos)), (q_standsFor, .inl (cI, n_standsFor, .inl F_standsFor)), (r_p2, .inr (1, [.ref q_p2_doors, .ref q_p2_froms, .ref q_p2_tos, .int v_p2_count])), (q_p2_froms, .inl (cI, n_p2_froms, .inl F_p2_froms)), (q_p2_tos, .inl (cI, n_p2_tos, .inl F_p2_tos))]) (rest := []) (st1 := [.int o12]) ⟨hx, hb, hml, hown, hts⟩ (c_St_isThere l dC dI cI cJ cZ r_p2 q_p2_doors q_p2_froms q_p2_tos n_p2_froms n_p2_tos v_p2_count F_p2_froms F_p2_tos (F_stationRow y4.toNatClampNeg) x3 o12 ho12) ⟨(sr_cB 2 hws k_518 k_27 k_581 (by decide +kernel) ⟨Nat.le_of_ble_eq_true rfl, Nat.le_of_ble_eq_true rfl⟩), hws _ k_516, hws _ k_517⟩ hK G hA [9, 10, 11] [0, 1, 2, 3, 4, 5, 6, 7, 8] [0, 1, 2, 3, 4, 5, 6, 7, 8, 9, 10, 11] rfl (by decide) rfl (by decide) (by decide) rfl (by decide) 0 rfl rfl rfl hl.1 rfl (Nat.le_of_ble_eq_true rfl) d_V_lowestFreeSpare_52 ⟨Nat.le_of_ble_eq_true rfl, Nat.le_of_ble_eq_true rfl⟩ rfl (fun H locs G => ?_)
    refine lv_if_eq (tgt := 71) hx hb d_V_lowestFreeSpare_55 (by decide) (fun c13 => ?_) (fun c13 => ?_)
    · replace hf := (if_pos c13).symm.trans hf
      obtain ⟨z14, ez14⟩ : ∃ y : Int32, y = (y4 + 1) := ⟨_, rfl⟩
      replace hf := sr_nm_u ez14 hf
      refine lv_iinc (v := z14) (lv' := [(4, .int z14), (0, .ref h0), (1, .int x1), (2, .ref r_p2), (3, .int x3)]) hx hb d_V_lowestFreeSpare_71 hl (k := 4) rfl ((sr_inc _ (by decide)).trans ez14.symm) (by decide) rfl (fun ls hl => ?_)
      refine lv_goto (tgt := 3) hx hb d_V_lowestFreeSpare_74 (by decide) ?_
      exact ih z14 _ _ _ hf G (lv_sub hl [1, 2, 3, 4, 0] rfl)
    replace hf := (if_neg c13).symm.trans hf
    refine lv_aload_n hx hb d_V_lowestFreeSpare_58 rfl (lv_at hl 0 rfl) ?_
    refine lv_iload hx hb d_V_lowestFreeSpare_59 (lv_at hl 4 rfl) ?_
    refine lv_iload_n hx hb d_V_lowestFreeSpare_61 rfl (lv_at hl 3 rfl) ?_
    obtain ⟨o15, ho15, hf⟩ := sr_bd_e hf
    refine sr_callV (ci := 2) (vc := ("StationRows$Vehicles", zf_V, 7)) (wr := [(q_stationRow, .inl (cI, n_stationRow, .inl F_stationRow)), (q_kinds, .inl (cI, n_kinds, .inl F_kinds)), (q_crews, .inl (cI, n_crews, .inl F_crews)), (q_standsFor, .inl (cI, n_standsFor, .inl F_standsFor)), (r_p2, .inr (1, [.ref q_p2_doors, .ref q_p2_froms, .ref q_p2_tos, .int v_p2_count])), (q_p2_froms, .inl (cI, n_p2_froms, .inl F_p2_froms)), (q_p2_tos, .inl (cI, n_p2_tos, .inl F_p2_tos))]) (ws1 := [(h0, .inr (2, [.ref q_stationRow, .ref q_kinds, .ref q_crews, .ref q_outs, .ref q_standsFor, .ref q_spares, .int v_count])), (q_stationRow, .inl (cI, n_stationRow, .inl F_stationRow)), (q_kinds, .inl (cI, n_kinds, .inl F_kinds)), (q_crews, .inl (cI, n_crews, .inl F_crews)), (q_outs, .inr (0, [.int v_outs_most, .ref q_outs_counts, .ref q_outs_froms, .ref q_outs_tos])), (q_outs_counts, .inl (cI, n_outs_counts, .inl F_outs_counts)), (q_outs_froms, .inl (cI, n_outs_froms, .inl F_outs_froms)), (q_outs_tos, .inl (cI, n_outs_tos, .inl F_outs_tos)), (q_standsFor, .inl (cI, n_standsFor, .inl F_standsFor)), (r_p2, .inr (1, [.ref q_p2_doors, .ref q_p2_froms, .ref q_p2_tos, .int v_p2_count])), (q_p2_froms, .inl (cI, n_p2_froms, .inl F_p2_froms)), (q_p2_tos, .inl (cI, n_p2_tos, .inl F_p2_tos))]) (rest := []) (st1 := [.int o15]) ⟨hx, hb, hml, hown, hts⟩ (c_V_isOut l dC dI cI cJ cZ h0 q_stationRow q_kinds q_crews q_outs q_standsFor q_spares q_outs_counts q_outs_froms q_outs_tos n_outs_counts n_outs_froms n_outs_tos v_count v_outs_most F_outs_counts F_outs_froms F_outs_tos y4 x3 n o15 ho15) ⟨(sr_cB 2 hws k_575 k_28 k_572 (by decide +kernel) ⟨Nat.le_of_ble_eq_true rfl, Nat.le_of_ble_eq_true rfl⟩), hws _ k_573, hws _ k_574⟩ hK G hA [0, 4, 5, 6, 7] [1, 2, 3, 8, 9, 10, 11] [7, 0, 1, 2, 8, 9, 10, 11, 3, 4, 5, 6] rfl (by decide) rfl (by decide) (by decide) rfl (by decide) 0 rfl rfl rfl hl.1 rfl (Nat.le_of_ble_eq_true rfl) d_V_lowestFreeSpare_62 ⟨Nat.le_of_ble_eq_true rfl, Nat.le_of_ble_eq_true rfl⟩ rfl (fun H locs G => ?_)
    refine lv_if_ne (tgt := 71) hx hb d_V_lowestFreeSpare_65 (by decide) (fun c16 => ?_) (fun c16 => ?_)
    · replace hf := (if_neg c16).symm.trans hf
      obtain ⟨z17, ez17⟩ : ∃ y : Int32, y = (y4 + 1) := ⟨_, rfl⟩
      replace hf := sr_nm_u ez17 hf
      refine lv_iinc (v := z17) (lv' := [(4, .int z17), (0, .ref h0), (1, .int x1), (2, .ref r_p2), (3, .int x3)]) hx hb d_V_lowestFreeSpare_71 hl (k := 4) rfl ((sr_inc _ (by decide)).trans ez17.symm) (by decide) rfl (fun ls hl => ?_)
      refine lv_goto (tgt := 3) hx hb d_V_lowestFreeSpare_74 (by decide) ?_
      exact ih z17 _ _ _ hf G (lv_sub hl [1, 2, 3, 4, 0] rfl)
    replace hf := (if_pos c16).symm.trans hf
    refine lv_iload hx hb d_V_lowestFreeSpare_68 (lv_at hl 4 rfl) ?_
    cases hf
    exact sr_iret hx hb hr hlocks hK G d_V_lowestFreeSpare_70
def f_V_lowestFreeSpare (n : Nat) (n_stationRow n_kinds n_crews n_outs_counts n_outs_froms n_outs_tos n_standsFor n_p2_froms n_p2_tos : Nat) (v_count : Int32) (F_stationRow : Nat → Int32) (F_kinds : Nat → Int32) (F_crews : Nat → Int32) (v_outs_most : Int32) (F_outs_counts : Nat → Int32) (F_outs_froms : Nat → Int32) (F_outs_tos : Nat → Int32) (F_standsFor : Nat → Int32) (F_p2_froms : Nat → Int32) (F_p2_tos : Nat → Int32) (x1 x3 : Int32) : Option (Int32) :=
    (f_V_lowestFreeSpare_3 n n_stationRow n_kinds n_crews n_outs_counts n_outs_froms n_outs_tos n_standsFor n_p2_froms n_p2_tos v_count F_stationRow F_kinds F_crews v_outs_most F_outs_counts F_outs_froms F_outs_tos F_standsFor F_p2_froms F_p2_tos x1 x3  n 0)
set_option maxHeartbeats 4000000 in
set_option maxRecDepth 100000 in
theorem c_V_lowestFreeSpare (l : Launch) (dC : Nat → ClassId) (dI : Nat → Nat → Nat) (cI cJ cZ : ClassId) (h0 r_p2 q_stationRow q_kinds q_crews q_outs q_standsFor q_spares q_outs_counts q_outs_froms q_outs_tos q_p2_doors q_p2_froms q_p2_tos : Nat) (n_stationRow n_kinds n_crews n_outs_counts n_outs_froms n_outs_tos n_standsFor n_p2_froms n_p2_tos : Nat) (v_count : Int32) (F_stationRow : Nat → Int32) (F_kinds : Nat → Int32) (F_crews : Nat → Int32) (v_outs_most : Int32) (F_outs_counts : Nat → Int32) (F_outs_froms : Nat → Int32) (F_outs_tos : Nat → Int32) (F_standsFor : Nat → Int32) (v_p2_count : Int32) (F_p2_froms : Nat → Int32) (F_p2_tos : Nat → Int32) (x1 x3 : Int32) (n : Nat) (o : Int32) (hf : f_V_lowestFreeSpare n n_stationRow n_kinds n_crews n_outs_counts n_outs_froms n_outs_tos n_standsFor n_p2_froms n_p2_tos v_count F_stationRow F_kinds F_crews v_outs_most F_outs_counts F_outs_froms F_outs_tos F_standsFor F_p2_froms F_p2_tos x1 x3 = some o) : sr_Ct l y_V_lowestFreeSpare (sr_W y_V_lowestFreeSpare b_V_lowestFreeSpare 5 (some .int)) rm_V_lowestFreeSpare (dC, dI) (sr_ty cI cJ cZ) [.ref h0, .int x1, .ref r_p2, .int x3] [(h0, .inr (2, [.ref q_stationRow, .ref q_kinds, .ref q_crews, .ref q_outs, .ref q_standsFor, .ref q_spares, .int v_count])), (q_stationRow, .inl (cI, n_stationRow, .inl F_stationRow)), (q_kinds, .inl (cI, n_kinds, .inl F_kinds)), (q_crews, .inl (cI, n_crews, .inl F_crews)), (q_outs, .inr (0, [.int v_outs_most, .ref q_outs_counts, .ref q_outs_froms, .ref q_outs_tos])), (q_outs_counts, .inl (cI, n_outs_counts, .inl F_outs_counts)), (q_outs_froms, .inl (cI, n_outs_froms, .inl F_outs_froms)), (q_outs_tos, .inl (cI, n_outs_tos, .inl F_outs_tos)), (q_standsFor, .inl (cI, n_standsFor, .inl F_standsFor)), (r_p2, .inr (1, [.ref q_p2_doors, .ref q_p2_froms, .ref q_p2_tos, .int v_p2_count])), (q_p2_froms, .inl (cI, n_p2_froms, .inl F_p2_froms)), (q_p2_tos, .inl (cI, n_p2_tos, .inl F_p2_tos))] (some (.int o)) [(h0, .inr (2, [.ref q_stationRow, .ref q_kinds, .ref q_crews, .ref q_outs, .ref q_standsFor, .ref q_spares, .int v_count])), (q_stationRow, .inl (cI, n_stationRow, .inl F_stationRow)), (q_kinds, .inl (cI, n_kinds, .inl F_kinds)), (q_crews, .inl (cI, n_crews, .inl F_crews)), (q_outs, .inr (0, [.int v_outs_most, .ref q_outs_counts, .ref q_outs_froms, .ref q_outs_tos])), (q_outs_counts, .inl (cI, n_outs_counts, .inl F_outs_counts)), (q_outs_froms, .inl (cI, n_outs_froms, .inl F_outs_froms)), (q_outs_tos, .inl (cI, n_outs_tos, .inl F_outs_tos)), (q_standsFor, .inl (cI, n_standsFor, .inl F_standsFor)), (r_p2, .inr (1, [.ref q_p2_doors, .ref q_p2_froms, .ref q_p2_tos, .int v_p2_count])), (q_p2_froms, .inl (cI, n_p2_froms, .inl F_p2_froms)), (q_p2_tos, .inl (cI, n_p2_tos, .inl F_p2_tos))] := by
  refine sr_Ct.of (cc := b_V_lowestFreeSpare) (maxL := 5) (ret := (some .int)) (by decide) rfl (Nat.le_of_ble_eq_true rfl) ?_
  intro p e s m below meth c A ls C0 hA hK G hl
  obtain ⟨hx, hb, hml, hr, hown, hts, hlocks, hnm⟩ := id C0
  generalize hargs : ([.ref h0, .int x1, .ref r_p2, .int x3] : List Value).toArray = args at C0 hts ⊢
  have hws := sr_hws hts
  replace hl : lv_has ls 5 [(0, .ref h0), (1, .int x1), (2, .ref r_p2), (3, .int x3)] := hl
  replace hf : (f_V_lowestFreeSpare_3 n n_stationRow n_kinds n_crews n_outs_counts n_outs_froms n_outs_tos n_standsFor n_p2_froms n_p2_tos v_count F_stationRow F_kinds F_crews v_outs_most F_outs_counts F_outs_froms F_outs_tos F_standsFor F_p2_froms F_p2_tos x1 x3  n 0) = some o := hf
  refine lv_iconst (v := 0) hx hb d_V_lowestFreeSpare_0 (by decide) ?_
  refine lv_istore (lv' := [(4, .int 0), (0, .ref h0), (1, .int x1), (2, .ref r_p2), (3, .int x3)]) hx hb d_V_lowestFreeSpare_1 hl (by decide) rfl (fun ls hl => ?_)
  exact w_V_lowestFreeSpare_3 l dC dI cI cJ cZ h0 r_p2 q_stationRow q_kinds q_crews q_outs q_standsFor q_spares q_outs_counts q_outs_froms q_outs_tos q_p2_doors q_p2_froms q_p2_tos n_stationRow n_kinds n_crews n_outs_counts n_outs_froms n_outs_tos n_standsFor n_p2_froms n_p2_tos v_count F_stationRow F_kinds F_crews v_outs_most F_outs_counts F_outs_froms F_outs_tos F_standsFor v_p2_count F_p2_froms F_p2_tos x1 x3 n A args o C0 hK hA   n 0 _ _ _ hf G (lv_sub hl [1, 2, 3, 4, 0] rfl)
/-! StationRows$Vehicles.assignSpares(LStationRows$Stations;I)V -/
abbrev rm_V_assignSpares : Room := { frames := 3, cells := 0, slots := 0, locals := 70 }
def f_V_assignSpares_18 (n : Nat) (n_stationRow n_kinds n_crews n_outs_counts n_outs_froms n_outs_tos n_standsFor n_spares n_p1_froms n_p1_tos : Nat) (v_count : Int32) (F_stationRow : Nat → Int32) (F_kinds : Nat → Int32) (F_crews : Nat → Int32) (v_outs_most : Int32) (F_outs_counts : Nat → Int32) (F_outs_froms : Nat → Int32) (F_outs_tos : Nat → Int32) (F_p1_froms : Nat → Int32) (F_p1_tos : Nat → Int32) (x2 : Int32)  : Nat → Int32 → (Nat → Int32) → (Nat → Int32) → Option ((Nat → Int32) × (Nat → Int32))
  | 0, _, _, _ => none
  | k + 1, y3, F_standsFor, F_spares =>
    (if v_count ≤ y3 then
    (some (F_standsFor, F_spares))
    else
    (sr_bd (f_V_isSpare n_crews F_crews y3) fun o2 =>
    (if o2 = 0 then
    (sr_bd (f_V_isOut n n_outs_counts n_outs_froms n_outs_tos v_outs_most F_outs_counts F_outs_froms F_outs_tos y3 x2) fun o5 =>
    (if o5 = 0 then
    (sr_nm (y3 + 1) fun z14 =>
    (f_V_assignSpares_18 n n_stationRow n_kinds n_crews n_outs_counts n_outs_froms n_outs_tos n_standsFor n_spares n_p1_froms n_p1_tos v_count F_stationRow F_kinds F_crews v_outs_most F_outs_counts F_outs_froms F_outs_tos F_p1_froms F_p1_tos x2  k z14 F_standsFor F_spares))
    else
    (sr_bk y3 n_kinds
    (sr_bd (f_V_lowestFreeSpare n n_stationRow n_kinds n_crews n_outs_counts n_outs_froms n_outs_tos n_standsFor n_p1_froms n_p1_tos v_count F_stationRow F_kinds F_crews v_outs_most F_outs_counts F_outs_froms F_outs_tos F_standsFor F_p1_froms F_p1_tos (F_kinds y3.toNatClampNeg) x2) fun o8 =>
    (if o8 = (-1) then
    (sr_nm (y3 + 1) fun z10 =>
    (f_V_assignSpares_18 n n_stationRow n_kinds n_crews n_outs_counts n_outs_froms n_outs_tos n_standsFor n_spares n_p1_froms n_p1_tos v_count F_stationRow F_kinds F_crews v_outs_most F_outs_counts F_outs_froms F_outs_tos F_p1_froms F_p1_tos x2  k z10 F_standsFor F_spares))
    else
    (sr_bk o8 n_standsFor
    (sr_bk y3 n_spares
    (sr_nm (y3 + 1) fun z13 =>
    (f_V_assignSpares_18 n n_stationRow n_kinds n_crews n_outs_counts n_outs_froms n_outs_tos n_standsFor n_spares n_p1_froms n_p1_tos v_count F_stationRow F_kinds F_crews v_outs_most F_outs_counts F_outs_froms F_outs_tos F_p1_froms F_p1_tos x2  k z13 (upd F_standsFor (o8 : Int32).toNatClampNeg y3) (upd F_spares (y3 : Int32).toNatClampNeg o8))))))))))
    else
    (sr_nm (y3 + 1) fun z4 =>
    (f_V_assignSpares_18 n n_stationRow n_kinds n_crews n_outs_counts n_outs_froms n_outs_tos n_standsFor n_spares n_p1_froms n_p1_tos v_count F_stationRow F_kinds F_crews v_outs_most F_outs_counts F_outs_froms F_outs_tos F_p1_froms F_p1_tos x2  k z4 F_standsFor F_spares)))))
theorem f_V_assignSpares_18_eq (n : Nat) (n_stationRow n_kinds n_crews n_outs_counts n_outs_froms n_outs_tos n_standsFor n_spares n_p1_froms n_p1_tos : Nat) (v_count : Int32) (F_stationRow : Nat → Int32) (F_kinds : Nat → Int32) (F_crews : Nat → Int32) (v_outs_most : Int32) (F_outs_counts : Nat → Int32) (F_outs_froms : Nat → Int32) (F_outs_tos : Nat → Int32) (F_p1_froms : Nat → Int32) (F_p1_tos : Nat → Int32) (x2 : Int32)  (k : Nat) (y3 : Int32) (F_standsFor : Nat → Int32) (F_spares : Nat → Int32) : f_V_assignSpares_18 n n_stationRow n_kinds n_crews n_outs_counts n_outs_froms n_outs_tos n_standsFor n_spares n_p1_froms n_p1_tos v_count F_stationRow F_kinds F_crews v_outs_most F_outs_counts F_outs_froms F_outs_tos F_p1_froms F_p1_tos x2  (k + 1) y3 F_standsFor F_spares =
    (if v_count ≤ y3 then
    (some (F_standsFor, F_spares))
    else
    (sr_bd (f_V_isSpare n_crews F_crews y3) fun o2 =>
    (if o2 = 0 then
    (sr_bd (f_V_isOut n n_outs_counts n_outs_froms n_outs_tos v_outs_most F_outs_counts F_outs_froms F_outs_tos y3 x2) fun o5 =>
    (if o5 = 0 then
    (sr_nm (y3 + 1) fun z14 =>
    (f_V_assignSpares_18 n n_stationRow n_kinds n_crews n_outs_counts n_outs_froms n_outs_tos n_standsFor n_spares n_p1_froms n_p1_tos v_count F_stationRow F_kinds F_crews v_outs_most F_outs_counts F_outs_froms F_outs_tos F_p1_froms F_p1_tos x2  k z14 F_standsFor F_spares))
    else
    (sr_bk y3 n_kinds
    (sr_bd (f_V_lowestFreeSpare n n_stationRow n_kinds n_crews n_outs_counts n_outs_froms n_outs_tos n_standsFor n_p1_froms n_p1_tos v_count F_stationRow F_kinds F_crews v_outs_most F_outs_counts F_outs_froms F_outs_tos F_standsFor F_p1_froms F_p1_tos (F_kinds y3.toNatClampNeg) x2) fun o8 =>
    (if o8 = (-1) then
    (sr_nm (y3 + 1) fun z10 =>
    (f_V_assignSpares_18 n n_stationRow n_kinds n_crews n_outs_counts n_outs_froms n_outs_tos n_standsFor n_spares n_p1_froms n_p1_tos v_count F_stationRow F_kinds F_crews v_outs_most F_outs_counts F_outs_froms F_outs_tos F_p1_froms F_p1_tos x2  k z10 F_standsFor F_spares))
    else
    (sr_bk o8 n_standsFor
    (sr_bk y3 n_spares
    (sr_nm (y3 + 1) fun z13 =>
    (f_V_assignSpares_18 n n_stationRow n_kinds n_crews n_outs_counts n_outs_froms n_outs_tos n_standsFor n_spares n_p1_froms n_p1_tos v_count F_stationRow F_kinds F_crews v_outs_most F_outs_counts F_outs_froms F_outs_tos F_p1_froms F_p1_tos x2  k z13 (upd F_standsFor (o8 : Int32).toNatClampNeg y3) (upd F_spares (y3 : Int32).toNatClampNeg o8))))))))))
    else
    (sr_nm (y3 + 1) fun z4 =>
    (f_V_assignSpares_18 n n_stationRow n_kinds n_crews n_outs_counts n_outs_froms n_outs_tos n_standsFor n_spares n_p1_froms n_p1_tos v_count F_stationRow F_kinds F_crews v_outs_most F_outs_counts F_outs_froms F_outs_tos F_p1_froms F_p1_tos x2  k z4 F_standsFor F_spares))))) := rfl
set_option maxHeartbeats 4000000 in
set_option maxRecDepth 100000 in
theorem w_V_assignSpares_18 (l : Launch) {p : Program} {e : Env} {s : State} {m : MethodId} {below : List Frame} {meth : Method} {c : Code} (dC : Nat → ClassId) (dI : Nat → Nat → Nat) (cI cJ cZ : ClassId) (h0 r_p1 q_stationRow q_kinds q_crews q_outs q_standsFor q_spares q_outs_counts q_outs_froms q_outs_tos q_p1_doors q_p1_froms q_p1_tos : Nat) (n_stationRow n_kinds n_crews n_outs_counts n_outs_froms n_outs_tos n_standsFor n_spares n_p1_froms n_p1_tos : Nat) (v_count : Int32) (F_stationRow : Nat → Int32) (F_kinds : Nat → Int32) (F_crews : Nat → Int32) (v_outs_most : Int32) (F_outs_counts : Nat → Int32) (F_outs_froms : Nat → Int32) (F_outs_tos : Nat → Int32) (v_p1_count : Int32) (F_p1_froms : Nat → Int32) (F_p1_tos : Nat → Int32) (x2 : Int32) (n : Nat) (A : Nat → Prop) (args : Array Value) (o : (Nat → Int32) × (Nat → Int32)) (C0 : sr_cx p s m args meth c b_V_assignSpares 5 none "StationRows$Vehicles" "assignSpares" (sr_W y_V_assignSpares b_V_assignSpares 5 none)) (hK : va_K (dC, dI) vwCl (sr_ty cI cJ cZ) s) (hA : ∀ q, s.heap.size ≤ q → A q)   :
    ∀ (k : Nat) (y3 : Int32) (F_standsFor : Nat → Int32) (F_spares : Nat → Int32) (H : Heap) (locs : List Loc) (ls : Array Slot), f_V_assignSpares_18 n n_stationRow n_kinds n_crews n_outs_counts n_outs_froms n_outs_tos n_standsFor n_spares n_p1_froms n_p1_tos v_count F_stationRow F_kinds F_crews v_outs_most F_outs_counts F_outs_froms F_outs_tos F_p1_froms F_p1_tos x2  k y3 F_standsFor F_spares = some o → sr_G (dC, dI) A [(h0, .inr (2, [.ref q_stationRow, .ref q_kinds, .ref q_crews, .ref q_outs, .ref q_standsFor, .ref q_spares, .int v_count])), (q_stationRow, .inl (cI, n_stationRow, .inl F_stationRow)), (q_kinds, .inl (cI, n_kinds, .inl F_kinds)), (q_crews, .inl (cI, n_crews, .inl F_crews)), (q_outs, .inr (0, [.int v_outs_most, .ref q_outs_counts, .ref q_outs_froms, .ref q_outs_tos])), (q_outs_counts, .inl (cI, n_outs_counts, .inl F_outs_counts)), (q_outs_froms, .inl (cI, n_outs_froms, .inl F_outs_froms)), (q_outs_tos, .inl (cI, n_outs_tos, .inl F_outs_tos)), (q_standsFor, .inl (cI, n_standsFor, .inl F_standsFor)), (q_spares, .inl (cI, n_spares, .inl F_spares)), (r_p1, .inr (1, [.ref q_p1_doors, .ref q_p1_froms, .ref q_p1_tos, .int v_p1_count])), (q_p1_froms, .inl (cI, n_p1_froms, .inl F_p1_froms)), (q_p1_tos, .inl (cI, n_p1_tos, .inl F_p1_tos))] s H locs → lv_has ls 5 [(0, .ref h0), (1, .ref r_p1), (2, .int x2), (3, .int y3)] → W p l e rm_V_assignSpares s m args below meth c H locs 0 0 (MQ below (sr_Q (dC, dI) (sr_ty cI cJ cZ) A [(h0, .inr (2, [.ref q_stationRow, .ref q_kinds, .ref q_crews, .ref q_outs, .ref q_standsFor, .ref q_spares, .int v_count])), (q_stationRow, .inl (cI, n_stationRow, .inl F_stationRow)), (q_kinds, .inl (cI, n_kinds, .inl F_kinds)), (q_crews, .inl (cI, n_crews, .inl F_crews)), (q_outs, .inr (0, [.int v_outs_most, .ref q_outs_counts, .ref q_outs_froms, .ref q_outs_tos])), (q_outs_counts, .inl (cI, n_outs_counts, .inl F_outs_counts)), (q_outs_froms, .inl (cI, n_outs_froms, .inl F_outs_froms)), (q_outs_tos, .inl (cI, n_outs_tos, .inl F_outs_tos)), (q_standsFor, .inl (cI, n_standsFor, .inl o.1)), (q_spares, .inl (cI, n_spares, .inl o.2)), (r_p1, .inr (1, [.ref q_p1_doors, .ref q_p1_froms, .ref q_p1_tos, .int v_p1_count])), (q_p1_froms, .inl (cI, n_p1_froms, .inl F_p1_froms)), (q_p1_tos, .inl (cI, n_p1_tos, .inl F_p1_tos))] (.inl (none)) s.heap.size) args s rm_V_assignSpares.cells rm_V_assignSpares.slots A) (F0 m 18 ls []) := by
  obtain ⟨hx, hb, hml, hr, hown, hts, hlocks, hnm⟩ := id C0
  have hws := sr_hws hts
  intro k
  induction k with
  | zero =>
    intro y3 F_standsFor F_spares H locs ls hf
    exact sr_no hf
  | succ k ih =>
    intro y3 F_standsFor F_spares H locs ls hf G hl
    replace hf := (f_V_assignSpares_18_eq n n_stationRow n_kinds n_crews n_outs_counts n_outs_froms n_outs_tos n_standsFor n_spares n_p1_froms n_p1_tos v_count F_stationRow F_kinds F_crews v_outs_most F_outs_counts F_outs_froms F_outs_tos F_p1_froms F_p1_tos x2  k y3 F_standsFor F_spares).symm.trans hf
    refine lv_iload_n hx hb d_V_assignSpares_18 rfl (lv_at hl 3 rfl) ?_
    refine lv_aload_n hx hb d_V_assignSpares_19 rfl (lv_at hl 0 rfl) ?_
    refine va_get (D := (dC, dI)) (ci := 2) (v := .int v_count) (C := "StationRows$Vehicles") (T := zf_V) (N := 7) hx hb hws zi_V hown hK G.1 0 rfl rfl 6 (by decide) (hws _ k_104) (fun _ h9 => h9) rfl d_V_assignSpares_20 ?_
    refine lv_icmp_ge (tgt := 88) hx hb d_V_assignSpares_23 (by decide) (fun c1 => ?_) (fun c1 => ?_)
    · replace hf := (if_pos c1).symm.trans hf
      cases hf
      exact sr_vret hx hb hr hlocks hK G d_V_assignSpares_88
    replace hf := (if_neg c1).symm.trans hf
    refine lv_aload_n hx hb d_V_assignSpares_26 rfl (lv_at hl 0 rfl) ?_
    refine lv_iload_n hx hb d_V_assignSpares_27 rfl (lv_at hl 3 rfl) ?_
    obtain ⟨o2, ho2, hf⟩ := sr_bd_e hf
    refine sr_callV (ci := 2) (vc := ("StationRows$Vehicles", zf_V, 7)) (wr := [(q_stationRow, .inl (cI, n_stationRow, .inl F_stationRow)), (q_kinds, .inl (cI, n_kinds, .inl F_kinds)), (q_outs, .inr (0, [.int v_outs_most, .ref q_outs_counts, .ref q_outs_froms, .ref q_outs_tos])), (q_outs_counts, .inl (cI, n_outs_counts, .inl F_outs_counts)), (q_outs_froms, .inl (cI, n_outs_froms, .inl F_outs_froms)), (q_outs_tos, .inl (cI, n_outs_tos, .inl F_outs_tos)), (q_standsFor, .inl (cI, n_standsFor, .inl F_standsFor)), (q_spares, .inl (cI, n_spares, .inl F_spares)), (r_p1, .inr (1, [.ref q_p1_doors, .ref q_p1_froms, .ref q_p1_tos, .int v_p1_count])), (q_p1_froms, .inl (cI, n_p1_froms, .inl F_p1_froms)), (q_p1_tos, .inl (cI, n_p1_tos, .inl F_p1_tos))]) (ws1 := [(h0, .inr (2, [.ref q_stationRow, .ref q_kinds, .ref q_crews, .ref q_outs, .ref q_standsFor, .ref q_spares, .int v_count])), (q_stationRow, .inl (cI, n_stationRow, .inl F_stationRow)), (q_kinds, .inl (cI, n_kinds, .inl F_kinds)), (q_crews, .inl (cI, n_crews, .inl F_crews)), (q_outs, .inr (0, [.int v_outs_most, .ref q_outs_counts, .ref q_outs_froms, .ref q_outs_tos])), (q_outs_counts, .inl (cI, n_outs_counts, .inl F_outs_counts)), (q_outs_froms, .inl (cI, n_outs_froms, .inl F_outs_froms)), (q_outs_tos, .inl (cI, n_outs_tos, .inl F_outs_tos)), (q_standsFor, .inl (cI, n_standsFor, .inl F_standsFor)), (q_spares, .inl (cI, n_spares, .inl F_spares)), (r_p1, .inr (1, [.ref q_p1_doors, .ref q_p1_froms, .ref q_p1_tos, .int v_p1_count])), (q_p1_froms, .inl (cI, n_p1_froms, .inl F_p1_froms)), (q_p1_tos, .inl (cI, n_p1_tos, .inl F_p1_tos))]) (rest := []) (st1 := [.int o2]) ⟨hx, hb, hml, hown, hts⟩ (c_V_isSpare l dC dI cI cJ cZ h0 q_stationRow q_kinds q_crews q_outs q_standsFor q_spares n_crews v_count F_crews y3 o2 ho2) ⟨(sr_cB 1 hws k_571 k_28 k_568 (by decide +kernel) ⟨Nat.le_of_ble_eq_true rfl, Nat.le_of_ble_eq_true rfl⟩), hws _ k_570, hws _ k_5⟩ hK G hA [0, 3] [1, 2, 4, 5, 6, 7, 8, 9, 10, 11, 12] [11, 0, 1, 12, 2, 3, 4, 5, 6, 7, 8, 9, 10] rfl (by decide) rfl (by decide) (by decide) rfl (by decide) 0 rfl rfl rfl hl.1 rfl (Nat.le_of_ble_eq_true rfl) d_V_assignSpares_28 ⟨Nat.le_of_ble_eq_true rfl, Nat.le_of_ble_eq_true rfl⟩ rfl (fun H locs G => ?_)
    refine lv_if_ne (tgt := 82) hx hb d_V_assignSpares_31 (by decide) (fun c3 => ?_) (fun c3 => ?_)
    · replace hf := (if_neg c3).symm.trans hf
      obtain ⟨z4, ez4⟩ : ∃ y : Int32, y = (y3 + 1) := ⟨_, rfl⟩
      replace hf := sr_nm_u ez4 hf
      refine lv_iinc (v := z4) (lv' := [(3, .int z4), (0, .ref h0), (1, .ref r_p1), (2, .int x2)]) hx hb d_V_assignSpares_82 hl (k := 3) rfl ((sr_inc _ (by decide)).trans ez4.symm) (by decide) rfl (fun ls hl => ?_)
      refine lv_goto (tgt := 18) hx hb d_V_assignSpares_85 (by decide) ?_
      exact ih z4 F_standsFor F_spares _ _ _ hf G (lv_sub hl [1, 2, 3, 0] rfl)
    replace hf := (if_pos c3).symm.trans hf
    refine lv_aload_n hx hb d_V_assignSpares_34 rfl (lv_at hl 0 rfl) ?_
    refine lv_iload_n hx hb d_V_assignSpares_35 rfl (lv_at hl 3 rfl) ?_
    refine lv_iload_n hx hb d_V_assignSpares_36 rfl (lv_at hl 2 rfl) ?_
    obtain ⟨o5, ho5, hf⟩ := sr_bd_e hf
    refine sr_callV (ci := 2) (vc := ("StationRows$Vehicles", zf_V, 7)) (wr := [(q_stationRow, .inl (cI, n_stationRow, .inl F_stationRow)), (q_kinds, .inl (cI, n_kinds, .inl F_kinds)), (q_crews, .inl (cI, n_crews, .inl F_crews)), (q_standsFor, .inl (cI, n_standsFor, .inl F_standsFor)), (q_spares, .inl (cI, n_spares, .inl F_spares)), (r_p1, .inr (1, [.ref q_p1_doors, .ref q_p1_froms, .ref q_p1_tos, .int v_p1_count])), (q_p1_froms, .inl (cI, n_p1_froms, .inl F_p1_froms)), (q_p1_tos, .inl (cI, n_p1_tos, .inl F_p1_tos))]) (ws1 := [(h0, .inr (2, [.ref q_stationRow, .ref q_kinds, .ref q_crews, .ref q_outs, .ref q_standsFor, .ref q_spares, .int v_count])), (q_stationRow, .inl (cI, n_stationRow, .inl F_stationRow)), (q_kinds, .inl (cI, n_kinds, .inl F_kinds)), (q_crews, .inl (cI, n_crews, .inl F_crews)), (q_outs, .inr (0, [.int v_outs_most, .ref q_outs_counts, .ref q_outs_froms, .ref q_outs_tos])), (q_outs_counts, .inl (cI, n_outs_counts, .inl F_outs_counts)), (q_outs_froms, .inl (cI, n_outs_froms, .inl F_outs_froms)), (q_outs_tos, .inl (cI, n_outs_tos, .inl F_outs_tos)), (q_standsFor, .inl (cI, n_standsFor, .inl F_standsFor)), (q_spares, .inl (cI, n_spares, .inl F_spares)), (r_p1, .inr (1, [.ref q_p1_doors, .ref q_p1_froms, .ref q_p1_tos, .int v_p1_count])), (q_p1_froms, .inl (cI, n_p1_froms, .inl F_p1_froms)), (q_p1_tos, .inl (cI, n_p1_tos, .inl F_p1_tos))]) (rest := []) (st1 := [.int o5]) ⟨hx, hb, hml, hown, hts⟩ (c_V_isOut l dC dI cI cJ cZ h0 q_stationRow q_kinds q_crews q_outs q_standsFor q_spares q_outs_counts q_outs_froms q_outs_tos n_outs_counts n_outs_froms n_outs_tos v_count v_outs_most F_outs_counts F_outs_froms F_outs_tos y3 x2 n o5 ho5) ⟨(sr_cB 2 hws k_575 k_28 k_572 (by decide +kernel) ⟨Nat.le_of_ble_eq_true rfl, Nat.le_of_ble_eq_true rfl⟩), hws _ k_573, hws _ k_574⟩ hK G hA [0, 4, 5, 6, 7] [1, 2, 3, 8, 9, 10, 11, 12] [8, 0, 1, 2, 9, 10, 11, 12, 3, 4, 5, 6, 7] rfl (by decide) rfl (by decide) (by decide) rfl (by decide) 0 rfl rfl rfl hl.1 rfl (Nat.le_of_ble_eq_true rfl) d_V_assignSpares_37 ⟨Nat.le_of_ble_eq_true rfl, Nat.le_of_ble_eq_true rfl⟩ rfl (fun H locs G => ?_)
    refine lv_if_ne (tgt := 46) hx hb d_V_assignSpares_40 (by decide) (fun c6 => ?_) (fun c6 => ?_)
    · replace hf := (if_neg c6).symm.trans hf
      refine lv_aload_n hx hb d_V_assignSpares_46 rfl (lv_at hl 0 rfl) ?_
      refine lv_aload_n hx hb d_V_assignSpares_47 rfl (lv_at hl 0 rfl) ?_
      refine va_get (D := (dC, dI)) (ci := 2) (v := .ref q_kinds) (C := "StationRows$Vehicles") (T := zf_V) (N := 7) hx hb hws zi_V hown hK G.1 0 rfl rfl 1 (by decide) (hws _ k_99) (fun _ h9 => h9) rfl d_V_assignSpares_48 ?_
      refine lv_iload_n hx hb d_V_assignSpares_51 rfl (lv_at hl 3 rfl) ?_
      obtain ⟨hi7, hf⟩ := sr_bk_e hf
      refine va_iald hx hb hK G.1 2 0 rfl rfl hi7 d_V_assignSpares_52 ?_
      refine lv_aload_n hx hb d_V_assignSpares_53 rfl (lv_at hl 1 rfl) ?_
      refine lv_iload_n hx hb d_V_assignSpares_54 rfl (lv_at hl 2 rfl) ?_
      obtain ⟨o8, ho8, hf⟩ := sr_bd_e hf
      refine sr_callV (ci := 2) (vc := ("StationRows$Vehicles", zf_V, 7)) (wr := [(q_spares, .inl (cI, n_spares, .inl F_spares))]) (ws1 := [(h0, .inr (2, [.ref q_stationRow, .ref q_kinds, .ref q_crews, .ref q_outs, .ref q_standsFor, .ref q_spares, .int v_count])), (q_stationRow, .inl (cI, n_stationRow, .inl F_stationRow)), (q_kinds, .inl (cI, n_kinds, .inl F_kinds)), (q_crews, .inl (cI, n_crews, .inl F_crews)), (q_outs, .inr (0, [.int v_outs_most, .ref q_outs_counts, .ref q_outs_froms, .ref q_outs_tos])), (q_outs_counts, .inl (cI, n_outs_counts, .inl F_outs_counts)), (q_outs_froms, .inl (cI, n_outs_froms, .inl F_outs_froms)), (q_outs_tos, .inl (cI, n_outs_tos, .inl F_outs_tos)), (q_standsFor, .inl (cI, n_standsFor, .inl F_standsFor)), (q_spares, .inl (cI, n_spares, .inl F_spares)), (r_p1, .inr (1, [.ref q_p1_doors, .ref q_p1_froms, .ref q_p1_tos, .int v_p1_count])), (q_p1_froms, .inl (cI, n_p1_froms, .inl F_p1_froms)), (q_p1_tos, .inl (cI, n_p1_tos, .inl F_p1_tos))]) (rest := []) (st1 := [.int o8]) ⟨hx, hb, hml, hown, hts⟩ (c_V_lowestFreeSpare l dC dI cI cJ cZ h0 r_p1 q_stationRow q_kinds q_crews q_outs q_standsFor q_spares q_outs_counts q_outs_froms q_outs_tos q_p1_doors q_p1_froms q_p1_tos n_stationRow n_kinds n_crews n_outs_counts n_outs_froms n_outs_tos n_standsFor n_p1_froms n_p1_tos v_count F_stationRow F_kinds F_crews v_outs_most F_outs_counts F_outs_froms F_outs_tos F_standsFor v_p1_count F_p1_froms F_p1_tos (F_kinds y3.toNatClampNeg) x2 n o8 ho8) ⟨(sr_cB 3 hws k_580 k_28 k_577 (by decide +kernel) ⟨Nat.le_of_ble_eq_true rfl, Nat.le_of_ble_eq_true rfl⟩), hws _ k_579, hws _ k_6⟩ hK G hA [0, 1, 2, 3, 4, 5, 6, 7, 8, 10, 11, 12] [9] [1, 2, 3, 4, 5, 6, 7, 8, 9, 0, 10, 11, 12] rfl (by decide) rfl (by decide) (by decide) rfl (by decide) 0 rfl rfl rfl hl.1 rfl (Nat.le_of_ble_eq_true rfl) d_V_assignSpares_55 ⟨Nat.le_of_ble_eq_true rfl, Nat.le_of_ble_eq_true rfl⟩ rfl (fun H locs G => ?_)
      refine lv_istore (lv' := [(4, .int o8), (0, .ref h0), (1, .ref r_p1), (2, .int x2), (3, .int y3)]) hx hb d_V_assignSpares_58 hl (by decide) rfl (fun ls hl => ?_)
      refine lv_iload hx hb d_V_assignSpares_60 (lv_at hl 0 rfl) ?_
      refine lv_iconst (v := (-1)) hx hb d_V_assignSpares_62 (by decide) ?_
      refine lv_icmp_eq (tgt := 82) hx hb d_V_assignSpares_63 (by decide) (fun c9 => ?_) (fun c9 => ?_)
      · replace hf := (if_pos c9).symm.trans hf
        obtain ⟨z10, ez10⟩ : ∃ y : Int32, y = (y3 + 1) := ⟨_, rfl⟩
        replace hf := sr_nm_u ez10 hf
        refine lv_iinc (v := z10) (lv' := [(3, .int z10), (4, .int o8), (0, .ref h0), (1, .ref r_p1), (2, .int x2)]) hx hb d_V_assignSpares_82 hl (k := 4) rfl ((sr_inc _ (by decide)).trans ez10.symm) (by decide) rfl (fun ls hl => ?_)
        refine lv_goto (tgt := 18) hx hb d_V_assignSpares_85 (by decide) ?_
        exact ih z10 F_standsFor F_spares _ _ _ hf G (lv_sub hl [2, 3, 4, 0] rfl)
      replace hf := (if_neg c9).symm.trans hf
      refine lv_aload_n hx hb d_V_assignSpares_66 rfl (lv_at hl 1 rfl) ?_
      refine va_get (D := (dC, dI)) (ci := 2) (v := .ref q_standsFor) (C := "StationRows$Vehicles") (T := zf_V) (N := 7) hx hb hws zi_V hown hK G.1 0 rfl rfl 4 (by decide) (hws _ k_102) (fun _ h9 => h9) rfl d_V_assignSpares_67 ?_
      refine lv_iload hx hb d_V_assignSpares_70 (lv_at hl 0 rfl) ?_
      refine lv_iload_n hx hb d_V_assignSpares_72 rfl (lv_at hl 4 rfl) ?_
      obtain ⟨hi11, hf⟩ := sr_bk_e hf
      refine va_iast hx hb hK G.1 G.2.1 G.2.2 8 0 rfl rfl hi11 d_V_assignSpares_73 (fun H locs hP hD hS => ?_)
      have G : sr_G (dC, dI) A [(h0, .inr (2, [.ref q_stationRow, .ref q_kinds, .ref q_crews, .ref q_outs, .ref q_standsFor, .ref q_spares, .int v_count])), (q_stationRow, .inl (cI, n_stationRow, .inl F_stationRow)), (q_kinds, .inl (cI, n_kinds, .inl F_kinds)), (q_crews, .inl (cI, n_crews, .inl F_crews)), (q_outs, .inr (0, [.int v_outs_most, .ref q_outs_counts, .ref q_outs_froms, .ref q_outs_tos])), (q_outs_counts, .inl (cI, n_outs_counts, .inl F_outs_counts)), (q_outs_froms, .inl (cI, n_outs_froms, .inl F_outs_froms)), (q_outs_tos, .inl (cI, n_outs_tos, .inl F_outs_tos)), (q_standsFor, .inl (cI, n_standsFor, .inl (upd F_standsFor (o8 : Int32).toNatClampNeg y3))), (q_spares, .inl (cI, n_spares, .inl F_spares)), (r_p1, .inr (1, [.ref q_p1_doors, .ref q_p1_froms, .ref q_p1_tos, .int v_p1_count])), (q_p1_froms, .inl (cI, n_p1_froms, .inl F_p1_froms)), (q_p1_tos, .inl (cI, n_p1_tos, .inl F_p1_tos))] s H locs := ⟨hP, hD, hS⟩
      refine lv_aload_n hx hb d_V_assignSpares_74 rfl (lv_at hl 1 rfl) ?_
      refine va_get (D := (dC, dI)) (ci := 2) (v := .ref q_spares) (C := "StationRows$Vehicles") (T := zf_V) (N := 7) hx hb hws zi_V hown hK G.1 0 rfl rfl 5 (by decide) (hws _ k_103) (fun _ h9 => h9) rfl d_V_assignSpares_75 ?_
      refine lv_iload_n hx hb d_V_assignSpares_78 rfl (lv_at hl 4 rfl) ?_
      refine lv_iload hx hb d_V_assignSpares_79 (lv_at hl 0 rfl) ?_
      obtain ⟨hi12, hf⟩ := sr_bk_e hf
      refine va_iast hx hb hK G.1 G.2.1 G.2.2 9 0 rfl rfl hi12 d_V_assignSpares_81 (fun H locs hP hD hS => ?_)
      have G : sr_G (dC, dI) A [(h0, .inr (2, [.ref q_stationRow, .ref q_kinds, .ref q_crews, .ref q_outs, .ref q_standsFor, .ref q_spares, .int v_count])), (q_stationRow, .inl (cI, n_stationRow, .inl F_stationRow)), (q_kinds, .inl (cI, n_kinds, .inl F_kinds)), (q_crews, .inl (cI, n_crews, .inl F_crews)), (q_outs, .inr (0, [.int v_outs_most, .ref q_outs_counts, .ref q_outs_froms, .ref q_outs_tos])), (q_outs_counts, .inl (cI, n_outs_counts, .inl F_outs_counts)), (q_outs_froms, .inl (cI, n_outs_froms, .inl F_outs_froms)), (q_outs_tos, .inl (cI, n_outs_tos, .inl F_outs_tos)), (q_standsFor, .inl (cI, n_standsFor, .inl (upd F_standsFor (o8 : Int32).toNatClampNeg y3))), (q_spares, .inl (cI, n_spares, .inl (upd F_spares (y3 : Int32).toNatClampNeg o8))), (r_p1, .inr (1, [.ref q_p1_doors, .ref q_p1_froms, .ref q_p1_tos, .int v_p1_count])), (q_p1_froms, .inl (cI, n_p1_froms, .inl F_p1_froms)), (q_p1_tos, .inl (cI, n_p1_tos, .inl F_p1_tos))] s H locs := ⟨hP, hD, hS⟩
      obtain ⟨z13, ez13⟩ : ∃ y : Int32, y = (y3 + 1) := ⟨_, rfl⟩
      replace hf := sr_nm_u ez13 hf
      refine lv_iinc (v := z13) (lv' := [(3, .int z13), (4, .int o8), (0, .ref h0), (1, .ref r_p1), (2, .int x2)]) hx hb d_V_assignSpares_82 hl (k := 4) rfl ((sr_inc _ (by decide)).trans ez13.symm) (by decide) rfl (fun ls hl => ?_)
      refine lv_goto (tgt := 18) hx hb d_V_assignSpares_85 (by decide) ?_
      exact ih z13 (upd F_standsFor (o8 : Int32).toNatClampNeg y3) (upd F_spares (y3 : Int32).toNatClampNeg o8) _ _ _ hf G (lv_sub hl [2, 3, 4, 0] rfl)
    replace hf := (if_pos c6).symm.trans hf
    refine lv_goto (tgt := 82) hx hb d_V_assignSpares_43 (by decide) ?_
    obtain ⟨z14, ez14⟩ : ∃ y : Int32, y = (y3 + 1) := ⟨_, rfl⟩
    replace hf := sr_nm_u ez14 hf
    refine lv_iinc (v := z14) (lv' := [(3, .int z14), (0, .ref h0), (1, .ref r_p1), (2, .int x2)]) hx hb d_V_assignSpares_82 hl (k := 3) rfl ((sr_inc _ (by decide)).trans ez14.symm) (by decide) rfl (fun ls hl => ?_)
    refine lv_goto (tgt := 18) hx hb d_V_assignSpares_85 (by decide) ?_
    exact ih z14 F_standsFor F_spares _ _ _ hf G (lv_sub hl [1, 2, 3, 0] rfl)
def f_V_assignSpares (n : Nat) (n_stationRow n_kinds n_crews n_outs_counts n_outs_froms n_outs_tos n_standsFor n_spares n_p1_froms n_p1_tos : Nat) (v_count : Int32) (F_stationRow : Nat → Int32) (F_kinds : Nat → Int32) (F_crews : Nat → Int32) (v_outs_most : Int32) (F_outs_counts : Nat → Int32) (F_outs_froms : Nat → Int32) (F_outs_tos : Nat → Int32) (F_standsFor : Nat → Int32) (F_spares : Nat → Int32) (F_p1_froms : Nat → Int32) (F_p1_tos : Nat → Int32) (x2 : Int32) : Option ((Nat → Int32) × (Nat → Int32)) :=
    (sr_bd (f_J_fill n n_standsFor F_standsFor (-1)) fun o1 =>
    (sr_bd (f_J_fill n n_spares F_spares (-1)) fun o2 =>
    (f_V_assignSpares_18 n n_stationRow n_kinds n_crews n_outs_counts n_outs_froms n_outs_tos n_standsFor n_spares n_p1_froms n_p1_tos v_count F_stationRow F_kinds F_crews v_outs_most F_outs_counts F_outs_froms F_outs_tos F_p1_froms F_p1_tos x2  n 0 o1 o2)))
set_option maxHeartbeats 4000000 in
set_option maxRecDepth 100000 in
theorem c_V_assignSpares (l : Launch) (dC : Nat → ClassId) (dI : Nat → Nat → Nat) (cI cJ cZ : ClassId) (h0 r_p1 q_stationRow q_kinds q_crews q_outs q_standsFor q_spares q_outs_counts q_outs_froms q_outs_tos q_p1_doors q_p1_froms q_p1_tos : Nat) (n_stationRow n_kinds n_crews n_outs_counts n_outs_froms n_outs_tos n_standsFor n_spares n_p1_froms n_p1_tos : Nat) (v_count : Int32) (F_stationRow : Nat → Int32) (F_kinds : Nat → Int32) (F_crews : Nat → Int32) (v_outs_most : Int32) (F_outs_counts : Nat → Int32) (F_outs_froms : Nat → Int32) (F_outs_tos : Nat → Int32) (F_standsFor : Nat → Int32) (F_spares : Nat → Int32) (v_p1_count : Int32) (F_p1_froms : Nat → Int32) (F_p1_tos : Nat → Int32) (x2 : Int32) (n : Nat) (o : (Nat → Int32) × (Nat → Int32)) (hf : f_V_assignSpares n n_stationRow n_kinds n_crews n_outs_counts n_outs_froms n_outs_tos n_standsFor n_spares n_p1_froms n_p1_tos v_count F_stationRow F_kinds F_crews v_outs_most F_outs_counts F_outs_froms F_outs_tos F_standsFor F_spares F_p1_froms F_p1_tos x2 = some o) : sr_Ct l y_V_assignSpares (sr_W y_V_assignSpares b_V_assignSpares 5 none) rm_V_assignSpares (dC, dI) (sr_ty cI cJ cZ) [.ref h0, .ref r_p1, .int x2] [(h0, .inr (2, [.ref q_stationRow, .ref q_kinds, .ref q_crews, .ref q_outs, .ref q_standsFor, .ref q_spares, .int v_count])), (q_stationRow, .inl (cI, n_stationRow, .inl F_stationRow)), (q_kinds, .inl (cI, n_kinds, .inl F_kinds)), (q_crews, .inl (cI, n_crews, .inl F_crews)), (q_outs, .inr (0, [.int v_outs_most, .ref q_outs_counts, .ref q_outs_froms, .ref q_outs_tos])), (q_outs_counts, .inl (cI, n_outs_counts, .inl F_outs_counts)), (q_outs_froms, .inl (cI, n_outs_froms, .inl F_outs_froms)), (q_outs_tos, .inl (cI, n_outs_tos, .inl F_outs_tos)), (q_standsFor, .inl (cI, n_standsFor, .inl F_standsFor)), (q_spares, .inl (cI, n_spares, .inl F_spares)), (r_p1, .inr (1, [.ref q_p1_doors, .ref q_p1_froms, .ref q_p1_tos, .int v_p1_count])), (q_p1_froms, .inl (cI, n_p1_froms, .inl F_p1_froms)), (q_p1_tos, .inl (cI, n_p1_tos, .inl F_p1_tos))] (none) [(h0, .inr (2, [.ref q_stationRow, .ref q_kinds, .ref q_crews, .ref q_outs, .ref q_standsFor, .ref q_spares, .int v_count])), (q_stationRow, .inl (cI, n_stationRow, .inl F_stationRow)), (q_kinds, .inl (cI, n_kinds, .inl F_kinds)), (q_crews, .inl (cI, n_crews, .inl F_crews)), (q_outs, .inr (0, [.int v_outs_most, .ref q_outs_counts, .ref q_outs_froms, .ref q_outs_tos])), (q_outs_counts, .inl (cI, n_outs_counts, .inl F_outs_counts)), (q_outs_froms, .inl (cI, n_outs_froms, .inl F_outs_froms)), (q_outs_tos, .inl (cI, n_outs_tos, .inl F_outs_tos)), (q_standsFor, .inl (cI, n_standsFor, .inl o.1)), (q_spares, .inl (cI, n_spares, .inl o.2)), (r_p1, .inr (1, [.ref q_p1_doors, .ref q_p1_froms, .ref q_p1_tos, .int v_p1_count])), (q_p1_froms, .inl (cI, n_p1_froms, .inl F_p1_froms)), (q_p1_tos, .inl (cI, n_p1_tos, .inl F_p1_tos))] := by
  refine sr_Ct.of (cc := b_V_assignSpares) (maxL := 5) (ret := none) (by decide) rfl (Nat.le_of_ble_eq_true rfl) ?_
  intro p e s m below meth c A ls C0 hA hK G hl
  obtain ⟨hx, hb, hml, hr, hown, hts, hlocks, hnm⟩ := id C0
  generalize hargs : ([.ref h0, .ref r_p1, .int x2] : List Value).toArray = args at C0 hts ⊢
  have hws := sr_hws hts
  replace hl : lv_has ls 5 [(0, .ref h0), (1, .ref r_p1), (2, .int x2)] := hl
  replace hf : (sr_bd (f_J_fill n n_standsFor F_standsFor (-1)) fun o1 =>
    (sr_bd (f_J_fill n n_spares F_spares (-1)) fun o2 =>
    (f_V_assignSpares_18 n n_stationRow n_kinds n_crews n_outs_counts n_outs_froms n_outs_tos n_standsFor n_spares n_p1_froms n_p1_tos v_count F_stationRow F_kinds F_crews v_outs_most F_outs_counts F_outs_froms F_outs_tos F_p1_froms F_p1_tos x2  n 0 o1 o2))) = some o := hf
  refine lv_aload_n hx hb d_V_assignSpares_0 rfl (lv_at hl 0 rfl) ?_
  refine va_get (D := (dC, dI)) (ci := 2) (v := .ref q_standsFor) (C := "StationRows$Vehicles") (T := zf_V) (N := 7) hx hb hws zi_V hown hK G.1 0 rfl rfl 4 (by decide) (hws _ k_102) (fun _ h9 => h9) rfl d_V_assignSpares_1 ?_
  refine lv_iconst (v := (-1)) hx hb d_V_assignSpares_4 (by decide) ?_
  obtain ⟨o1, ho1, hf⟩ := sr_bd_e hf
  refine sr_callS (wr := [(h0, .inr (2, [.ref q_stationRow, .ref q_kinds, .ref q_crews, .ref q_outs, .ref q_standsFor, .ref q_spares, .int v_count])), (q_stationRow, .inl (cI, n_stationRow, .inl F_stationRow)), (q_kinds, .inl (cI, n_kinds, .inl F_kinds)), (q_crews, .inl (cI, n_crews, .inl F_crews)), (q_outs, .inr (0, [.int v_outs_most, .ref q_outs_counts, .ref q_outs_froms, .ref q_outs_tos])), (q_outs_counts, .inl (cI, n_outs_counts, .inl F_outs_counts)), (q_outs_froms, .inl (cI, n_outs_froms, .inl F_outs_froms)), (q_outs_tos, .inl (cI, n_outs_tos, .inl F_outs_tos)), (q_spares, .inl (cI, n_spares, .inl F_spares)), (r_p1, .inr (1, [.ref q_p1_doors, .ref q_p1_froms, .ref q_p1_tos, .int v_p1_count])), (q_p1_froms, .inl (cI, n_p1_froms, .inl F_p1_froms)), (q_p1_tos, .inl (cI, n_p1_tos, .inl F_p1_tos))]) (ws1 := [(h0, .inr (2, [.ref q_stationRow, .ref q_kinds, .ref q_crews, .ref q_outs, .ref q_standsFor, .ref q_spares, .int v_count])), (q_stationRow, .inl (cI, n_stationRow, .inl F_stationRow)), (q_kinds, .inl (cI, n_kinds, .inl F_kinds)), (q_crews, .inl (cI, n_crews, .inl F_crews)), (q_outs, .inr (0, [.int v_outs_most, .ref q_outs_counts, .ref q_outs_froms, .ref q_outs_tos])), (q_outs_counts, .inl (cI, n_outs_counts, .inl F_outs_counts)), (q_outs_froms, .inl (cI, n_outs_froms, .inl F_outs_froms)), (q_outs_tos, .inl (cI, n_outs_tos, .inl F_outs_tos)), (q_standsFor, .inl (cI, n_standsFor, .inl o1)), (q_spares, .inl (cI, n_spares, .inl F_spares)), (r_p1, .inr (1, [.ref q_p1_doors, .ref q_p1_froms, .ref q_p1_tos, .int v_p1_count])), (q_p1_froms, .inl (cI, n_p1_froms, .inl F_p1_froms)), (q_p1_tos, .inl (cI, n_p1_tos, .inl F_p1_tos))]) (rest := []) (st1 := []) ⟨hx, hb, hml, hown, hts⟩ (c_J_fill l dC dI cI cJ cZ q_standsFor n_standsFor F_standsFor (-1) n o1 ho1) ⟨(sr_cB 2 hws k_567 k_42 k_565 (by decide +kernel) ⟨Nat.le_of_ble_eq_true rfl, Nat.le_of_ble_eq_true rfl⟩), hws _ k_566⟩ hK G hA [8] [0, 1, 2, 3, 4, 5, 6, 7, 9, 10, 11, 12] [0, 1, 2, 3, 4, 5, 6, 7, 12, 8, 9, 10, 11] rfl (by decide) rfl (by decide) (by decide) rfl (by decide) rfl hl.1 rfl (Nat.le_of_ble_eq_true rfl) d_V_assignSpares_5 ⟨Nat.le_of_ble_eq_true rfl, Nat.le_of_ble_eq_true rfl⟩ rfl (fun H locs G => ?_)
  refine lv_aload_n hx hb d_V_assignSpares_8 rfl (lv_at hl 0 rfl) ?_
  refine va_get (D := (dC, dI)) (ci := 2) (v := .ref q_spares) (C := "StationRows$Vehicles") (T := zf_V) (N := 7) hx hb hws zi_V hown hK G.1 0 rfl rfl 5 (by decide) (hws _ k_103) (fun _ h9 => h9) rfl d_V_assignSpares_9 ?_
  refine lv_iconst (v := (-1)) hx hb d_V_assignSpares_12 (by decide) ?_
  obtain ⟨o2, ho2, hf⟩ := sr_bd_e hf
  refine sr_callS (wr := [(h0, .inr (2, [.ref q_stationRow, .ref q_kinds, .ref q_crews, .ref q_outs, .ref q_standsFor, .ref q_spares, .int v_count])), (q_stationRow, .inl (cI, n_stationRow, .inl F_stationRow)), (q_kinds, .inl (cI, n_kinds, .inl F_kinds)), (q_crews, .inl (cI, n_crews, .inl F_crews)), (q_outs, .inr (0, [.int v_outs_most, .ref q_outs_counts, .ref q_outs_froms, .ref q_outs_tos])), (q_outs_counts, .inl (cI, n_outs_counts, .inl F_outs_counts)), (q_outs_froms, .inl (cI, n_outs_froms, .inl F_outs_froms)), (q_outs_tos, .inl (cI, n_outs_tos, .inl F_outs_tos)), (q_standsFor, .inl (cI, n_standsFor, .inl o1)), (r_p1, .inr (1, [.ref q_p1_doors, .ref q_p1_froms, .ref q_p1_tos, .int v_p1_count])), (q_p1_froms, .inl (cI, n_p1_froms, .inl F_p1_froms)), (q_p1_tos, .inl (cI, n_p1_tos, .inl F_p1_tos))]) (ws1 := [(h0, .inr (2, [.ref q_stationRow, .ref q_kinds, .ref q_crews, .ref q_outs, .ref q_standsFor, .ref q_spares, .int v_count])), (q_stationRow, .inl (cI, n_stationRow, .inl F_stationRow)), (q_kinds, .inl (cI, n_kinds, .inl F_kinds)), (q_crews, .inl (cI, n_crews, .inl F_crews)), (q_outs, .inr (0, [.int v_outs_most, .ref q_outs_counts, .ref q_outs_froms, .ref q_outs_tos])), (q_outs_counts, .inl (cI, n_outs_counts, .inl F_outs_counts)), (q_outs_froms, .inl (cI, n_outs_froms, .inl F_outs_froms)), (q_outs_tos, .inl (cI, n_outs_tos, .inl F_outs_tos)), (q_standsFor, .inl (cI, n_standsFor, .inl o1)), (q_spares, .inl (cI, n_spares, .inl o2)), (r_p1, .inr (1, [.ref q_p1_doors, .ref q_p1_froms, .ref q_p1_tos, .int v_p1_count])), (q_p1_froms, .inl (cI, n_p1_froms, .inl F_p1_froms)), (q_p1_tos, .inl (cI, n_p1_tos, .inl F_p1_tos))]) (rest := []) (st1 := []) ⟨hx, hb, hml, hown, hts⟩ (c_J_fill l dC dI cI cJ cZ q_spares n_spares F_spares (-1) n o2 ho2) ⟨(sr_cB 2 hws k_567 k_42 k_565 (by decide +kernel) ⟨Nat.le_of_ble_eq_true rfl, Nat.le_of_ble_eq_true rfl⟩), hws _ k_566⟩ hK G hA [9] [0, 1, 2, 3, 4, 5, 6, 7, 8, 10, 11, 12] [0, 1, 2, 3, 4, 5, 6, 7, 8, 12, 9, 10, 11] rfl (by decide) rfl (by decide) (by decide) rfl (by decide) rfl hl.1 rfl (Nat.le_of_ble_eq_true rfl) d_V_assignSpares_13 ⟨Nat.le_of_ble_eq_true rfl, Nat.le_of_ble_eq_true rfl⟩ rfl (fun H locs G => ?_)
  refine lv_iconst (v := 0) hx hb d_V_assignSpares_16 (by decide) ?_
  refine lv_istore_n (lv' := [(3, .int 0), (0, .ref h0), (1, .ref r_p1), (2, .int x2)]) hx hb d_V_assignSpares_17 rfl hl (by decide) rfl (fun ls hl => ?_)
  exact w_V_assignSpares_18 l dC dI cI cJ cZ h0 r_p1 q_stationRow q_kinds q_crews q_outs q_standsFor q_spares q_outs_counts q_outs_froms q_outs_tos q_p1_doors q_p1_froms q_p1_tos n_stationRow n_kinds n_crews n_outs_counts n_outs_froms n_outs_tos n_standsFor n_spares n_p1_froms n_p1_tos v_count F_stationRow F_kinds F_crews v_outs_most F_outs_counts F_outs_froms F_outs_tos v_p1_count F_p1_froms F_p1_tos x2 n A args o C0 hK hA   n 0 o1 o2 _ _ _ hf G (lv_sub hl [1, 2, 3, 0] rfl)
/-! StationRows$Vehicles.wantedBy(II)I -/
abbrev rm_V_wantedBy : Room := { frames := 2, cells := 0, slots := 0, locals := 46 }
def f_V_wantedBy (n : Nat) (n_crews n_outs_counts n_outs_froms n_outs_tos n_standsFor : Nat) (F_crews : Nat → Int32) (v_outs_most : Int32) (F_outs_counts : Nat → Int32) (F_outs_froms : Nat → Int32) (F_outs_tos : Nat → Int32) (F_standsFor : Nat → Int32) (x1 x2 : Int32) : Option (Int32) :=
    (sr_bd (f_V_isOut n n_outs_counts n_outs_froms n_outs_tos v_outs_most F_outs_counts F_outs_froms F_outs_tos x1 x2) fun o1 =>
    (if o1 = 0 then
    (sr_bk x1 n_standsFor
    (sr_nm (F_standsFor x1.toNatClampNeg) fun z4 =>
    (if z4 = (-1) then
    (sr_bk x1 n_crews
    (some (F_crews x1.toNatClampNeg)))
    else
    (sr_bk z4 n_crews
    (some (F_crews z4.toNatClampNeg))))))
    else
    (some 0)))
set_option maxHeartbeats 4000000 in
set_option maxRecDepth 100000 in
theorem c_V_wantedBy (l : Launch) (dC : Nat → ClassId) (dI : Nat → Nat → Nat) (cI cJ cZ : ClassId) (h0 q_stationRow q_kinds q_crews q_outs q_standsFor q_spares q_outs_counts q_outs_froms q_outs_tos : Nat) (n_crews n_outs_counts n_outs_froms n_outs_tos n_standsFor : Nat) (v_count : Int32) (F_crews : Nat → Int32) (v_outs_most : Int32) (F_outs_counts : Nat → Int32) (F_outs_froms : Nat → Int32) (F_outs_tos : Nat → Int32) (F_standsFor : Nat → Int32) (x1 x2 : Int32) (n : Nat) (o : Int32) (hf : f_V_wantedBy n n_crews n_outs_counts n_outs_froms n_outs_tos n_standsFor F_crews v_outs_most F_outs_counts F_outs_froms F_outs_tos F_standsFor x1 x2 = some o) : sr_Ct l y_V_wantedBy (sr_W y_V_wantedBy b_V_wantedBy 4 (some .int)) rm_V_wantedBy (dC, dI) (sr_ty cI cJ cZ) [.ref h0, .int x1, .int x2] [(h0, .inr (2, [.ref q_stationRow, .ref q_kinds, .ref q_crews, .ref q_outs, .ref q_standsFor, .ref q_spares, .int v_count])), (q_crews, .inl (cI, n_crews, .inl F_crews)), (q_outs, .inr (0, [.int v_outs_most, .ref q_outs_counts, .ref q_outs_froms, .ref q_outs_tos])), (q_outs_counts, .inl (cI, n_outs_counts, .inl F_outs_counts)), (q_outs_froms, .inl (cI, n_outs_froms, .inl F_outs_froms)), (q_outs_tos, .inl (cI, n_outs_tos, .inl F_outs_tos)), (q_standsFor, .inl (cI, n_standsFor, .inl F_standsFor))] (some (.int o)) [(h0, .inr (2, [.ref q_stationRow, .ref q_kinds, .ref q_crews, .ref q_outs, .ref q_standsFor, .ref q_spares, .int v_count])), (q_crews, .inl (cI, n_crews, .inl F_crews)), (q_outs, .inr (0, [.int v_outs_most, .ref q_outs_counts, .ref q_outs_froms, .ref q_outs_tos])), (q_outs_counts, .inl (cI, n_outs_counts, .inl F_outs_counts)), (q_outs_froms, .inl (cI, n_outs_froms, .inl F_outs_froms)), (q_outs_tos, .inl (cI, n_outs_tos, .inl F_outs_tos)), (q_standsFor, .inl (cI, n_standsFor, .inl F_standsFor))] := by
  refine sr_Ct.of (cc := b_V_wantedBy) (maxL := 4) (ret := (some .int)) (by decide) rfl (Nat.le_of_ble_eq_true rfl) ?_
  intro p e s m below meth c A ls C0 hA hK G hl
  obtain ⟨hx, hb, hml, hr, hown, hts, hlocks, hnm⟩ := id C0
  generalize hargs : ([.ref h0, .int x1, .int x2] : List Value).toArray = args at C0 hts ⊢
  have hws := sr_hws hts
  replace hl : lv_has ls 4 [(0, .ref h0), (1, .int x1), (2, .int x2)] := hl
  replace hf : (sr_bd (f_V_isOut n n_outs_counts n_outs_froms n_outs_tos v_outs_most F_outs_counts F_outs_froms F_outs_tos x1 x2) fun o1 =>
    (if o1 = 0 then
    (sr_bk x1 n_standsFor
    (sr_nm (F_standsFor x1.toNatClampNeg) fun z4 =>
    (if z4 = (-1) then
    (sr_bk x1 n_crews
    (some (F_crews x1.toNatClampNeg)))
    else
    (sr_bk z4 n_crews
    (some (F_crews z4.toNatClampNeg))))))
    else
    (some 0))) = some o := hf
  refine lv_aload_n hx hb d_V_wantedBy_0 rfl (lv_at hl 0 rfl) ?_
  refine lv_iload_n hx hb d_V_wantedBy_1 rfl (lv_at hl 1 rfl) ?_
  refine lv_iload_n hx hb d_V_wantedBy_2 rfl (lv_at hl 2 rfl) ?_
  obtain ⟨o1, ho1, hf⟩ := sr_bd_e hf
  refine sr_callV (ci := 2) (vc := ("StationRows$Vehicles", zf_V, 7)) (wr := [(q_crews, .inl (cI, n_crews, .inl F_crews)), (q_standsFor, .inl (cI, n_standsFor, .inl F_standsFor))]) (ws1 := [(h0, .inr (2, [.ref q_stationRow, .ref q_kinds, .ref q_crews, .ref q_outs, .ref q_standsFor, .ref q_spares, .int v_count])), (q_crews, .inl (cI, n_crews, .inl F_crews)), (q_outs, .inr (0, [.int v_outs_most, .ref q_outs_counts, .ref q_outs_froms, .ref q_outs_tos])), (q_outs_counts, .inl (cI, n_outs_counts, .inl F_outs_counts)), (q_outs_froms, .inl (cI, n_outs_froms, .inl F_outs_froms)), (q_outs_tos, .inl (cI, n_outs_tos, .inl F_outs_tos)), (q_standsFor, .inl (cI, n_standsFor, .inl F_standsFor))]) (rest := []) (st1 := [.int o1]) ⟨hx, hb, hml, hown, hts⟩ (c_V_isOut l dC dI cI cJ cZ h0 q_stationRow q_kinds q_crews q_outs q_standsFor q_spares q_outs_counts q_outs_froms q_outs_tos n_outs_counts n_outs_froms n_outs_tos v_count v_outs_most F_outs_counts F_outs_froms F_outs_tos x1 x2 n o1 ho1) ⟨(sr_cB 2 hws k_575 k_28 k_572 (by decide +kernel) ⟨Nat.le_of_ble_eq_true rfl, Nat.le_of_ble_eq_true rfl⟩), hws _ k_573, hws _ k_574⟩ hK G hA [0, 2, 3, 4, 5] [1, 6] [2, 0, 3, 4, 5, 6, 1] rfl (by decide) rfl (by decide) (by decide) rfl (by decide) 0 rfl rfl rfl hl.1 rfl (Nat.le_of_ble_eq_true rfl) d_V_wantedBy_3 ⟨Nat.le_of_ble_eq_true rfl, Nat.le_of_ble_eq_true rfl⟩ rfl (fun H locs G => ?_)
  refine lv_if_eq (tgt := 11) hx hb d_V_wantedBy_6 (by decide) (fun c2 => ?_) (fun c2 => ?_)
  · replace hf := (if_pos c2).symm.trans hf
    refine lv_aload_n hx hb d_V_wantedBy_11 rfl (lv_at hl 0 rfl) ?_
    refine va_get (D := (dC, dI)) (ci := 2) (v := .ref q_standsFor) (C := "StationRows$Vehicles") (T := zf_V) (N := 7) hx hb hws zi_V hown hK G.1 0 rfl rfl 4 (by decide) (hws _ k_102) (fun _ h9 => h9) rfl d_V_wantedBy_12 ?_
    refine lv_iload_n hx hb d_V_wantedBy_15 rfl (lv_at hl 1 rfl) ?_
    obtain ⟨hi3, hf⟩ := sr_bk_e hf
    refine va_iald hx hb hK G.1 6 0 rfl rfl hi3 d_V_wantedBy_16 ?_
    refine lv_topi (fun z4 ez4 => ?_)
    replace hf := sr_nm_u ez4 hf
    refine lv_istore_n (lv' := [(3, .int z4), (0, .ref h0), (1, .int x1), (2, .int x2)]) hx hb d_V_wantedBy_17 rfl hl (by decide) rfl (fun ls hl => ?_)
    refine lv_iload_n hx hb d_V_wantedBy_18 rfl (lv_at hl 0 rfl) ?_
    refine lv_iconst (v := (-1)) hx hb d_V_wantedBy_19 (by decide) ?_
    refine lv_icmp_ne (tgt := 32) hx hb d_V_wantedBy_20 (by decide) (fun c5 => ?_) (fun c5 => ?_)
    · replace hf := (if_neg c5).symm.trans hf
      refine lv_aload_n hx hb d_V_wantedBy_32 rfl (lv_at hl 1 rfl) ?_
      refine va_get (D := (dC, dI)) (ci := 2) (v := .ref q_crews) (C := "StationRows$Vehicles") (T := zf_V) (N := 7) hx hb hws zi_V hown hK G.1 0 rfl rfl 2 (by decide) (hws _ k_100) (fun _ h9 => h9) rfl d_V_wantedBy_33 ?_
      refine lv_iload_n hx hb d_V_wantedBy_36 rfl (lv_at hl 0 rfl) ?_
      obtain ⟨hi6, hf⟩ := sr_bk_e hf
      refine va_iald hx hb hK G.1 1 0 rfl rfl hi6 d_V_wantedBy_37 ?_
      cases hf
      exact sr_iret hx hb hr hlocks hK G d_V_wantedBy_38
    replace hf := (if_pos c5).symm.trans hf
    refine lv_aload_n hx hb d_V_wantedBy_23 rfl (lv_at hl 1 rfl) ?_
    refine va_get (D := (dC, dI)) (ci := 2) (v := .ref q_crews) (C := "StationRows$Vehicles") (T := zf_V) (N := 7) hx hb hws zi_V hown hK G.1 0 rfl rfl 2 (by decide) (hws _ k_100) (fun _ h9 => h9) rfl d_V_wantedBy_24 ?_
    refine lv_iload_n hx hb d_V_wantedBy_27 rfl (lv_at hl 2 rfl) ?_
    obtain ⟨hi7, hf⟩ := sr_bk_e hf
    refine va_iald hx hb hK G.1 1 0 rfl rfl hi7 d_V_wantedBy_28 ?_
    refine lv_goto (tgt := 38) hx hb d_V_wantedBy_29 (by decide) ?_
    cases hf
    exact sr_iret hx hb hr hlocks hK G d_V_wantedBy_38
  replace hf := (if_neg c2).symm.trans hf
  refine lv_iconst (v := 0) hx hb d_V_wantedBy_9 (by decide) ?_
  cases hf
  exact sr_iret hx hb hr hlocks hK G d_V_wantedBy_10
/-! StationRows$Vehicles.takenBy(III)I -/
abbrev rm_V_takenBy : Room := { frames := 3, cells := 0, slots := 0, locals := 69 }
def f_V_takenBy (n : Nat) (n_crews n_outs_counts n_outs_froms n_outs_tos n_standsFor : Nat) (F_crews : Nat → Int32) (v_outs_most : Int32) (F_outs_counts : Nat → Int32) (F_outs_froms : Nat → Int32) (F_outs_tos : Nat → Int32) (F_standsFor : Nat → Int32) (x1 x2 x3 : Int32) : Option (Int32) :=
    (sr_bd (f_V_wantedBy n n_crews n_outs_counts n_outs_froms n_outs_tos n_standsFor F_crews v_outs_most F_outs_counts F_outs_froms F_outs_tos F_standsFor x1 x2) fun o1 =>
    (if x3 < o1 then
    (some 0)
    else
    (some o1)))
set_option maxHeartbeats 4000000 in
set_option maxRecDepth 100000 in
theorem c_V_takenBy (l : Launch) (dC : Nat → ClassId) (dI : Nat → Nat → Nat) (cI cJ cZ : ClassId) (h0 q_stationRow q_kinds q_crews q_outs q_standsFor q_spares q_outs_counts q_outs_froms q_outs_tos : Nat) (n_crews n_outs_counts n_outs_froms n_outs_tos n_standsFor : Nat) (v_count : Int32) (F_crews : Nat → Int32) (v_outs_most : Int32) (F_outs_counts : Nat → Int32) (F_outs_froms : Nat → Int32) (F_outs_tos : Nat → Int32) (F_standsFor : Nat → Int32) (x1 x2 x3 : Int32) (n : Nat) (o : Int32) (hf : f_V_takenBy n n_crews n_outs_counts n_outs_froms n_outs_tos n_standsFor F_crews v_outs_most F_outs_counts F_outs_froms F_outs_tos F_standsFor x1 x2 x3 = some o) : sr_Ct l y_V_takenBy (sr_W y_V_takenBy b_V_takenBy 5 (some .int)) rm_V_takenBy (dC, dI) (sr_ty cI cJ cZ) [.ref h0, .int x1, .int x2, .int x3] [(h0, .inr (2, [.ref q_stationRow, .ref q_kinds, .ref q_crews, .ref q_outs, .ref q_standsFor, .ref q_spares, .int v_count])), (q_crews, .inl (cI, n_crews, .inl F_crews)), (q_outs, .inr (0, [.int v_outs_most, .ref q_outs_counts, .ref q_outs_froms, .ref q_outs_tos])), (q_outs_counts, .inl (cI, n_outs_counts, .inl F_outs_counts)), (q_outs_froms, .inl (cI, n_outs_froms, .inl F_outs_froms)), (q_outs_tos, .inl (cI, n_outs_tos, .inl F_outs_tos)), (q_standsFor, .inl (cI, n_standsFor, .inl F_standsFor))] (some (.int o)) [(h0, .inr (2, [.ref q_stationRow, .ref q_kinds, .ref q_crews, .ref q_outs, .ref q_standsFor, .ref q_spares, .int v_count])), (q_crews, .inl (cI, n_crews, .inl F_crews)), (q_outs, .inr (0, [.int v_outs_most, .ref q_outs_counts, .ref q_outs_froms, .ref q_outs_tos])), (q_outs_counts, .inl (cI, n_outs_counts, .inl F_outs_counts)), (q_outs_froms, .inl (cI, n_outs_froms, .inl F_outs_froms)), (q_outs_tos, .inl (cI, n_outs_tos, .inl F_outs_tos)), (q_standsFor, .inl (cI, n_standsFor, .inl F_standsFor))] := by
  refine sr_Ct.of (cc := b_V_takenBy) (maxL := 5) (ret := (some .int)) (by decide) rfl (Nat.le_of_ble_eq_true rfl) ?_
  intro p e s m below meth c A ls C0 hA hK G hl
  obtain ⟨hx, hb, hml, hr, hown, hts, hlocks, hnm⟩ := id C0
  generalize hargs : ([.ref h0, .int x1, .int x2, .int x3] : List Value).toArray = args at C0 hts ⊢
  have hws := sr_hws hts
  replace hl : lv_has ls 5 [(0, .ref h0), (1, .int x1), (2, .int x2), (3, .int x3)] := hl
  replace hf : (sr_bd (f_V_wantedBy n n_crews n_outs_counts n_outs_froms n_outs_tos n_standsFor F_crews v_outs_most F_outs_counts F_outs_froms F_outs_tos F_standsFor x1 x2) fun o1 =>
    (if x3 < o1 then
    (some 0)
    else
    (some o1))) = some o := hf
  refine lv_aload_n hx hb d_V_takenBy_0 rfl (lv_at hl 0 rfl) ?_
  refine lv_iload_n hx hb d_V_takenBy_1 rfl (lv_at hl 1 rfl) ?_
  refine lv_iload_n hx hb d_V_takenBy_2 rfl (lv_at hl 2 rfl) ?_
  obtain ⟨o1, ho1, hf⟩ := sr_bd_e hf
  refine sr_callV (ci := 2) (vc := ("StationRows$Vehicles", zf_V, 7)) (wr := []) (ws1 := [(h0, .inr (2, [.ref q_stationRow, .ref q_kinds, .ref q_crews, .ref q_outs, .ref q_standsFor, .ref q_spares, .int v_count])), (q_crews, .inl (cI, n_crews, .inl F_crews)), (q_outs, .inr (0, [.int v_outs_most, .ref q_outs_counts, .ref q_outs_froms, .ref q_outs_tos])), (q_outs_counts, .inl (cI, n_outs_counts, .inl F_outs_counts)), (q_outs_froms, .inl (cI, n_outs_froms, .inl F_outs_froms)), (q_outs_tos, .inl (cI, n_outs_tos, .inl F_outs_tos)), (q_standsFor, .inl (cI, n_standsFor, .inl F_standsFor))]) (rest := []) (st1 := [.int o1]) ⟨hx, hb, hml, hown, hts⟩ (c_V_wantedBy l dC dI cI cJ cZ h0 q_stationRow q_kinds q_crews q_outs q_standsFor q_spares q_outs_counts q_outs_froms q_outs_tos n_crews n_outs_counts n_outs_froms n_outs_tos n_standsFor v_count F_crews v_outs_most F_outs_counts F_outs_froms F_outs_tos F_standsFor x1 x2 n o1 ho1) ⟨(sr_cB 2 hws k_610 k_28 k_607 (by decide +kernel) ⟨Nat.le_of_ble_eq_true rfl, Nat.le_of_ble_eq_true rfl⟩), hws _ k_609, hws _ k_8⟩ hK G hA [0, 1, 2, 3, 4, 5, 6] [] [0, 1, 2, 3, 4, 5, 6] rfl (by decide) rfl (by decide) (by decide) rfl (by decide) 0 rfl rfl rfl hl.1 rfl (Nat.le_of_ble_eq_true rfl) d_V_takenBy_3 ⟨Nat.le_of_ble_eq_true rfl, Nat.le_of_ble_eq_true rfl⟩ rfl (fun H locs G => ?_)
  refine lv_istore (lv' := [(4, .int o1), (0, .ref h0), (1, .int x1), (2, .int x2), (3, .int x3)]) hx hb d_V_takenBy_6 hl (by decide) rfl (fun ls hl => ?_)
  refine lv_iload hx hb d_V_takenBy_8 (lv_at hl 0 rfl) ?_
  refine lv_iload_n hx hb d_V_takenBy_10 rfl (lv_at hl 4 rfl) ?_
  refine lv_icmp_gt (tgt := 19) hx hb d_V_takenBy_11 (by decide) (fun c2 => ?_) (fun c2 => ?_)
  · replace hf := (if_pos c2).symm.trans hf
    refine lv_iconst (v := 0) hx hb d_V_takenBy_19 (by decide) ?_
    cases hf
    exact sr_iret hx hb hr hlocks hK G d_V_takenBy_20
  replace hf := (if_neg c2).symm.trans hf
  refine lv_iload hx hb d_V_takenBy_14 (lv_at hl 0 rfl) ?_
  refine lv_goto (tgt := 20) hx hb d_V_takenBy_16 (by decide) ?_
  cases hf
  exact sr_iret hx hb hr hlocks hK G d_V_takenBy_20
/-! StationRows$Vehicles.takenBefore(III)I -/
abbrev rm_V_takenBefore : Room := { frames := 4, cells := 0, slots := 0, locals := 93 }
def f_V_takenBefore_6 (n : Nat) (n_stationRow n_crews n_outs_counts n_outs_froms n_outs_tos n_standsFor : Nat) (F_stationRow : Nat → Int32) (F_crews : Nat → Int32) (v_outs_most : Int32) (F_outs_counts : Nat → Int32) (F_outs_froms : Nat → Int32) (F_outs_tos : Nat → Int32) (F_standsFor : Nat → Int32) (x1 x2 x3 : Int32)  : Nat → Int32 → Int32 → Option (Int32)
  | 0, _, _ => none
  | k + 1, y4, y5 =>
    (if x1 ≤ y5 then
    (some y4)
    else
    (sr_bk y5 n_stationRow
    (sr_bk x1 n_stationRow
    (if (F_stationRow y5.toNatClampNeg) = (F_stationRow x1.toNatClampNeg) then
    (sr_bd (f_V_takenBy n n_crews n_outs_counts n_outs_froms n_outs_tos n_standsFor F_crews v_outs_most F_outs_counts F_outs_froms F_outs_tos F_standsFor y5 x2 (x3 - y4)) fun o6 =>
    (sr_nm (y4 + o6) fun z7 =>
    (sr_nm (y5 + 1) fun z8 =>
    (f_V_takenBefore_6 n n_stationRow n_crews n_outs_counts n_outs_froms n_outs_tos n_standsFor F_stationRow F_crews v_outs_most F_outs_counts F_outs_froms F_outs_tos F_standsFor x1 x2 x3  k z7 z8))))
    else
    (sr_nm (y5 + 1) fun z5 =>
    (f_V_takenBefore_6 n n_stationRow n_crews n_outs_counts n_outs_froms n_outs_tos n_standsFor F_stationRow F_crews v_outs_most F_outs_counts F_outs_froms F_outs_tos F_standsFor x1 x2 x3  k y4 z5))))))
theorem f_V_takenBefore_6_eq (n : Nat) (n_stationRow n_crews n_outs_counts n_outs_froms n_outs_tos n_standsFor : Nat) (F_stationRow : Nat → Int32) (F_crews : Nat → Int32) (v_outs_most : Int32) (F_outs_counts : Nat → Int32) (F_outs_froms : Nat → Int32) (F_outs_tos : Nat → Int32) (F_standsFor : Nat → Int32) (x1 x2 x3 : Int32)  (k : Nat) (y4 y5 : Int32) : f_V_takenBefore_6 n n_stationRow n_crews n_outs_counts n_outs_froms n_outs_tos n_standsFor F_stationRow F_crews v_outs_most F_outs_counts F_outs_froms F_outs_tos F_standsFor x1 x2 x3  (k + 1) y4 y5 =
    (if x1 ≤ y5 then
    (some y4)
    else
    (sr_bk y5 n_stationRow
    (sr_bk x1 n_stationRow
    (if (F_stationRow y5.toNatClampNeg) = (F_stationRow x1.toNatClampNeg) then
    (sr_bd (f_V_takenBy n n_crews n_outs_counts n_outs_froms n_outs_tos n_standsFor F_crews v_outs_most F_outs_counts F_outs_froms F_outs_tos F_standsFor y5 x2 (x3 - y4)) fun o6 =>
    (sr_nm (y4 + o6) fun z7 =>
    (sr_nm (y5 + 1) fun z8 =>
    (f_V_takenBefore_6 n n_stationRow n_crews n_outs_counts n_outs_froms n_outs_tos n_standsFor F_stationRow F_crews v_outs_most F_outs_counts F_outs_froms F_outs_tos F_standsFor x1 x2 x3  k z7 z8))))
    else
    (sr_nm (y5 + 1) fun z5 =>
    (f_V_takenBefore_6 n n_stationRow n_crews n_outs_counts n_outs_froms n_outs_tos n_standsFor F_stationRow F_crews v_outs_most F_outs_counts F_outs_froms F_outs_tos F_standsFor x1 x2 x3  k y4 z5)))))) := rfl
set_option maxHeartbeats 4000000 in
set_option maxRecDepth 100000 in
theorem w_V_takenBefore_6 (l : Launch) {p : Program} {e : Env} {s : State} {m : MethodId} {below : List Frame} {meth : Method} {c : Code} (dC : Nat → ClassId) (dI : Nat → Nat → Nat) (cI cJ cZ : ClassId) (h0 q_stationRow q_kinds q_crews q_outs q_standsFor q_spares q_outs_counts q_outs_froms q_outs_tos : Nat) (n_stationRow n_crews n_outs_counts n_outs_froms n_outs_tos n_standsFor : Nat) (v_count : Int32) (F_stationRow : Nat → Int32) (F_crews : Nat → Int32) (v_outs_most : Int32) (F_outs_counts : Nat → Int32) (F_outs_froms : Nat → Int32) (F_outs_tos : Nat → Int32) (F_standsFor : Nat → Int32) (x1 x2 x3 : Int32) (n : Nat) (A : Nat → Prop) (args : Array Value) (o : Int32) (C0 : sr_cx p s m args meth c b_V_takenBefore 6 (some .int) "StationRows$Vehicles" "takenBefore" (sr_W y_V_takenBefore b_V_takenBefore 6 (some .int))) (hK : va_K (dC, dI) vwCl (sr_ty cI cJ cZ) s) (hA : ∀ q, s.heap.size ≤ q → A q)   :
    ∀ (k : Nat) (y4 y5 : Int32) (H : Heap) (locs : List Loc) (ls : Array Slot), f_V_takenBefore_6 n n_stationRow n_crews n_outs_counts n_outs_froms n_outs_tos n_standsFor F_stationRow F_crews v_outs_most F_outs_counts F_outs_froms F_outs_tos F_standsFor x1 x2 x3  k y4 y5 = some o → sr_G (dC, dI) A [(h0, .inr (2, [.ref q_stationRow, .ref q_kinds, .ref q_crews, .ref q_outs, .ref q_standsFor, .ref q_spares, .int v_count])), (q_stationRow, .inl (cI, n_stationRow, .inl F_stationRow)), (q_crews, .inl (cI, n_crews, .inl F_crews)), (q_outs, .inr (0, [.int v_outs_most, .ref q_outs_counts, .ref q_outs_froms, .ref q_outs_tos])), (q_outs_counts, .inl (cI, n_outs_counts, .inl F_outs_counts)), (q_outs_froms, .inl (cI, n_outs_froms, .inl F_outs_froms)), (q_outs_tos, .inl (cI, n_outs_tos, .inl F_outs_tos)), (q_standsFor, .inl (cI, n_standsFor, .inl F_standsFor))] s H locs → lv_has ls 6 [(0, .ref h0), (1, .int x1), (2, .int x2), (3, .int x3), (4, .int y4), (5, .int y5)] → W p l e rm_V_takenBefore s m args below meth c H locs 0 0 (MQ below (sr_Q (dC, dI) (sr_ty cI cJ cZ) A [(h0, .inr (2, [.ref q_stationRow, .ref q_kinds, .ref q_crews, .ref q_outs, .ref q_standsFor, .ref q_spares, .int v_count])), (q_stationRow, .inl (cI, n_stationRow, .inl F_stationRow)), (q_crews, .inl (cI, n_crews, .inl F_crews)), (q_outs, .inr (0, [.int v_outs_most, .ref q_outs_counts, .ref q_outs_froms, .ref q_outs_tos])), (q_outs_counts, .inl (cI, n_outs_counts, .inl F_outs_counts)), (q_outs_froms, .inl (cI, n_outs_froms, .inl F_outs_froms)), (q_outs_tos, .inl (cI, n_outs_tos, .inl F_outs_tos)), (q_standsFor, .inl (cI, n_standsFor, .inl F_standsFor))] (.inl (some (.int o))) s.heap.size) args s rm_V_takenBefore.cells rm_V_takenBefore.slots A) (F0 m 6 ls []) := by
  obtain ⟨hx, hb, hml, hr, hown, hts, hlocks, hnm⟩ := id C0
  have hws := sr_hws hts
  intro k
  induction k with
  | zero =>
    intro y4 y5 H locs ls hf
    exact sr_no hf
  | succ k ih =>
    intro y4 y5 H locs ls hf G hl
    replace hf := (f_V_takenBefore_6_eq n n_stationRow n_crews n_outs_counts n_outs_froms n_outs_tos n_standsFor F_stationRow F_crews v_outs_most F_outs_counts F_outs_froms F_outs_tos F_standsFor x1 x2 x3  k y4 y5).symm.trans hf
    refine lv_iload hx hb d_V_takenBefore_6 (lv_at hl 5 rfl) ?_
    refine lv_iload_n hx hb d_V_takenBefore_8 rfl (lv_at hl 1 rfl) ?_
    refine lv_icmp_ge (tgt := 50) hx hb d_V_takenBefore_9 (by decide) (fun c1 => ?_) (fun c1 => ?_)
    · replace hf := (if_pos c1).symm.trans hf
      refine lv_iload hx hb d_V_takenBefore_50 (lv_at hl 4 rfl) ?_
      cases hf
      exact sr_iret hx hb hr hlocks hK G d_V_takenBefore_52
    replace hf := (if_neg c1).symm.trans hf
    refine lv_aload_n hx hb d_V_takenBefore_12 rfl (lv_at hl 0 rfl) ?_
    refine va_get (D := (dC, dI)) (ci := 2) (v := .ref q_stationRow) (C := "StationRows$Vehicles") (T := zf_V) (N := 7) hx hb hws zi_V hown hK G.1 0 rfl rfl 0 (by decide) (hws _ k_98) (fun _ h9 => h9) rfl d_V_takenBefore_13 ?_
    refine lv_iload hx hb d_V_takenBefore_16 (lv_at hl 5 rfl) ?_
    obtain ⟨hi2, hf⟩ := sr_bk_e hf
    refine va_iald hx hb hK G.1 1 0 rfl rfl hi2 d_V_takenBefore_18 ?_
    refine lv_aload_n hx hb d_V_takenBefore_19 rfl (lv_at hl 0 rfl) ?_
    refine va_get (D := (dC, dI)) (ci := 2) (v := .ref q_stationRow) (C := "StationRows$Vehicles") (T := zf_V) (N := 7) hx hb hws zi_V hown hK G.1 0 rfl rfl 0 (by decide) (hws _ k_98) (fun _ h9 => h9) rfl d_V_takenBefore_20 ?_
    refine lv_iload_n hx hb d_V_takenBefore_23 rfl (lv_at hl 1 rfl) ?_
    obtain ⟨hi3, hf⟩ := sr_bk_e hf
    refine va_iald hx hb hK G.1 1 0 rfl rfl hi3 d_V_takenBefore_24 ?_
    refine lv_icmp_ne (tgt := 44) hx hb d_V_takenBefore_25 (by decide) (fun c4 => ?_) (fun c4 => ?_)
    · replace hf := (if_neg c4).symm.trans hf
      obtain ⟨z5, ez5⟩ : ∃ y : Int32, y = (y5 + 1) := ⟨_, rfl⟩
      replace hf := sr_nm_u ez5 hf
      refine lv_iinc (v := z5) (lv' := [(5, .int z5), (0, .ref h0), (1, .int x1), (2, .int x2), (3, .int x3), (4, .int y4)]) hx hb d_V_takenBefore_44 hl (k := 5) rfl ((sr_inc _ (by decide)).trans ez5.symm) (by decide) rfl (fun ls hl => ?_)
      refine lv_goto (tgt := 6) hx hb d_V_takenBefore_47 (by decide) ?_
      exact ih y4 z5 _ _ _ hf G (lv_sub hl [1, 2, 3, 4, 5, 0] rfl)
    replace hf := (if_pos c4).symm.trans hf
    refine lv_iload hx hb d_V_takenBefore_28 (lv_at hl 4 rfl) ?_
    refine lv_aload_n hx hb d_V_takenBefore_30 rfl (lv_at hl 0 rfl) ?_
    refine lv_iload hx hb d_V_takenBefore_31 (lv_at hl 5 rfl) ?_
    refine lv_iload_n hx hb d_V_takenBefore_33 rfl (lv_at hl 2 rfl) ?_
    refine lv_iload_n hx hb d_V_takenBefore_34 rfl (lv_at hl 3 rfl) ?_
    refine lv_iload hx hb d_V_takenBefore_35 (lv_at hl 4 rfl) ?_
    refine lv_isub hx hb d_V_takenBefore_37 ?_
    obtain ⟨o6, ho6, hf⟩ := sr_bd_e hf
    refine sr_callV (ci := 2) (vc := ("StationRows$Vehicles", zf_V, 7)) (wr := [(q_stationRow, .inl (cI, n_stationRow, .inl F_stationRow))]) (ws1 := [(h0, .inr (2, [.ref q_stationRow, .ref q_kinds, .ref q_crews, .ref q_outs, .ref q_standsFor, .ref q_spares, .int v_count])), (q_stationRow, .inl (cI, n_stationRow, .inl F_stationRow)), (q_crews, .inl (cI, n_crews, .inl F_crews)), (q_outs, .inr (0, [.int v_outs_most, .ref q_outs_counts, .ref q_outs_froms, .ref q_outs_tos])), (q_outs_counts, .inl (cI, n_outs_counts, .inl F_outs_counts)), (q_outs_froms, .inl (cI, n_outs_froms, .inl F_outs_froms)), (q_outs_tos, .inl (cI, n_outs_tos, .inl F_outs_tos)), (q_standsFor, .inl (cI, n_standsFor, .inl F_standsFor))]) (rest := [.int y4]) (st1 := [.int o6, .int y4]) ⟨hx, hb, hml, hown, hts⟩ (c_V_takenBy l dC dI cI cJ cZ h0 q_stationRow q_kinds q_crews q_outs q_standsFor q_spares q_outs_counts q_outs_froms q_outs_tos n_crews n_outs_counts n_outs_froms n_outs_tos n_standsFor v_count F_crews v_outs_most F_outs_counts F_outs_froms F_outs_tos F_standsFor y5 x2 (x3 - y4) n o6 ho6) ⟨(sr_cB 3 hws k_606 k_28 k_603 (by decide +kernel) ⟨Nat.le_of_ble_eq_true rfl, Nat.le_of_ble_eq_true rfl⟩), hws _ k_604, hws _ k_605⟩ hK G hA [0, 2, 3, 4, 5, 6, 7] [1] [1, 0, 2, 3, 4, 5, 6, 7] rfl (by decide) rfl (by decide) (by decide) rfl (by decide) 0 rfl rfl rfl hl.1 rfl (Nat.le_of_ble_eq_true rfl) d_V_takenBefore_38 ⟨Nat.le_of_ble_eq_true rfl, Nat.le_of_ble_eq_true rfl⟩ rfl (fun H locs G => ?_)
    refine lv_iadd hx hb d_V_takenBefore_41 ?_
    refine lv_topi (fun z7 ez7 => ?_)
    replace hf := sr_nm_u ez7 hf
    refine lv_istore (lv' := [(4, .int z7), (0, .ref h0), (1, .int x1), (2, .int x2), (3, .int x3), (5, .int y5)]) hx hb d_V_takenBefore_42 hl (by decide) rfl (fun ls hl => ?_)
    obtain ⟨z8, ez8⟩ : ∃ y : Int32, y = (y5 + 1) := ⟨_, rfl⟩
    replace hf := sr_nm_u ez8 hf
    refine lv_iinc (v := z8) (lv' := [(5, .int z8), (4, .int z7), (0, .ref h0), (1, .int x1), (2, .int x2), (3, .int x3)]) hx hb d_V_takenBefore_44 hl (k := 5) rfl ((sr_inc _ (by decide)).trans ez8.symm) (by decide) rfl (fun ls hl => ?_)
    refine lv_goto (tgt := 6) hx hb d_V_takenBefore_47 (by decide) ?_
    exact ih z7 z8 _ _ _ hf G (lv_sub hl [2, 3, 4, 5, 1, 0] rfl)
def f_V_takenBefore (n : Nat) (n_stationRow n_crews n_outs_counts n_outs_froms n_outs_tos n_standsFor : Nat) (F_stationRow : Nat → Int32) (F_crews : Nat → Int32) (v_outs_most : Int32) (F_outs_counts : Nat → Int32) (F_outs_froms : Nat → Int32) (F_outs_tos : Nat → Int32) (F_standsFor : Nat → Int32) (x1 x2 x3 : Int32) : Option (Int32) :=
    (f_V_takenBefore_6 n n_stationRow n_crews n_outs_counts n_outs_froms n_outs_tos n_standsFor F_stationRow F_crews v_outs_most F_outs_counts F_outs_froms F_outs_tos F_standsFor x1 x2 x3  n 0 0)
set_option maxHeartbeats 4000000 in
set_option maxRecDepth 100000 in
theorem c_V_takenBefore (l : Launch) (dC : Nat → ClassId) (dI : Nat → Nat → Nat) (cI cJ cZ : ClassId) (h0 q_stationRow q_kinds q_crews q_outs q_standsFor q_spares q_outs_counts q_outs_froms q_outs_tos : Nat) (n_stationRow n_crews n_outs_counts n_outs_froms n_outs_tos n_standsFor : Nat) (v_count : Int32) (F_stationRow : Nat → Int32) (F_crews : Nat → Int32) (v_outs_most : Int32) (F_outs_counts : Nat → Int32) (F_outs_froms : Nat → Int32) (F_outs_tos : Nat → Int32) (F_standsFor : Nat → Int32) (x1 x2 x3 : Int32) (n : Nat) (o : Int32) (hf : f_V_takenBefore n n_stationRow n_crews n_outs_counts n_outs_froms n_outs_tos n_standsFor F_stationRow F_crews v_outs_most F_outs_counts F_outs_froms F_outs_tos F_standsFor x1 x2 x3 = some o) : sr_Ct l y_V_takenBefore (sr_W y_V_takenBefore b_V_takenBefore 6 (some .int)) rm_V_takenBefore (dC, dI) (sr_ty cI cJ cZ) [.ref h0, .int x1, .int x2, .int x3] [(h0, .inr (2, [.ref q_stationRow, .ref q_kinds, .ref q_crews, .ref q_outs, .ref q_standsFor, .ref q_spares, .int v_count])), (q_stationRow, .inl (cI, n_stationRow, .inl F_stationRow)), (q_crews, .inl (cI, n_crews, .inl F_crews)), (q_outs, .inr (0, [.int v_outs_most, .ref q_outs_counts, .ref q_outs_froms, .ref q_outs_tos])), (q_outs_counts, .inl (cI, n_outs_counts, .inl F_outs_counts)), (q_outs_froms, .inl (cI, n_outs_froms, .inl F_outs_froms)), (q_outs_tos, .inl (cI, n_outs_tos, .inl F_outs_tos)), (q_standsFor, .inl (cI, n_standsFor, .inl F_standsFor))] (some (.int o)) [(h0, .inr (2, [.ref q_stationRow, .ref q_kinds, .ref q_crews, .ref q_outs, .ref q_standsFor, .ref q_spares, .int v_count])), (q_stationRow, .inl (cI, n_stationRow, .inl F_stationRow)), (q_crews, .inl (cI, n_crews, .inl F_crews)), (q_outs, .inr (0, [.int v_outs_most, .ref q_outs_counts, .ref q_outs_froms, .ref q_outs_tos])), (q_outs_counts, .inl (cI, n_outs_counts, .inl F_outs_counts)), (q_outs_froms, .inl (cI, n_outs_froms, .inl F_outs_froms)), (q_outs_tos, .inl (cI, n_outs_tos, .inl F_outs_tos)), (q_standsFor, .inl (cI, n_standsFor, .inl F_standsFor))] := by
  refine sr_Ct.of (cc := b_V_takenBefore) (maxL := 6) (ret := (some .int)) (by decide) rfl (Nat.le_of_ble_eq_true rfl) ?_
  intro p e s m below meth c A ls C0 hA hK G hl
  obtain ⟨hx, hb, hml, hr, hown, hts, hlocks, hnm⟩ := id C0
  generalize hargs : ([.ref h0, .int x1, .int x2, .int x3] : List Value).toArray = args at C0 hts ⊢
  have hws := sr_hws hts
  replace hl : lv_has ls 6 [(0, .ref h0), (1, .int x1), (2, .int x2), (3, .int x3)] := hl
  replace hf : (f_V_takenBefore_6 n n_stationRow n_crews n_outs_counts n_outs_froms n_outs_tos n_standsFor F_stationRow F_crews v_outs_most F_outs_counts F_outs_froms F_outs_tos F_standsFor x1 x2 x3  n 0 0) = some o := hf
  refine lv_iconst (v := 0) hx hb d_V_takenBefore_0 (by decide) ?_
  refine lv_istore (lv' := [(4, .int 0), (0, .ref h0), (1, .int x1), (2, .int x2), (3, .int x3)]) hx hb d_V_takenBefore_1 hl (by decide) rfl (fun ls hl => ?_)
  refine lv_iconst (v := 0) hx hb d_V_takenBefore_3 (by decide) ?_
  refine lv_istore (lv' := [(5, .int 0), (4, .int 0), (0, .ref h0), (1, .int x1), (2, .int x2), (3, .int x3)]) hx hb d_V_takenBefore_4 hl (by decide) rfl (fun ls hl => ?_)
  exact w_V_takenBefore_6 l dC dI cI cJ cZ h0 q_stationRow q_kinds q_crews q_outs q_standsFor q_spares q_outs_counts q_outs_froms q_outs_tos n_stationRow n_crews n_outs_counts n_outs_froms n_outs_tos n_standsFor v_count F_stationRow F_crews v_outs_most F_outs_counts F_outs_froms F_outs_tos F_standsFor x1 x2 x3 n A args o C0 hK hA   n 0 0 _ _ _ hf G (lv_sub hl [2, 3, 4, 5, 1, 0] rfl)