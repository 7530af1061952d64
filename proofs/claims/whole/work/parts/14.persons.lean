/-! StationRows$Persons.count()I -/
abbrev rm_P_count : Room := { frames := 0, cells := 0, slots := 0, locals := 0 }
def f_P_count (v_count : Int32) : Option (Int32) :=
    (some v_count)
set_option maxHeartbeats 4000000 in
set_option maxRecDepth 100000 in
theorem c_P_count (l : Launch) (dC : Nat → ClassId) (dI : Nat → Nat → Nat) (cI cJ cZ : ClassId) (h0 q_homes q_distances q_duties q_moves q_moveStations q_row : Nat)  (v_rowLength : Int32) (v_count : Int32) (v_distanceLimit : Int32)   (o : Int32) (hf : f_P_count v_count = some o) : sr_Ct l y_P_count (sr_W y_P_count b_P_count 1 (some .int)) rm_P_count (dC, dI) (sr_ty cI cJ cZ) [.ref h0] [(h0, .inr (3, [.ref q_homes, .ref q_distances, .ref q_duties, .ref q_moves, .ref q_moveStations, .ref q_row, .int v_rowLength, .int v_count, .int v_distanceLimit]))] (some (.int o)) [(h0, .inr (3, [.ref q_homes, .ref q_distances, .ref q_duties, .ref q_moves, .ref q_moveStations, .ref q_row, .int v_rowLength, .int v_count, .int v_distanceLimit]))] := by
  refine sr_Ct.of (cc := b_P_count) (maxL := 1) (ret := (some .int)) (by decide) rfl (Nat.le_of_ble_eq_true rfl) ?_
  intro p e s m below meth c A ls C0 hA hK G hl
  obtain ⟨hx, hb, hml, hr, hown, hts, hlocks, hnm⟩ := id C0
  generalize hargs : ([.ref h0] : List Value).toArray = args at C0 hts ⊢
  have hws := sr_hws hts
  replace hl : lv_has ls 1 [(0, .ref h0)] := hl
  replace hf : (some v_count) = some o := hf
  refine lv_aload_n hx hb d_P_count_0 rfl (lv_at hl 0 rfl) ?_
  refine va_get (D := (dC, dI)) (ci := 3) (v := .int v_count) (C := "StationRows$Persons") (T := zf_P) (N := 9) hx hb hws zi_P hown hK G.1 0 rfl rfl 7 (by decide) (hws _ k_135) (fun _ h9 => h9) rfl d_P_count_1 ?_
  cases hf
  exact sr_iret hx hb hr hlocks hK G d_P_count_4
/-! StationRows$Persons.duties()LStationRows$Times; -/
abbrev rm_P_duties : Room := { frames := 0, cells := 0, slots := 0, locals := 0 }
def f_P_duties  : Option (Unit) :=
    (some ())
set_option maxHeartbeats 4000000 in
set_option maxRecDepth 100000 in
theorem c_P_duties (l : Launch) (dC : Nat → ClassId) (dI : Nat → Nat → Nat) (cI cJ cZ : ClassId) (h0 q_homes q_distances q_duties q_moves q_moveStations q_row : Nat)  (v_rowLength : Int32) (v_count : Int32) (v_distanceLimit : Int32)   (o : Unit) (hf : f_P_duties  = some o) : sr_Ct l y_P_duties (sr_W y_P_duties b_P_duties 1 (some (.object "StationRows$Times"))) rm_P_duties (dC, dI) (sr_ty cI cJ cZ) [.ref h0] [(h0, .inr (3, [.ref q_homes, .ref q_distances, .ref q_duties, .ref q_moves, .ref q_moveStations, .ref q_row, .int v_rowLength, .int v_count, .int v_distanceLimit]))] (some (.ref q_duties)) [(h0, .inr (3, [.ref q_homes, .ref q_distances, .ref q_duties, .ref q_moves, .ref q_moveStations, .ref q_row, .int v_rowLength, .int v_count, .int v_distanceLimit]))] := by
  refine sr_Ct.of (cc := b_P_duties) (maxL := 1) (ret := (some (.object "StationRows$Times"))) (by decide) rfl (Nat.le_of_ble_eq_true rfl) ?_
  intro p e s m below meth c A ls C0 hA hK G hl
  obtain ⟨hx, hb, hml, hr, hown, hts, hlocks, hnm⟩ := id C0
  generalize hargs : ([.ref h0] : List Value).toArray = args at C0 hts ⊢
  have hws := sr_hws hts
  replace hl : lv_has ls 1 [(0, .ref h0)] := hl
  replace hf : (some ()) = some o := hf
  refine lv_aload_n hx hb d_P_duties_0 rfl (lv_at hl 0 rfl) ?_
  refine va_get (D := (dC, dI)) (ci := 3) (v := .ref q_duties) (C := "StationRows$Persons") (T := zf_P) (N := 9) hx hb hws zi_P hown hK G.1 0 rfl rfl 2 (by decide) (hws _ k_130) (fun _ h9 => h9) rfl d_P_duties_1 ?_
  cases hf
  exact sr_aret hx hb hr hlocks hK G d_P_duties_4
/-! StationRows$Persons.moves()LStationRows$Times; -/
abbrev rm_P_moves : Room := { frames := 0, cells := 0, slots := 0, locals := 0 }
def f_P_moves  : Option (Unit) :=
    (some ())
set_option maxHeartbeats 4000000 in
set_option maxRecDepth 100000 in
theorem c_P_moves (l : Launch) (dC : Nat → ClassId) (dI : Nat → Nat → Nat) (cI cJ cZ : ClassId) (h0 q_homes q_distances q_duties q_moves q_moveStations q_row : Nat)  (v_rowLength : Int32) (v_count : Int32) (v_distanceLimit : Int32)   (o : Unit) (hf : f_P_moves  = some o) : sr_Ct l y_P_moves (sr_W y_P_moves b_P_moves 1 (some (.object "StationRows$Times"))) rm_P_moves (dC, dI) (sr_ty cI cJ cZ) [.ref h0] [(h0, .inr (3, [.ref q_homes, .ref q_distances, .ref q_duties, .ref q_moves, .ref q_moveStations, .ref q_row, .int v_rowLength, .int v_count, .int v_distanceLimit]))] (some (.ref q_moves)) [(h0, .inr (3, [.ref q_homes, .ref q_distances, .ref q_duties, .ref q_moves, .ref q_moveStations, .ref q_row, .int v_rowLength, .int v_count, .int v_distanceLimit]))] := by
  refine sr_Ct.of (cc := b_P_moves) (maxL := 1) (ret := (some (.object "StationRows$Times"))) (by decide) rfl (Nat.le_of_ble_eq_true rfl) ?_
  intro p e s m below meth c A ls C0 hA hK G hl
  obtain ⟨hx, hb, hml, hr, hown, hts, hlocks, hnm⟩ := id C0
  generalize hargs : ([.ref h0] : List Value).toArray = args at C0 hts ⊢
  have hws := sr_hws hts
  replace hl : lv_has ls 1 [(0, .ref h0)] := hl
  replace hf : (some ()) = some o := hf
  refine lv_aload_n hx hb d_P_moves_0 rfl (lv_at hl 0 rfl) ?_
  refine va_get (D := (dC, dI)) (ci := 3) (v := .ref q_moves) (C := "StationRows$Persons") (T := zf_P) (N := 9) hx hb hws zi_P hown hK G.1 0 rfl rfl 3 (by decide) (hws _ k_131) (fun _ h9 => h9) rfl d_P_moves_1 ?_
  cases hf
  exact sr_aret hx hb hr hlocks hK G d_P_moves_4
/-! StationRows$Persons.add(II)I -/
abbrev rm_P_add : Room := { frames := 0, cells := 0, slots := 0, locals := 0 }
def f_P_add (n_homes n_distances : Nat) (v_count : Int32) (F_homes : Nat → Int32) (F_distances : Nat → Int32) (x1 x2 : Int32) : Option (Int32 × Int32 × (Nat → Int32) × (Nat → Int32)) :=
    (sr_bk v_count n_homes
    (sr_bk v_count n_distances
    (sr_nm (v_count + 1) fun z3 =>
    (some (v_count, z3, (upd F_homes (v_count : Int32).toNatClampNeg x1), (upd F_distances (v_count : Int32).toNatClampNeg x2))))))
set_option maxHeartbeats 4000000 in
set_option maxRecDepth 100000 in
theorem c_P_add (l : Launch) (dC : Nat → ClassId) (dI : Nat → Nat → Nat) (cI cJ cZ : ClassId) (h0 q_homes q_distances q_duties q_moves q_moveStations q_row : Nat) (n_homes n_distances : Nat) (v_rowLength : Int32) (v_count : Int32) (v_distanceLimit : Int32) (F_homes : Nat → Int32) (F_distances : Nat → Int32) (x1 x2 : Int32)  (o : Int32 × Int32 × (Nat → Int32) × (Nat → Int32)) (hf : f_P_add n_homes n_distances v_count F_homes F_distances x1 x2 = some o) : sr_Ct l y_P_add (sr_W y_P_add b_P_add 3 (some .int)) rm_P_add (dC, dI) (sr_ty cI cJ cZ) [.ref h0, .int x1, .int x2] [(h0, .inr (3, [.ref q_homes, .ref q_distances, .ref q_duties, .ref q_moves, .ref q_moveStations, .ref q_row, .int v_rowLength, .int v_count, .int v_distanceLimit])), (q_homes, .inl (cI, n_homes, .inl F_homes)), (q_distances, .inl (cI, n_distances, .inl F_distances))] (some (.int o.1)) [(h0, .inr (3, [.ref q_homes, .ref q_distances, .ref q_duties, .ref q_moves, .ref q_moveStations, .ref q_row, .int v_rowLength, .int o.2.1, .int v_distanceLimit])), (q_homes, .inl (cI, n_homes, .inl o.2.2.1)), (q_distances, .inl (cI, n_distances, .inl o.2.2.2))] := by
  refine sr_Ct.of (cc := b_P_add) (maxL := 3) (ret := (some .int)) (by decide) rfl (Nat.le_of_ble_eq_true rfl) ?_
  intro p e s m below meth c A ls C0 hA hK G hl
  obtain ⟨hx, hb, hml, hr, hown, hts, hlocks, hnm⟩ := id C0
  generalize hargs : ([.ref h0, .int x1, .int x2] : List Value).toArray = args at C0 hts ⊢
  have hws := sr_hws hts
  replace hl : lv_has ls 3 [(0, .ref h0), (1, .int x1), (2, .int x2)] := hl
  replace hf : (sr_bk v_count n_homes
    (sr_bk v_count n_distances
    (sr_nm (v_count + 1) fun z3 =>
    (some (v_count, z3, (upd F_homes (v_count : Int32).toNatClampNeg x1), (upd F_distances (v_count : Int32).toNatClampNeg x2)))))) = some o := hf
  refine lv_aload_n hx hb d_P_add_0 rfl (lv_at hl 0 rfl) ?_
  refine va_get (D := (dC, dI)) (ci := 3) (v := .ref q_homes) (C := "StationRows$Persons") (T := zf_P) (N := 9) hx hb hws zi_P hown hK G.1 0 rfl rfl 0 (by decide) (hws _ k_128) (fun _ h9 => h9) rfl d_P_add_1 ?_
  refine lv_aload_n hx hb d_P_add_4 rfl (lv_at hl 0 rfl) ?_
  refine va_get (D := (dC, dI)) (ci := 3) (v := .int v_count) (C := "StationRows$Persons") (T := zf_P) (N := 9) hx hb hws zi_P hown hK G.1 0 rfl rfl 7 (by decide) (hws _ k_135) (fun _ h9 => h9) rfl d_P_add_5 ?_
  refine lv_iload_n hx hb d_P_add_8 rfl (lv_at hl 1 rfl) ?_
  obtain ⟨hi1, hf⟩ := sr_bk_e hf
  refine va_iast hx hb hK G.1 G.2.1 G.2.2 1 0 rfl rfl hi1 d_P_add_9 (fun H locs hP hD hS => ?_)
  have G : sr_G (dC, dI) A [(h0, .inr (3, [.ref q_homes, .ref q_distances, .ref q_duties, .ref q_moves, .ref q_moveStations, .ref q_row, .int v_rowLength, .int v_count, .int v_distanceLimit])), (q_homes, .inl (cI, n_homes, .inl (upd F_homes (v_count : Int32).toNatClampNeg x1))), (q_distances, .inl (cI, n_distances, .inl F_distances))] s H locs := ⟨hP, hD, hS⟩
  refine lv_aload_n hx hb d_P_add_10 rfl (lv_at hl 0 rfl) ?_
  refine va_get (D := (dC, dI)) (ci := 3) (v := .ref q_distances) (C := "StationRows$Persons") (T := zf_P) (N := 9) hx hb hws zi_P hown hK G.1 0 rfl rfl 1 (by decide) (hws _ k_129) (fun _ h9 => h9) rfl d_P_add_11 ?_
  refine lv_aload_n hx hb d_P_add_14 rfl (lv_at hl 0 rfl) ?_
  refine va_get (D := (dC, dI)) (ci := 3) (v := .int v_count) (C := "StationRows$Persons") (T := zf_P) (N := 9) hx hb hws zi_P hown hK G.1 0 rfl rfl 7 (by decide) (hws _ k_135) (fun _ h9 => h9) rfl d_P_add_15 ?_
  refine lv_iload_n hx hb d_P_add_18 rfl (lv_at hl 2 rfl) ?_
  obtain ⟨hi2, hf⟩ := sr_bk_e hf
  refine va_iast hx hb hK G.1 G.2.1 G.2.2 2 0 rfl rfl hi2 d_P_add_19 (fun H locs hP hD hS => ?_)
  have G : sr_G (dC, dI) A [(h0, .inr (3, [.ref q_homes, .ref q_distances, .ref q_duties, .ref q_moves, .ref q_moveStations, .ref q_row, .int v_rowLength, .int v_count, .int v_distanceLimit])), (q_homes, .inl (cI, n_homes, .inl (upd F_homes (v_count : Int32).toNatClampNeg x1))), (q_distances, .inl (cI, n_distances, .inl (upd F_distances (v_count : Int32).toNatClampNeg x2)))] s H locs := ⟨hP, hD, hS⟩
  refine lv_aload_n hx hb d_P_add_20 rfl (lv_at hl 0 rfl) ?_
  refine lv_dup hx hb d_P_add_21 rfl ?_
  refine va_get (D := (dC, dI)) (ci := 3) (v := .int v_count) (C := "StationRows$Persons") (T := zf_P) (N := 9) hx hb hws zi_P hown hK G.1 0 rfl rfl 7 (by decide) (hws _ k_135) (fun _ h9 => h9) rfl d_P_add_22 ?_
  refine lv_dup_x1 hx hb d_P_add_25 rfl rfl ?_
  refine lv_iconst (v := 1) hx hb d_P_add_26 (by decide) ?_
  refine lv_iadd hx hb d_P_add_27 ?_
  refine lv_topi (fun z3 ez3 => ?_)
  replace hf := sr_nm_u ez3 hf
  refine va_put (D := (dC, dI)) (ci := 3) (v := .int z3) (ty := .int) (C := "StationRows$Persons") (T := zf_P) (N := 9) hx hb hws zi_P zt_P zt_P_ok zn_P hown hK G.1 G.2.1 G.2.2 0 rfl rfl 7 (by decide) (hws _ k_135) (fun _ h9 => h9) rfl (by decide +kernel) rfl rfl (Nat.le_of_ble_eq_true rfl) d_P_add_28 (fun H locs hP hD hS => ?_)
  have G : sr_G (dC, dI) A [(h0, .inr (3, [.ref q_homes, .ref q_distances, .ref q_duties, .ref q_moves, .ref q_moveStations, .ref q_row, .int v_rowLength, .int z3, .int v_distanceLimit])), (q_homes, .inl (cI, n_homes, .inl (upd F_homes (v_count : Int32).toNatClampNeg x1))), (q_distances, .inl (cI, n_distances, .inl (upd F_distances (v_count : Int32).toNatClampNeg x2)))] s H locs := ⟨hP, hD, hS⟩
  cases hf
  exact sr_iret hx hb hr hlocks hK G d_P_add_31
/-! StationRows$Persons.homeOf(I)I -/
abbrev rm_P_homeOf : Room := { frames := 0, cells := 0, slots := 0, locals := 0 }
def f_P_homeOf (n_homes : Nat) (F_homes : Nat → Int32) (x1 : Int32) : Option (Int32) :=
    (sr_bk x1 n_homes
    (some (F_homes x1.toNatClampNeg)))
set_option maxHeartbeats 4000000 in
set_option maxRecDepth 100000 in
theorem c_P_homeOf (l : Launch) (dC : Nat → ClassId) (dI : Nat → Nat → Nat) (cI cJ cZ : ClassId) (h0 q_homes q_distances q_duties q_moves q_moveStations q_row : Nat) (n_homes : Nat) (v_rowLength : Int32) (v_count : Int32) (v_distanceLimit : Int32) (F_homes : Nat → Int32) (x1 : Int32)  (o : Int32) (hf : f_P_homeOf n_homes F_homes x1 = some o) : sr_Ct l y_P_homeOf (sr_W y_P_homeOf b_P_homeOf 2 (some .int)) rm_P_homeOf (dC, dI) (sr_ty cI cJ cZ) [.ref h0, .int x1] [(h0, .inr (3, [.ref q_homes, .ref q_distances, .ref q_duties, .ref q_moves, .ref q_moveStations, .ref q_row, .int v_rowLength, .int v_count, .int v_distanceLimit])), (q_homes, .inl (cI, n_homes, .inl F_homes))] (some (.int o)) [(h0, .inr (3, [.ref q_homes, .ref q_distances, .ref q_duties, .ref q_moves, .ref q_moveStations, .ref q_row, .int v_rowLength, .int v_count, .int v_distanceLimit])), (q_homes, .inl (cI, n_homes, .inl F_homes))] := by
  refine sr_Ct.of (cc := b_P_homeOf) (maxL := 2) (ret := (some .int)) (by decide) rfl (Nat.le_of_ble_eq_true rfl) ?_
  intro p e s m below meth c A ls C0 hA hK G hl
  obtain ⟨hx, hb, hml, hr, hown, hts, hlocks, hnm⟩ := id C0
  generalize hargs : ([.ref h0, .int x1] : List Value).toArray = args at C0 hts ⊢
  have hws := sr_hws hts
  replace hl : lv_has ls 2 [(0, .ref h0), (1, .int x1)] := hl
  replace hf : (sr_bk x1 n_homes
    (some (F_homes x1.toNatClampNeg))) = some o := hf
  refine lv_aload_n hx hb d_P_homeOf_0 rfl (lv_at hl 0 rfl) ?_
  refine va_get (D := (dC, dI)) (ci := 3) (v := .ref q_homes) (C := "StationRows$Persons") (T := zf_P) (N := 9) hx hb hws zi_P hown hK G.1 0 rfl rfl 0 (by decide) (hws _ k_128) (fun _ h9 => h9) rfl d_P_homeOf_1 ?_
  refine lv_iload_n hx hb d_P_homeOf_4 rfl (lv_at hl 1 rfl) ?_
  obtain ⟨hi1, hf⟩ := sr_bk_e hf
  refine va_iald hx hb hK G.1 1 0 rfl rfl hi1 d_P_homeOf_5 ?_
  cases hf
  exact sr_iret hx hb hr hlocks hK G d_P_homeOf_6
/-! StationRows$Persons.keepNewestMoveStation(II)V -/
abbrev rm_P_keepNewestMoveStation : Room := { frames := 1, cells := 0, slots := 0, locals := 21 }
def f_P_keepNewestMoveStation (n_moves_counts n_moveStations : Nat) (F_moves_counts : Nat → Int32) (F_moveStations : Nat → Int32) (x1 x2 : Int32) : Option (Nat → Int32) :=
    (sr_bd (f_T_countOf n_moves_counts F_moves_counts x1) fun o1 =>
    (sr_nm (o1 - 1) fun z2 =>
    (if z2 < 0 then
    (some F_moveStations)
    else
    (sr_bk ((x1 * 3) + z2) n_moveStations
    (some (upd F_moveStations (((x1 * 3) + z2) : Int32).toNatClampNeg x2))))))
set_option maxHeartbeats 4000000 in
set_option maxRecDepth 100000 in
theorem c_P_keepNewestMoveStation (l : Launch) (dC : Nat → ClassId) (dI : Nat → Nat → Nat) (cI cJ cZ : ClassId) (h0 q_homes q_distances q_duties q_moves q_moveStations q_row q_moves_counts q_moves_froms q_moves_tos : Nat) (n_moves_counts n_moveStations : Nat) (v_rowLength : Int32) (v_count : Int32) (v_distanceLimit : Int32) (v_moves_most : Int32) (F_moves_counts : Nat → Int32) (F_moveStations : Nat → Int32) (x1 x2 : Int32)  (o : Nat → Int32) (hf : f_P_keepNewestMoveStation n_moves_counts n_moveStations F_moves_counts F_moveStations x1 x2 = some o) : sr_Ct l y_P_keepNewestMoveStation (sr_W y_P_keepNewestMoveStation b_P_keepNewestMoveStation 4 none) rm_P_keepNewestMoveStation (dC, dI) (sr_ty cI cJ cZ) [.ref h0, .int x1, .int x2] [(h0, .inr (3, [.ref q_homes, .ref q_distances, .ref q_duties, .ref q_moves, .ref q_moveStations, .ref q_row, .int v_rowLength, .int v_count, .int v_distanceLimit])), (q_moves, .inr (0, [.int v_moves_most, .ref q_moves_counts, .ref q_moves_froms, .ref q_moves_tos])), (q_moves_counts, .inl (cI, n_moves_counts, .inl F_moves_counts)), (q_moveStations, .inl (cI, n_moveStations, .inl F_moveStations))] (none) [(h0, .inr (3, [.ref q_homes, .ref q_distances, .ref q_duties, .ref q_moves, .ref q_moveStations, .ref q_row, .int v_rowLength, .int v_count, .int v_distanceLimit])), (q_moves, .inr (0, [.int v_moves_most, .ref q_moves_counts, .ref q_moves_froms, .ref q_moves_tos])), (q_moves_counts, .inl (cI, n_moves_counts, .inl F_moves_counts)), (q_moveStations, .inl (cI, n_moveStations, .inl o))] := by
  refine sr_Ct.of (cc := b_P_keepNewestMoveStation) (maxL := 4) (ret := none) (by decide) rfl (Nat.le_of_ble_eq_true rfl) ?_
  intro p e s m below meth c A ls C0 hA hK G hl
  obtain ⟨hx, hb, hml, hr, hown, hts, hlocks, hnm⟩ := id C0
  generalize hargs : ([.ref h0, .int x1, .int x2] : List Value).toArray = args at C0 hts ⊢
  have hws := sr_hws hts
  replace hl : lv_has ls 4 [(0, .ref h0), (1, .int x1), (2, .int x2)] := hl
  replace hf : (sr_bd (f_T_countOf n_moves_counts F_moves_counts x1) fun o1 =>
    (sr_nm (o1 - 1) fun z2 =>
    (if z2 < 0 then
    (some F_moveStations)
    else
    (sr_bk ((x1 * 3) + z2) n_moveStations
    (some (upd F_moveStations (((x1 * 3) + z2) : Int32).toNatClampNeg x2)))))) = some o := hf
  refine lv_aload_n hx hb d_P_keepNewestMoveStation_0 rfl (lv_at hl 0 rfl) ?_
  refine va_get (D := (dC, dI)) (ci := 3) (v := .ref q_moves) (C := "StationRows$Persons") (T := zf_P) (N := 9) hx hb hws zi_P hown hK G.1 0 rfl rfl 3 (by decide) (hws _ k_131) (fun _ h9 => h9) rfl d_P_keepNewestMoveStation_1 ?_
  refine lv_iload_n hx hb d_P_keepNewestMoveStation_4 rfl (lv_at hl 1 rfl) ?_
  obtain ⟨o1, ho1, hf⟩ := sr_bd_e hf
  refine sr_callV (ci := 0) (vc := ("StationRows$Times", zf_T, 4)) (wr := [(h0, .inr (3, [.ref q_homes, .ref q_distances, .ref q_duties, .ref q_moves, .ref q_moveStations, .ref q_row, .int v_rowLength, .int v_count, .int v_distanceLimit])), (q_moveStations, .inl (cI, n_moveStations, .inl F_moveStations))]) (ws1 := [(h0, .inr (3, [.ref q_homes, .ref q_distances, .ref q_duties, .ref q_moves, .ref q_moveStations, .ref q_row, .int v_rowLength, .int v_count, .int v_distanceLimit])), (q_moves, .inr (0, [.int v_moves_most, .ref q_moves_counts, .ref q_moves_froms, .ref q_moves_tos])), (q_moves_counts, .inl (cI, n_moves_counts, .inl F_moves_counts)), (q_moveStations, .inl (cI, n_moveStations, .inl F_moveStations))]) (rest := []) (st1 := [.int o1]) ⟨hx, hb, hml, hown, hts⟩ (c_T_countOf l dC dI cI cJ cZ q_moves q_moves_counts q_moves_froms q_moves_tos n_moves_counts v_moves_most F_moves_counts x1 o1 ho1) ⟨(sr_cB 1 hws k_492 k_29 k_489 (by decide +kernel) ⟨Nat.le_of_ble_eq_true rfl, Nat.le_of_ble_eq_true rfl⟩), hws _ k_490, hws _ k_491⟩ hK G hA [1, 2] [0, 3] [0, 2, 3, 1] rfl (by decide) rfl (by decide) (by decide) rfl (by decide) 0 rfl rfl rfl hl.1 rfl (Nat.le_of_ble_eq_true rfl) d_P_keepNewestMoveStation_5 ⟨Nat.le_of_ble_eq_true rfl, Nat.le_of_ble_eq_true rfl⟩ rfl (fun H locs G => ?_)
  refine lv_iconst (v := 1) hx hb d_P_keepNewestMoveStation_8 (by decide) ?_
  refine lv_isub hx hb d_P_keepNewestMoveStation_9 ?_
  refine lv_topi (fun z2 ez2 => ?_)
  replace hf := sr_nm_u ez2 hf
  refine lv_istore_n (lv' := [(3, .int z2), (0, .ref h0), (1, .int x1), (2, .int x2)]) hx hb d_P_keepNewestMoveStation_10 rfl hl (by decide) rfl (fun ls hl => ?_)
  refine lv_iload_n hx hb d_P_keepNewestMoveStation_11 rfl (lv_at hl 0 rfl) ?_
  refine lv_if_lt (tgt := 26) hx hb d_P_keepNewestMoveStation_12 (by decide) (fun c3 => ?_) (fun c3 => ?_)
  · replace hf := (if_pos c3).symm.trans hf
    cases hf
    exact sr_vret hx hb hr hlocks hK G d_P_keepNewestMoveStation_26
  replace hf := (if_neg c3).symm.trans hf
  refine lv_aload_n hx hb d_P_keepNewestMoveStation_15 rfl (lv_at hl 1 rfl) ?_
  refine va_get (D := (dC, dI)) (ci := 3) (v := .ref q_moveStations) (C := "StationRows$Persons") (T := zf_P) (N := 9) hx hb hws zi_P hown hK G.1 0 rfl rfl 4 (by decide) (hws _ k_132) (fun _ h9 => h9) rfl d_P_keepNewestMoveStation_16 ?_
  refine lv_iload_n hx hb d_P_keepNewestMoveStation_19 rfl (lv_at hl 2 rfl) ?_
  refine lv_iconst (v := 3) hx hb d_P_keepNewestMoveStation_20 (by decide) ?_
  refine lv_imul hx hb d_P_keepNewestMoveStation_21 ?_
  refine lv_iload_n hx hb d_P_keepNewestMoveStation_22 rfl (lv_at hl 0 rfl) ?_
  refine lv_iadd hx hb d_P_keepNewestMoveStation_23 ?_
  refine lv_iload_n hx hb d_P_keepNewestMoveStation_24 rfl (lv_at hl 3 rfl) ?_
  obtain ⟨hi4, hf⟩ := sr_bk_e hf
  refine va_iast hx hb hK G.1 G.2.1 G.2.2 3 0 rfl rfl hi4 d_P_keepNewestMoveStation_25 (fun H locs hP hD hS => ?_)
  have G : sr_G (dC, dI) A [(h0, .inr (3, [.ref q_homes, .ref q_distances, .ref q_duties, .ref q_moves, .ref q_moveStations, .ref q_row, .int v_rowLength, .int v_count, .int v_distanceLimit])), (q_moves, .inr (0, [.int v_moves_most, .ref q_moves_counts, .ref q_moves_froms, .ref q_moves_tos])), (q_moves_counts, .inl (cI, n_moves_counts, .inl F_moves_counts)), (q_moveStations, .inl (cI, n_moveStations, .inl (upd F_moveStations (((x1 * 3) + z2) : Int32).toNatClampNeg x2)))] s H locs := ⟨hP, hD, hS⟩
  cases hf
  exact sr_vret hx hb hr hlocks hK G d_P_keepNewestMoveStation_26
/-! StationRows$Persons.changeLimit(I)I -/
abbrev rm_P_changeLimit : Room := { frames := 0, cells := 0, slots := 0, locals := 0 }
def f_P_changeLimit_9 (n : Nat) (n_distances : Nat) (v_count : Int32) (F_distances : Nat → Int32) (x1 : Int32)  : Nat → Int32 → Int32 → (Int32) → Option (Int32 × Int32)
  | 0, _, _, _ => none
  | k + 1, y2, y3, v_distanceLimit =>
    (if v_count ≤ y3 then
    (some (y2, v_distanceLimit))
    else
    (sr_bk y3 n_distances
    (if (F_distances y3.toNatClampNeg) ≤ v_distanceLimit then
    (sr_nm (y3 + 1) fun z4 =>
    (f_P_changeLimit_9 n n_distances v_count F_distances x1  k y2 z4 v_distanceLimit))
    else
    (sr_nm (y2 + 1) fun z5 =>
    (sr_nm (y3 + 1) fun z6 =>
    (f_P_changeLimit_9 n n_distances v_count F_distances x1  k z5 z6 v_distanceLimit))))))
theorem f_P_changeLimit_9_eq (n : Nat) (n_distances : Nat) (v_count : Int32) (F_distances : Nat → Int32) (x1 : Int32)  (k : Nat) (y2 y3 : Int32) (v_distanceLimit : Int32) : f_P_changeLimit_9 n n_distances v_count F_distances x1  (k + 1) y2 y3 v_distanceLimit =
    (if v_count ≤ y3 then
    (some (y2, v_distanceLimit))
    else
    (sr_bk y3 n_distances
    (if (F_distances y3.toNatClampNeg) ≤ v_distanceLimit then
    (sr_nm (y3 + 1) fun z4 =>
    (f_P_changeLimit_9 n n_distances v_count F_distances x1  k y2 z4 v_distanceLimit))
    else
    (sr_nm (y2 + 1) fun z5 =>
    (sr_nm (y3 + 1) fun z6 =>
    (f_P_changeLimit_9 n n_distances v_count F_distances x1  k z5 z6 v_distanceLimit)))))) := rfl
set_option maxHeartbeats 4000000 in
set_option maxRecDepth 100000 in
theorem w_P_changeLimit_9 (l : Launch) {p : Program} {e : Env} {s : State} {m : MethodId} {below : List Frame} {meth : Method} {c : Code} (dC : Nat → ClassId) (dI : Nat → Nat → Nat) (cI cJ cZ : ClassId) (h0 q_homes q_distances q_duties q_moves q_moveStations q_row : Nat) (n_distances : Nat) (v_rowLength : Int32) (v_count : Int32) (F_distances : Nat → Int32) (x1 : Int32) (n : Nat) (A : Nat → Prop) (args : Array Value) (o : Int32 × Int32) (C0 : sr_cx p s m args meth c b_P_changeLimit 4 (some .int) "StationRows$Persons" "changeLimit" (sr_W y_P_changeLimit b_P_changeLimit 4 (some .int))) (hK : va_K (dC, dI) vwCl (sr_ty cI cJ cZ) s) (hA : ∀ q, s.heap.size ≤ q → A q)   :
    ∀ (k : Nat) (y2 y3 : Int32) (v_distanceLimit : Int32) (H : Heap) (locs : List Loc) (ls : Array Slot), f_P_changeLimit_9 n n_distances v_count F_distances x1  k y2 y3 v_distanceLimit = some o → sr_G (dC, dI) A [(h0, .inr (3, [.ref q_homes, .ref q_distances, .ref q_duties, .ref q_moves, .ref q_moveStations, .ref q_row, .int v_rowLength, .int v_count, .int v_distanceLimit])), (q_distances, .inl (cI, n_distances, .inl F_distances))] s H locs → lv_has ls 4 [(0, .ref h0), (2, .int y2), (3, .int y3)] → W p l e rm_P_changeLimit s m args below meth c H locs 0 0 (MQ below (sr_Q (dC, dI) (sr_ty cI cJ cZ) A [(h0, .inr (3, [.ref q_homes, .ref q_distances, .ref q_duties, .ref q_moves, .ref q_moveStations, .ref q_row, .int v_rowLength, .int v_count, .int o.2])), (q_distances, .inl (cI, n_distances, .inl F_distances))] (.inl (some (.int o.1))) s.heap.size) args s rm_P_changeLimit.cells rm_P_changeLimit.slots A) (F0 m 9 ls []) := by
  obtain ⟨hx, hb, hml, hr, hown, hts, hlocks, hnm⟩ := id C0
  have hws := sr_hws hts
  intro k
  induction k with
  | zero =>
    intro y2 y3 v_distanceLimit H locs ls hf
    exact sr_no hf
  | succ k ih =>
    intro y2 y3 v_distanceLimit H locs ls hf G hl
    replace hf := (f_P_changeLimit_9_eq n n_distances v_count F_distances x1  k y2 y3 v_distanceLimit).symm.trans hf
    refine lv_iload_n hx hb d_P_changeLimit_9 rfl (lv_at hl 2 rfl) ?_
    refine lv_aload_n hx hb d_P_changeLimit_10 rfl (lv_at hl 0 rfl) ?_
    refine va_get (D := (dC, dI)) (ci := 3) (v := .int v_count) (C := "StationRows$Persons") (T := zf_P) (N := 9) hx hb hws zi_P hown hK G.1 0 rfl rfl 7 (by decide) (hws _ k_135) (fun _ h9 => h9) rfl d_P_changeLimit_11 ?_
    refine lv_icmp_ge (tgt := 39) hx hb d_P_changeLimit_14 (by decide) (fun c1 => ?_) (fun c1 => ?_)
    · replace hf := (if_pos c1).symm.trans hf
      refine lv_iload_n hx hb d_P_changeLimit_39 rfl (lv_at hl 1 rfl) ?_
      cases hf
      exact sr_iret hx hb hr hlocks hK G d_P_changeLimit_40
    replace hf := (if_neg c1).symm.trans hf
    refine lv_aload_n hx hb d_P_changeLimit_17 rfl (lv_at hl 0 rfl) ?_
    refine va_get (D := (dC, dI)) (ci := 3) (v := .ref q_distances) (C := "StationRows$Persons") (T := zf_P) (N := 9) hx hb hws zi_P hown hK G.1 0 rfl rfl 1 (by decide) (hws _ k_129) (fun _ h9 => h9) rfl d_P_changeLimit_18 ?_
    refine lv_iload_n hx hb d_P_changeLimit_21 rfl (lv_at hl 2 rfl) ?_
    obtain ⟨hi2, hf⟩ := sr_bk_e hf
    refine va_iald hx hb hK G.1 1 0 rfl rfl hi2 d_P_changeLimit_22 ?_
    refine lv_aload_n hx hb d_P_changeLimit_23 rfl (lv_at hl 0 rfl) ?_
    refine va_get (D := (dC, dI)) (ci := 3) (v := .int v_distanceLimit) (C := "StationRows$Persons") (T := zf_P) (N := 9) hx hb hws zi_P hown hK G.1 0 rfl rfl 8 (by decide) (hws _ k_136) (fun _ h9 => h9) rfl d_P_changeLimit_24 ?_
    refine lv_icmp_le (tgt := 33) hx hb d_P_changeLimit_27 (by decide) (fun c3 => ?_) (fun c3 => ?_)
    · replace hf := (if_pos c3).symm.trans hf
      obtain ⟨z4, ez4⟩ : ∃ y : Int32, y = (y3 + 1) := ⟨_, rfl⟩
      replace hf := sr_nm_u ez4 hf
      refine lv_iinc (v := z4) (lv' := [(3, .int z4), (0, .ref h0), (2, .int y2)]) hx hb d_P_changeLimit_33 hl (k := 2) rfl ((sr_inc _ (by decide)).trans ez4.symm) (by decide) rfl (fun ls hl => ?_)
      refine lv_goto (tgt := 9) hx hb d_P_changeLimit_36 (by decide) ?_
      exact ih y2 z4 v_distanceLimit _ _ _ hf G (lv_sub hl [1, 2, 0] rfl)
    replace hf := (if_neg c3).symm.trans hf
    obtain ⟨z5, ez5⟩ : ∃ y : Int32, y = (y2 + 1) := ⟨_, rfl⟩
    replace hf := sr_nm_u ez5 hf
    refine lv_iinc (v := z5) (lv' := [(2, .int z5), (0, .ref h0), (3, .int y3)]) hx hb d_P_changeLimit_30 hl (k := 1) rfl ((sr_inc _ (by decide)).trans ez5.symm) (by decide) rfl (fun ls hl => ?_)
    obtain ⟨z6, ez6⟩ : ∃ y : Int32, y = (y3 + 1) := ⟨_, rfl⟩
    replace hf := sr_nm_u ez6 hf
    refine lv_iinc (v := z6) (lv' := [(3, .int z6), (2, .int z5), (0, .ref h0)]) hx hb d_P_changeLimit_33 hl (k := 2) rfl ((sr_inc _ (by decide)).trans ez6.symm) (by decide) rfl (fun ls hl => ?_)
    refine lv_goto (tgt := 9) hx hb d_P_changeLimit_36 (by decide) ?_
    exact ih z5 z6 v_distanceLimit _ _ _ hf G (lv_sub hl [2, 1, 0] rfl)
def f_P_changeLimit (n : Nat) (n_distances : Nat) (v_count : Int32) (v_distanceLimit : Int32) (F_distances : Nat → Int32) (x1 : Int32) : Option (Int32 × Int32) :=
    (f_P_changeLimit_9 n n_distances v_count F_distances x1  n 0 0 x1)
set_option maxHeartbeats 4000000 in
set_option maxRecDepth 100000 in
theorem c_P_changeLimit (l : Launch) (dC : Nat → ClassId) (dI : Nat → Nat → Nat) (cI cJ cZ : ClassId) (h0 q_homes q_distances q_duties q_moves q_moveStations q_row : Nat) (n_distances : Nat) (v_rowLength : Int32) (v_count : Int32) (v_distanceLimit : Int32) (F_distances : Nat → Int32) (x1 : Int32) (n : Nat) (o : Int32 × Int32) (hf : f_P_changeLimit n n_distances v_count v_distanceLimit F_distances x1 = some o) : sr_Ct l y_P_changeLimit (sr_W y_P_changeLimit b_P_changeLimit 4 (some .int)) rm_P_changeLimit (dC, dI) (sr_ty cI cJ cZ) [.ref h0, .int x1] [(h0, .inr (3, [.ref q_homes, .ref q_distances, .ref q_duties, .ref q_moves, .ref q_moveStations, .ref q_row, .int v_rowLength, .int v_count, .int v_distanceLimit])), (q_distances, .inl (cI, n_distances, .inl F_distances))] (some (.int o.1)) [(h0, .inr (3, [.ref q_homes, .ref q_distances, .ref q_duties, .ref q_moves, .ref q_moveStations, .ref q_row, .int v_rowLength, .int v_count, .int o.2])), (q_distances, .inl (cI, n_distances, .inl F_distances))] := by
  refine sr_Ct.of (cc := b_P_changeLimit) (maxL := 4) (ret := (some .int)) (by decide) rfl (Nat.le_of_ble_eq_true rfl) ?_
  intro p e s m below meth c A ls C0 hA hK G hl
  obtain ⟨hx, hb, hml, hr, hown, hts, hlocks, hnm⟩ := id C0
  generalize hargs : ([.ref h0, .int x1] : List Value).toArray = args at C0 hts ⊢
  have hws := sr_hws hts
  replace hl : lv_has ls 4 [(0, .ref h0), (1, .int x1)] := hl
  replace hf : (f_P_changeLimit_9 n n_distances v_count F_distances x1  n 0 0 x1) = some o := hf
  refine lv_aload_n hx hb d_P_changeLimit_0 rfl (lv_at hl 0 rfl) ?_
  refine lv_iload_n hx hb d_P_changeLimit_1 rfl (lv_at hl 1 rfl) ?_
  refine va_put (D := (dC, dI)) (ci := 3) (v := .int x1) (ty := .int) (C := "StationRows$Persons") (T := zf_P) (N := 9) hx hb hws zi_P zt_P zt_P_ok zn_P hown hK G.1 G.2.1 G.2.2 0 rfl rfl 8 (by decide) (hws _ k_136) (fun _ h9 => h9) rfl (by decide +kernel) rfl rfl (Nat.le_of_ble_eq_true rfl) d_P_changeLimit_2 (fun H locs hP hD hS => ?_)
  have G : sr_G (dC, dI) A [(h0, .inr (3, [.ref q_homes, .ref q_distances, .ref q_duties, .ref q_moves, .ref q_moveStations, .ref q_row, .int v_rowLength, .int v_count, .int x1])), (q_distances, .inl (cI, n_distances, .inl F_distances))] s H locs := ⟨hP, hD, hS⟩
  refine lv_iconst (v := 0) hx hb d_P_changeLimit_5 (by decide) ?_
  refine lv_istore_n (lv' := [(2, .int 0), (0, .ref h0), (1, .int x1)]) hx hb d_P_changeLimit_6 rfl hl (by decide) rfl (fun ls hl => ?_)
  refine lv_iconst (v := 0) hx hb d_P_changeLimit_7 (by decide) ?_
  refine lv_istore_n (lv' := [(3, .int 0), (2, .int 0), (0, .ref h0), (1, .int x1)]) hx hb d_P_changeLimit_8 rfl hl (by decide) rfl (fun ls hl => ?_)
  exact w_P_changeLimit_9 l dC dI cI cJ cZ h0 q_homes q_distances q_duties q_moves q_moveStations q_row n_distances v_rowLength v_count F_distances x1 n A args o C0 hK hA   n 0 0 x1 _ _ _ hf G (lv_sub hl [2, 1, 0] rfl)
/-! StationRows$Persons.isOnDuty(II)Z -/
abbrev rm_P_isOnDuty : Room := { frames := 1, cells := 0, slots := 0, locals := 24 }
def f_P_isOnDuty (n : Nat) (n_distances n_duties_counts n_duties_froms n_duties_tos : Nat) (v_distanceLimit : Int32) (F_distances : Nat → Int32) (v_duties_most : Int32) (F_duties_counts : Nat → Int32) (F_duties_froms : Nat → Int32) (F_duties_tos : Nat → Int32) (x1 x2 : Int32) : Option (Int32) :=
    (sr_bk x1 n_distances
    (if v_distanceLimit < (F_distances x1.toNatClampNeg) then
    (some 0)
    else
    (sr_bd (f_T_indexAt n n_duties_counts n_duties_froms n_duties_tos v_duties_most F_duties_counts F_duties_froms F_duties_tos x1 x2) fun o3 =>
    (if o3 = (-1) then
    (some 0)
    else
    (some 1)))))
set_option maxHeartbeats 4000000 in
set_option maxRecDepth 100000 in
theorem c_P_isOnDuty (l : Launch) (dC : Nat → ClassId) (dI : Nat → Nat → Nat) (cI cJ cZ : ClassId) (h0 q_homes q_distances q_duties q_moves q_moveStations q_row q_duties_counts q_duties_froms q_duties_tos : Nat) (n_distances n_duties_counts n_duties_froms n_duties_tos : Nat) (v_rowLength : Int32) (v_count : Int32) (v_distanceLimit : Int32) (F_distances : Nat → Int32) (v_duties_most : Int32) (F_duties_counts : Nat → Int32) (F_duties_froms : Nat → Int32) (F_duties_tos : Nat → Int32) (x1 x2 : Int32) (n : Nat) (o : Int32) (hf : f_P_isOnDuty n n_distances n_duties_counts n_duties_froms n_duties_tos v_distanceLimit F_distances v_duties_most F_duties_counts F_duties_froms F_duties_tos x1 x2 = some o) : sr_Ct l y_P_isOnDuty (sr_W y_P_isOnDuty b_P_isOnDuty 3 (some .boolean)) rm_P_isOnDuty (dC, dI) (sr_ty cI cJ cZ) [.ref h0, .int x1, .int x2] [(h0, .inr (3, [.ref q_homes, .ref q_distances, .ref q_duties, .ref q_moves, .ref q_moveStations, .ref q_row, .int v_rowLength, .int v_count, .int v_distanceLimit])), (q_distances, .inl (cI, n_distances, .inl F_distances)), (q_duties, .inr (0, [.int v_duties_most, .ref q_duties_counts, .ref q_duties_froms, .ref q_duties_tos])), (q_duties_counts, .inl (cI, n_duties_counts, .inl F_duties_counts)), (q_duties_froms, .inl (cI, n_duties_froms, .inl F_duties_froms)), (q_duties_tos, .inl (cI, n_duties_tos, .inl F_duties_tos))] (some (.int o)) [(h0, .inr (3, [.ref q_homes, .ref q_distances, .ref q_duties, .ref q_moves, .ref q_moveStations, .ref q_row, .int v_rowLength, .int v_count, .int v_distanceLimit])), (q_distances, .inl (cI, n_distances, .inl F_distances)), (q_duties, .inr (0, [.int v_duties_most, .ref q_duties_counts, .ref q_duties_froms, .ref q_duties_tos])), (q_duties_counts, .inl (cI, n_duties_counts, .inl F_duties_counts)), (q_duties_froms, .inl (cI, n_duties_froms, .inl F_duties_froms)), (q_duties_tos, .inl (cI, n_duties_tos, .inl F_duties_tos))] := by
  refine sr_Ct.of (cc := b_P_isOnDuty) (maxL := 3) (ret := (some .boolean)) (by decide) rfl (Nat.le_of_ble_eq_true rfl) ?_
  intro p e s m below meth c A ls C0 hA hK G hl
  obtain ⟨hx, hb, hml, hr, hown, hts, hlocks, hnm⟩ := id C0
  generalize hargs : ([.ref h0, .int x1, .int x2] : List Value).toArray = args at C0 hts ⊢
  have hws := sr_hws hts
  replace hl : lv_has ls 3 [(0, .ref h0), (1, .int x1), (2, .int x2)] := hl
  replace hf : (sr_bk x1 n_distances
    (if v_distanceLimit < (F_distances x1.toNatClampNeg) then
    (some 0)
    else
    (sr_bd (f_T_indexAt n n_duties_counts n_duties_froms n_duties_tos v_duties_most F_duties_counts F_duties_froms F_duties_tos x1 x2) fun o3 =>
    (if o3 = (-1) then
    (some 0)
    else
    (some 1))))) = some o := hf
  refine lv_aload_n hx hb d_P_isOnDuty_0 rfl (lv_at hl 0 rfl) ?_
  refine va_get (D := (dC, dI)) (ci := 3) (v := .ref q_distances) (C := "StationRows$Persons") (T := zf_P) (N := 9) hx hb hws zi_P hown hK G.1 0 rfl rfl 1 (by decide) (hws _ k_129) (fun _ h9 => h9) rfl d_P_isOnDuty_1 ?_
  refine lv_iload_n hx hb d_P_isOnDuty_4 rfl (lv_at hl 1 rfl) ?_
  obtain ⟨hi1, hf⟩ := sr_bk_e hf
  refine va_iald hx hb hK G.1 1 0 rfl rfl hi1 d_P_isOnDuty_5 ?_
  refine lv_aload_n hx hb d_P_isOnDuty_6 rfl (lv_at hl 0 rfl) ?_
  refine va_get (D := (dC, dI)) (ci := 3) (v := .int v_distanceLimit) (C := "StationRows$Persons") (T := zf_P) (N := 9) hx hb hws zi_P hown hK G.1 0 rfl rfl 8 (by decide) (hws _ k_136) (fun _ h9 => h9) rfl d_P_isOnDuty_7 ?_
  refine lv_icmp_gt (tgt := 30) hx hb d_P_isOnDuty_10 (by decide) (fun c2 => ?_) (fun c2 => ?_)
  · replace hf := (if_pos c2).symm.trans hf
    refine lv_iconst (v := 0) hx hb d_P_isOnDuty_30 (by decide) ?_
    cases hf
    exact sr_zret (v := 0) hx hb hr hlocks hK G rfl d_P_isOnDuty_31
  replace hf := (if_neg c2).symm.trans hf
  refine lv_aload_n hx hb d_P_isOnDuty_13 rfl (lv_at hl 0 rfl) ?_
  refine va_get (D := (dC, dI)) (ci := 3) (v := .ref q_duties) (C := "StationRows$Persons") (T := zf_P) (N := 9) hx hb hws zi_P hown hK G.1 0 rfl rfl 2 (by decide) (hws _ k_130) (fun _ h9 => h9) rfl d_P_isOnDuty_14 ?_
  refine lv_iload_n hx hb d_P_isOnDuty_17 rfl (lv_at hl 1 rfl) ?_
  refine lv_iload_n hx hb d_P_isOnDuty_18 rfl (lv_at hl 2 rfl) ?_
  obtain ⟨o3, ho3, hf⟩ := sr_bd_e hf
  refine sr_callV (ci := 0) (vc := ("StationRows$Times", zf_T, 4)) (wr := [(h0, .inr (3, [.ref q_homes, .ref q_distances, .ref q_duties, .ref q_moves, .ref q_moveStations, .ref q_row, .int v_rowLength, .int v_count, .int v_distanceLimit])), (q_distances, .inl (cI, n_distances, .inl F_distances))]) (ws1 := [(h0, .inr (3, [.ref q_homes, .ref q_distances, .ref q_duties, .ref q_moves, .ref q_moveStations, .ref q_row, .int v_rowLength, .int v_count, .int v_distanceLimit])), (q_distances, .inl (cI, n_distances, .inl F_distances)), (q_duties, .inr (0, [.int v_duties_most, .ref q_duties_counts, .ref q_duties_froms, .ref q_duties_tos])), (q_duties_counts, .inl (cI, n_duties_counts, .inl F_duties_counts)), (q_duties_froms, .inl (cI, n_duties_froms, .inl F_duties_froms)), (q_duties_tos, .inl (cI, n_duties_tos, .inl F_duties_tos))]) (rest := []) (st1 := [.int o3]) ⟨hx, hb, hml, hown, hts⟩ (c_T_indexAt l dC dI cI cJ cZ q_duties q_duties_counts q_duties_froms q_duties_tos n_duties_counts n_duties_froms n_duties_tos v_duties_most F_duties_counts F_duties_froms F_duties_tos x1 x2 n o3 ho3) ⟨(sr_cB 2 hws k_530 k_29 k_527 (by decide +kernel) ⟨Nat.le_of_ble_eq_true rfl, Nat.le_of_ble_eq_true rfl⟩), hws _ k_528, hws _ k_529⟩ hK G hA [2, 3, 4, 5] [0, 1] [0, 1, 2, 3, 4, 5] rfl (by decide) rfl (by decide) (by decide) rfl (by decide) 0 rfl rfl rfl hl.1 rfl (Nat.le_of_ble_eq_true rfl) d_P_isOnDuty_19 ⟨Nat.le_of_ble_eq_true rfl, Nat.le_of_ble_eq_true rfl⟩ rfl (fun H locs G => ?_)
  refine lv_iconst (v := (-1)) hx hb d_P_isOnDuty_22 (by decide) ?_
  refine lv_icmp_eq (tgt := 30) hx hb d_P_isOnDuty_23 (by decide) (fun c4 => ?_) (fun c4 => ?_)
  · replace hf := (if_pos c4).symm.trans hf
    refine lv_iconst (v := 0) hx hb d_P_isOnDuty_30 (by decide) ?_
    cases hf
    exact sr_zret (v := 0) hx hb hr hlocks hK G rfl d_P_isOnDuty_31
  replace hf := (if_neg c4).symm.trans hf
  refine lv_iconst (v := 1) hx hb d_P_isOnDuty_26 (by decide) ?_
  refine lv_goto (tgt := 31) hx hb d_P_isOnDuty_27 (by decide) ?_
  cases hf
  exact sr_zret (v := 1) hx hb hr hlocks hK G rfl d_P_isOnDuty_31
/-! StationRows$Persons.stationAt(II)I -/
abbrev rm_P_stationAt : Room := { frames := 1, cells := 0, slots := 0, locals := 24 }
def f_P_stationAt (n : Nat) (n_homes n_moves_counts n_moves_froms n_moves_tos n_moveStations : Nat) (F_homes : Nat → Int32) (v_moves_most : Int32) (F_moves_counts : Nat → Int32) (F_moves_froms : Nat → Int32) (F_moves_tos : Nat → Int32) (F_moveStations : Nat → Int32) (x1 x2 : Int32) : Option (Int32) :=
    (sr_bd (f_T_indexAt n n_moves_counts n_moves_froms n_moves_tos v_moves_most F_moves_counts F_moves_froms F_moves_tos x1 x2) fun o1 =>
    (if o1 = (-1) then
    (sr_bk x1 n_homes
    (some (F_homes x1.toNatClampNeg)))
    else
    (sr_bk ((x1 * 3) + o1) n_moveStations
    (some (F_moveStations (((x1 * 3) + o1)).toNatClampNeg)))))
set_option maxHeartbeats 4000000 in
set_option maxRecDepth 100000 in
theorem c_P_stationAt (l : Launch) (dC : Nat → ClassId) (dI : Nat → Nat → Nat) (cI cJ cZ : ClassId) (h0 q_homes q_distances q_duties q_moves q_moveStations q_row q_moves_counts q_moves_froms q_moves_tos : Nat) (n_homes n_moves_counts n_moves_froms n_moves_tos n_moveStations : Nat) (v_rowLength : Int32) (v_count : Int32) (v_distanceLimit : Int32) (F_homes : Nat → Int32) (v_moves_most : Int32) (F_moves_counts : Nat → Int32) (F_moves_froms : Nat → Int32) (F_moves_tos : Nat → Int32) (F_moveStations : Nat → Int32) (x1 x2 : Int32) (n : Nat) (o : Int32) (hf : f_P_stationAt n n_homes n_moves_counts n_moves_froms n_moves_tos n_moveStations F_homes v_moves_most F_moves_counts F_moves_froms F_moves_tos F_moveStations x1 x2 = some o) : sr_Ct l y_P_stationAt (sr_W y_P_stationAt b_P_stationAt 4 (some .int)) rm_P_stationAt (dC, dI) (sr_ty cI cJ cZ) [.ref h0, .int x1, .int x2] [(h0, .inr (3, [.ref q_homes, .ref q_distances, .ref q_duties, .ref q_moves, .ref q_moveStations, .ref q_row, .int v_rowLength, .int v_count, .int v_distanceLimit])), (q_homes, .inl (cI, n_homes, .inl F_homes)), (q_moves, .inr (0, [.int v_moves_most, .ref q_moves_counts, .ref q_moves_froms, .ref q_moves_tos])), (q_moves_counts, .inl (cI, n_moves_counts, .inl F_moves_counts)), (q_moves_froms, .inl (cI, n_moves_froms, .inl F_moves_froms)), (q_moves_tos, .inl (cI, n_moves_tos, .inl F_moves_tos)), (q_moveStations, .inl (cI, n_moveStations, .inl F_moveStations))] (some (.int o)) [(h0, .inr (3, [.ref q_homes, .ref q_distances, .ref q_duties, .ref q_moves, .ref q_moveStations, .ref q_row, .int v_rowLength, .int v_count, .int v_distanceLimit])), (q_homes, .inl (cI, n_homes, .inl F_homes)), (q_moves, .inr (0, [.int v_moves_most, .ref q_moves_counts, .ref q_moves_froms, .ref q_moves_tos])), (q_moves_counts, .inl (cI, n_moves_counts, .inl F_moves_counts)), (q_moves_froms, .inl (cI, n_moves_froms, .inl F_moves_froms)), (q_moves_tos, .inl (cI, n_moves_tos, .inl F_moves_tos)), (q_moveStations, .inl (cI, n_moveStations, .inl F_moveStations))] := by
  refine sr_Ct.of (cc := b_P_stationAt) (maxL := 4) (ret := (some .int)) (by decide) rfl (Nat.le_of_ble_eq_true rfl) ?_
  intro p e s m below meth c A ls C0 hA hK G hl
  obtain ⟨hx, hb, hml, hr, hown, hts, hlocks, hnm⟩ := id C0
  generalize hargs : ([.ref h0, .int x1, .int x2] : List Value).toArray = args at C0 hts ⊢
  have hws := sr_hws hts
  replace hl : lv_has ls 4 [(0, .ref h0), (1, .int x1), (2, .int x2)] := hl
  replace hf : (sr_bd (f_T_indexAt n n_moves_counts n_moves_froms n_moves_tos v_moves_most F_moves_counts F_moves_froms F_moves_tos x1 x2) fun o1 =>
    (if o1 = (-1) then
    (sr_bk x1 n_homes
    (some (F_homes x1.toNatClampNeg)))
    else
    (sr_bk ((x1 * 3) + o1) n_moveStations
    (some (F_moveStations (((x1 * 3) + o1)).toNatClampNeg))))) = some o := hf
  refine lv_aload_n hx hb d_P_stationAt_0 rfl (lv_at hl 0 rfl) ?_
  refine va_get (D := (dC, dI)) (ci := 3) (v := .ref q_moves) (C := "StationRows$Persons") (T := zf_P) (N := 9) hx hb hws zi_P hown hK G.1 0 rfl rfl 3 (by decide) (hws _ k_131) (fun _ h9 => h9) rfl d_P_stationAt_1 ?_
  refine lv_iload_n hx hb d_P_stationAt_4 rfl (lv_at hl 1 rfl) ?_
  refine lv_iload_n hx hb d_P_stationAt_5 rfl (lv_at hl 2 rfl) ?_
  obtain ⟨o1, ho1, hf⟩ := sr_bd_e hf
  refine sr_callV (ci := 0) (vc := ("StationRows$Times", zf_T, 4)) (wr := [(h0, .inr (3, [.ref q_homes, .ref q_distances, .ref q_duties, .ref q_moves, .ref q_moveStations, .ref q_row, .int v_rowLength, .int v_count, .int v_distanceLimit])), (q_homes, .inl (cI, n_homes, .inl F_homes)), (q_moveStations, .inl (cI, n_moveStations, .inl F_moveStations))]) (ws1 := [(h0, .inr (3, [.ref q_homes, .ref q_distances, .ref q_duties, .ref q_moves, .ref q_moveStations, .ref q_row, .int v_rowLength, .int v_count, .int v_distanceLimit])), (q_homes, .inl (cI, n_homes, .inl F_homes)), (q_moves, .inr (0, [.int v_moves_most, .ref q_moves_counts, .ref q_moves_froms, .ref q_moves_tos])), (q_moves_counts, .inl (cI, n_moves_counts, .inl F_moves_counts)), (q_moves_froms, .inl (cI, n_moves_froms, .inl F_moves_froms)), (q_moves_tos, .inl (cI, n_moves_tos, .inl F_moves_tos)), (q_moveStations, .inl (cI, n_moveStations, .inl F_moveStations))]) (rest := []) (st1 := [.int o1]) ⟨hx, hb, hml, hown, hts⟩ (c_T_indexAt l dC dI cI cJ cZ q_moves q_moves_counts q_moves_froms q_moves_tos n_moves_counts n_moves_froms n_moves_tos v_moves_most F_moves_counts F_moves_froms F_moves_tos x1 x2 n o1 ho1) ⟨(sr_cB 2 hws k_530 k_29 k_527 (by decide +kernel) ⟨Nat.le_of_ble_eq_true rfl, Nat.le_of_ble_eq_true rfl⟩), hws _ k_528, hws _ k_529⟩ hK G hA [2, 3, 4, 5] [0, 1, 6] [0, 1, 3, 4, 5, 6, 2] rfl (by decide) rfl (by decide) (by decide) rfl (by decide) 0 rfl rfl rfl hl.1 rfl (Nat.le_of_ble_eq_true rfl) d_P_stationAt_6 ⟨Nat.le_of_ble_eq_true rfl, Nat.le_of_ble_eq_true rfl⟩ rfl (fun H locs G => ?_)
  refine lv_istore_n (lv' := [(3, .int o1), (0, .ref h0), (1, .int x1), (2, .int x2)]) hx hb d_P_stationAt_9 rfl hl (by decide) rfl (fun ls hl => ?_)
  refine lv_iload_n hx hb d_P_stationAt_10 rfl (lv_at hl 0 rfl) ?_
  refine lv_iconst (v := (-1)) hx hb d_P_stationAt_11 (by decide) ?_
  refine lv_icmp_ne (tgt := 24) hx hb d_P_stationAt_12 (by decide) (fun c2 => ?_) (fun c2 => ?_)
  · replace hf := (if_neg c2).symm.trans hf
    refine lv_aload_n hx hb d_P_stationAt_24 rfl (lv_at hl 1 rfl) ?_
    refine va_get (D := (dC, dI)) (ci := 3) (v := .ref q_moveStations) (C := "StationRows$Persons") (T := zf_P) (N := 9) hx hb hws zi_P hown hK G.1 0 rfl rfl 4 (by decide) (hws _ k_132) (fun _ h9 => h9) rfl d_P_stationAt_25 ?_
    refine lv_iload_n hx hb d_P_stationAt_28 rfl (lv_at hl 2 rfl) ?_
    refine lv_iconst (v := 3) hx hb d_P_stationAt_29 (by decide) ?_
    refine lv_imul hx hb d_P_stationAt_30 ?_
    refine lv_iload_n hx hb d_P_stationAt_31 rfl (lv_at hl 0 rfl) ?_
    refine lv_iadd hx hb d_P_stationAt_32 ?_
    obtain ⟨hi3, hf⟩ := sr_bk_e hf
    refine va_iald hx hb hK G.1 6 0 rfl rfl hi3 d_P_stationAt_33 ?_
    cases hf
    exact sr_iret hx hb hr hlocks hK G d_P_stationAt_34
  replace hf := (if_pos c2).symm.trans hf
  refine lv_aload_n hx hb d_P_stationAt_15 rfl (lv_at hl 1 rfl) ?_
  refine va_get (D := (dC, dI)) (ci := 3) (v := .ref q_homes) (C := "StationRows$Persons") (T := zf_P) (N := 9) hx hb hws zi_P hown hK G.1 0 rfl rfl 0 (by decide) (hws _ k_128) (fun _ h9 => h9) rfl d_P_stationAt_16 ?_
  refine lv_iload_n hx hb d_P_stationAt_19 rfl (lv_at hl 2 rfl) ?_
  obtain ⟨hi4, hf⟩ := sr_bk_e hf
  refine va_iald hx hb hK G.1 1 0 rfl rfl hi4 d_P_stationAt_20 ?_
  refine lv_goto (tgt := 34) hx hb d_P_stationAt_21 (by decide) ?_
  cases hf
  exact sr_iret hx hb hr hlocks hK G d_P_stationAt_34
/-! StationRows$Persons.insertIntoRow(I)V -/
abbrev rm_P_insertIntoRow : Room := { frames := 0, cells := 0, slots := 0, locals := 0 }
def f_P_insertIntoRow_5 (n : Nat) (n_distances n_row : Nat) (F_distances : Nat → Int32) (x1 : Int32)  : Nat → Int32 → (Int32) → (Nat → Int32) → Option (Int32 × (Nat → Int32))
  | 0, _, _, _ => none
  | k + 1, y2, v_rowLength, F_row =>
    (if y2 ≤ 0 then
    (sr_bk y2 n_row
    (sr_nm (v_rowLength + 1) fun z3 =>
    (some (z3, (upd F_row (y2 : Int32).toNatClampNeg x1)))))
    else
    (sr_bk (y2 - 1) n_row
    (sr_bk (F_row ((y2 - 1)).toNatClampNeg) n_distances
    (sr_bk x1 n_distances
    (if (F_distances ((F_row ((y2 - 1)).toNatClampNeg)).toNatClampNeg) ≤ (F_distances x1.toNatClampNeg) then
    (sr_bk y2 n_row
    (sr_nm (v_rowLength + 1) fun z9 =>
    (some (z9, (upd F_row (y2 : Int32).toNatClampNeg x1)))))
    else
    (sr_bk (y2 - 1) n_row
    (sr_bk y2 n_row
    (sr_nm (y2 + (-1)) fun z12 =>
    (f_P_insertIntoRow_5 n n_distances n_row F_distances x1  k z12 v_rowLength (upd F_row (y2 : Int32).toNatClampNeg (F_row ((y2 - 1)).toNatClampNeg)))))))))))
theorem f_P_insertIntoRow_5_eq (n : Nat) (n_distances n_row : Nat) (F_distances : Nat → Int32) (x1 : Int32)  (k : Nat) (y2 : Int32) (v_rowLength : Int32) (F_row : Nat → Int32) : f_P_insertIntoRow_5 n n_distances n_row F_distances x1  (k + 1) y2 v_rowLength F_row =
    (if y2 ≤ 0 then
    (sr_bk y2 n_row
    (sr_nm (v_rowLength + 1) fun z3 =>
    (some (z3, (upd F_row (y2 : Int32).toNatClampNeg x1)))))
    else
    (sr_bk (y2 - 1) n_row
    (sr_bk (F_row ((y2 - 1)).toNatClampNeg) n_distances
    (sr_bk x1 n_distances
    (if (F_distances ((F_row ((y2 - 1)).toNatClampNeg)).toNatClampNeg) ≤ (F_distances x1.toNatClampNeg) then
    (sr_bk y2 n_row
    (sr_nm (v_rowLength + 1) fun z9 =>
    (some (z9, (upd F_row (y2 : Int32).toNatClampNeg x1)))))
    else
    (sr_bk (y2 - 1) n_row
    (sr_bk y2 n_row
    (sr_nm (y2 + (-1)) fun z12 =>
    (f_P_insertIntoRow_5 n n_distances n_row F_distances x1  k z12 v_rowLength (upd F_row (y2 : Int32).toNatClampNeg (F_row ((y2 - 1)).toNatClampNeg))))))))))) := rfl
set_option maxHeartbeats 4000000 in
set_option maxRecDepth 100000 in
theorem w_P_insertIntoRow_5 (l : Launch) {p : Program} {e : Env} {s : State} {m : MethodId} {below : List Frame} {meth : Method} {c : Code} (dC : Nat → ClassId) (dI : Nat → Nat → Nat) (cI cJ cZ : ClassId) (h0 q_homes q_distances q_duties q_moves q_moveStations q_row : Nat) (n_distances n_row : Nat) (v_count : Int32) (v_distanceLimit : Int32) (F_distances : Nat → Int32) (x1 : Int32) (n : Nat) (A : Nat → Prop) (args : Array Value) (o : Int32 × (Nat → Int32)) (C0 : sr_cx p s m args meth c b_P_insertIntoRow 3 none "StationRows$Persons" "insertIntoRow" (sr_W y_P_insertIntoRow b_P_insertIntoRow 3 none)) (hK : va_K (dC, dI) vwCl (sr_ty cI cJ cZ) s) (hA : ∀ q, s.heap.size ≤ q → A q)   :
    ∀ (k : Nat) (y2 : Int32) (v_rowLength : Int32) (F_row : Nat → Int32) (H : Heap) (locs : List Loc) (ls : Array Slot), f_P_insertIntoRow_5 n n_distances n_row F_distances x1  k y2 v_rowLength F_row = some o → sr_G (dC, dI) A [(h0, .inr (3, [.ref q_homes, .ref q_distances, .ref q_duties, .ref q_moves, .ref q_moveStations, .ref q_row, .int v_rowLength, .int v_count, .int v_distanceLimit])), (q_distances, .inl (cI, n_distances, .inl F_distances)), (q_row, .inl (cI, n_row, .inl F_row))] s H locs → lv_has ls 3 [(0, .ref h0), (1, .int x1), (2, .int y2)] → W p l e rm_P_insertIntoRow s m args below meth c H locs 0 0 (MQ below (sr_Q (dC, dI) (sr_ty cI cJ cZ) A [(h0, .inr (3, [.ref q_homes, .ref q_distances, .ref q_duties, .ref q_moves, .ref q_moveStations, .ref q_row, .int o.1, .int v_count, .int v_distanceLimit])), (q_distances, .inl (cI, n_distances, .inl F_distances)), (q_row, .inl (cI, n_row, .inl o.2))] (.inl (none)) s.heap.size) args s rm_P_insertIntoRow.cells rm_P_insertIntoRow.slots A) (F0 m 5 ls []) := by
  obtain ⟨hx, hb, hml, hr, hown, hts, hlocks, hnm⟩ := id C0
  have hws := sr_hws hts
  intro k
  induction k with
  | zero =>
    intro y2 v_rowLength F_row H locs ls hf
    exact sr_no hf
  | succ k ih =>
    intro y2 v_rowLength F_row H locs ls hf G hl
    replace hf := (f_P_insertIntoRow_5_eq n n_distances n_row F_distances x1  k y2 v_rowLength F_row).symm.trans hf
    refine lv_iload_n hx hb d_P_insertIntoRow_5 rfl (lv_at hl 2 rfl) ?_
    refine lv_if_le (tgt := 51) hx hb d_P_insertIntoRow_6 (by decide) (fun c1 => ?_) (fun c1 => ?_)
    · replace hf := (if_pos c1).symm.trans hf
      refine lv_aload_n hx hb d_P_insertIntoRow_51 rfl (lv_at hl 0 rfl) ?_
      refine va_get (D := (dC, dI)) (ci := 3) (v := .ref q_row) (C := "StationRows$Persons") (T := zf_P) (N := 9) hx hb hws zi_P hown hK G.1 0 rfl rfl 5 (by decide) (hws _ k_133) (fun _ h9 => h9) rfl d_P_insertIntoRow_52 ?_
      refine lv_iload_n hx hb d_P_insertIntoRow_55 rfl (lv_at hl 2 rfl) ?_
      refine lv_iload_n hx hb d_P_insertIntoRow_56 rfl (lv_at hl 1 rfl) ?_
      obtain ⟨hi2, hf⟩ := sr_bk_e hf
      refine va_iast hx hb hK G.1 G.2.1 G.2.2 2 0 rfl rfl hi2 d_P_insertIntoRow_57 (fun H locs hP hD hS => ?_)
      have G : sr_G (dC, dI) A [(h0, .inr (3, [.ref q_homes, .ref q_distances, .ref q_duties, .ref q_moves, .ref q_moveStations, .ref q_row, .int v_rowLength, .int v_count, .int v_distanceLimit])), (q_distances, .inl (cI, n_distances, .inl F_distances)), (q_row, .inl (cI, n_row, .inl (upd F_row (y2 : Int32).toNatClampNeg x1)))] s H locs := ⟨hP, hD, hS⟩
      refine lv_aload_n hx hb d_P_insertIntoRow_58 rfl (lv_at hl 0 rfl) ?_
      refine lv_dup hx hb d_P_insertIntoRow_59 rfl ?_
      refine va_get (D := (dC, dI)) (ci := 3) (v := .int v_rowLength) (C := "StationRows$Persons") (T := zf_P) (N := 9) hx hb hws zi_P hown hK G.1 0 rfl rfl 6 (by decide) (hws _ k_134) (fun _ h9 => h9) rfl d_P_insertIntoRow_60 ?_
      refine lv_iconst (v := 1) hx hb d_P_insertIntoRow_63 (by decide) ?_
      refine lv_iadd hx hb d_P_insertIntoRow_64 ?_
      refine lv_topi (fun z3 ez3 => ?_)
      replace hf := sr_nm_u ez3 hf
      refine va_put (D := (dC, dI)) (ci := 3) (v := .int z3) (ty := .int) (C := "StationRows$Persons") (T := zf_P) (N := 9) hx hb hws zi_P zt_P zt_P_ok zn_P hown hK G.1 G.2.1 G.2.2 0 rfl rfl 6 (by decide) (hws _ k_134) (fun _ h9 => h9) rfl (by decide +kernel) rfl rfl (Nat.le_of_ble_eq_true rfl) d_P_insertIntoRow_65 (fun H locs hP hD hS => ?_)
      have G : sr_G (dC, dI) A [(h0, .inr (3, [.ref q_homes, .ref q_distances, .ref q_duties, .ref q_moves, .ref q_moveStations, .ref q_row, .int z3, .int v_count, .int v_distanceLimit])), (q_distances, .inl (cI, n_distances, .inl F_distances)), (q_row, .inl (cI, n_row, .inl (upd F_row (y2 : Int32).toNatClampNeg x1)))] s H locs := ⟨hP, hD, hS⟩
      cases hf
      exact sr_vret hx hb hr hlocks hK G d_P_insertIntoRow_68
    replace hf := (if_neg c1).symm.trans hf
    refine lv_aload_n hx hb d_P_insertIntoRow_9 rfl (lv_at hl 0 rfl) ?_
    refine va_get (D := (dC, dI)) (ci := 3) (v := .ref q_distances) (C := "StationRows$Persons") (T := zf_P) (N := 9) hx hb hws zi_P hown hK G.1 0 rfl rfl 1 (by decide) (hws _ k_129) (fun _ h9 => h9) rfl d_P_insertIntoRow_10 ?_
    refine lv_aload_n hx hb d_P_insertIntoRow_13 rfl (lv_at hl 0 rfl) ?_
    refine va_get (D := (dC, dI)) (ci := 3) (v := .ref q_row) (C := "StationRows$Persons") (T := zf_P) (N := 9) hx hb hws zi_P hown hK G.1 0 rfl rfl 5 (by decide) (hws _ k_133) (fun _ h9 => h9) rfl d_P_insertIntoRow_14 ?_
    refine lv_iload_n hx hb d_P_insertIntoRow_17 rfl (lv_at hl 2 rfl) ?_
    refine lv_iconst (v := 1) hx hb d_P_insertIntoRow_18 (by decide) ?_
    refine lv_isub hx hb d_P_insertIntoRow_19 ?_
    obtain ⟨hi4, hf⟩ := sr_bk_e hf
    refine va_iald hx hb hK G.1 2 0 rfl rfl hi4 d_P_insertIntoRow_20 ?_
    obtain ⟨hi5, hf⟩ := sr_bk_e hf
    refine va_iald hx hb hK G.1 1 0 rfl rfl hi5 d_P_insertIntoRow_21 ?_
    refine lv_aload_n hx hb d_P_insertIntoRow_22 rfl (lv_at hl 0 rfl) ?_
    refine va_get (D := (dC, dI)) (ci := 3) (v := .ref q_distances) (C := "StationRows$Persons") (T := zf_P) (N := 9) hx hb hws zi_P hown hK G.1 0 rfl rfl 1 (by decide) (hws _ k_129) (fun _ h9 => h9) rfl d_P_insertIntoRow_23 ?_
    refine lv_iload_n hx hb d_P_insertIntoRow_26 rfl (lv_at hl 1 rfl) ?_
    obtain ⟨hi6, hf⟩ := sr_bk_e hf
    refine va_iald hx hb hK G.1 1 0 rfl rfl hi6 d_P_insertIntoRow_27 ?_
    refine lv_icmp_le (tgt := 51) hx hb d_P_insertIntoRow_28 (by decide) (fun c7 => ?_) (fun c7 => ?_)
    · replace hf := (if_pos c7).symm.trans hf
      refine lv_aload_n hx hb d_P_insertIntoRow_51 rfl (lv_at hl 0 rfl) ?_
      refine va_get (D := (dC, dI)) (ci := 3) (v := .ref q_row) (C := "StationRows$Persons") (T := zf_P) (N := 9) hx hb hws zi_P hown hK G.1 0 rfl rfl 5 (by decide) (hws _ k_133) (fun _ h9 => h9) rfl d_P_insertIntoRow_52 ?_
      refine lv_iload_n hx hb d_P_insertIntoRow_55 rfl (lv_at hl 2 rfl) ?_
      refine lv_iload_n hx hb d_P_insertIntoRow_56 rfl (lv_at hl 1 rfl) ?_
      obtain ⟨hi8, hf⟩ := sr_bk_e hf
      refine va_iast hx hb hK G.1 G.2.1 G.2.2 2 0 rfl rfl hi8 d_P_insertIntoRow_57 (fun H locs hP hD hS => ?_)
      have G : sr_G (dC, dI) A [(h0, .inr (3, [.ref q_homes, .ref q_distances, .ref q_duties, .ref q_moves, .ref q_moveStations, .ref q_row, .int v_rowLength, .int v_count, .int v_distanceLimit])), (q_distances, .inl (cI, n_distances, .inl F_distances)), (q_row, .inl (cI, n_row, .inl (upd F_row (y2 : Int32).toNatClampNeg x1)))] s H locs := ⟨hP, hD, hS⟩
      refine lv_aload_n hx hb d_P_insertIntoRow_58 rfl (lv_at hl 0 rfl) ?_
      refine lv_dup hx hb d_P_insertIntoRow_59 rfl ?_
      refine va_get (D := (dC, dI)) (ci := 3) (v := .int v_rowLength) (C := "StationRows$Persons") (T := zf_P) (N := 9) hx hb hws zi_P hown hK G.1 0 rfl rfl 6 (by decide) (hws _ k_134) (fun _ h9 => h9) rfl d_P_insertIntoRow_60 ?_
      refine lv_iconst (v := 1) hx hb d_P_insertIntoRow_63 (by decide) ?_
      refine lv_iadd hx hb d_P_insertIntoRow_64 ?_
      refine lv_topi (fun z9 ez9 => ?_)
      replace hf := sr_nm_u ez9 hf
      refine va_put (D := (dC, dI)) (ci := 3) (v := .int z9) (ty := .int) (C := "StationRows$Persons") (T := zf_P) (N := 9) hx hb hws zi_P zt_P zt_P_ok zn_P hown hK G.1 G.2.1 G.2.2 0 rfl rfl 6 (by decide) (hws _ k_134) (fun _ h9 => h9) rfl (by decide +kernel) rfl rfl (Nat.le_of_ble_eq_true rfl) d_P_insertIntoRow_65 (fun H locs hP hD hS => ?_)
      have G : sr_G (dC, dI) A [(h0, .inr (3, [.ref q_homes, .ref q_distances, .ref q_duties, .ref q_moves, .ref q_moveStations, .ref q_row, .int z9, .int v_count, .int v_distanceLimit])), (q_distances, .inl (cI, n_distances, .inl F_distances)), (q_row, .inl (cI, n_row, .inl (upd F_row (y2 : Int32).toNatClampNeg x1)))] s H locs := ⟨hP, hD, hS⟩
      cases hf
      exact sr_vret hx hb hr hlocks hK G d_P_insertIntoRow_68
    replace hf := (if_neg c7).symm.trans hf
    refine lv_aload_n hx hb d_P_insertIntoRow_31 rfl (lv_at hl 0 rfl) ?_
    refine va_get (D := (dC, dI)) (ci := 3) (v := .ref q_row) (C := "StationRows$Persons") (T := zf_P) (N := 9) hx hb hws zi_P hown hK G.1 0 rfl rfl 5 (by decide) (hws _ k_133) (fun _ h9 => h9) rfl d_P_insertIntoRow_32 ?_
    refine lv_iload_n hx hb d_P_insertIntoRow_35 rfl (lv_at hl 2 rfl) ?_
    refine lv_aload_n hx hb d_P_insertIntoRow_36 rfl (lv_at hl 0 rfl) ?_
    refine va_get (D := (dC, dI)) (ci := 3) (v := .ref q_row) (C := "StationRows$Persons") (T := zf_P) (N := 9) hx hb hws zi_P hown hK G.1 0 rfl rfl 5 (by decide) (hws _ k_133) (fun _ h9 => h9) rfl d_P_insertIntoRow_37 ?_
    refine lv_iload_n hx hb d_P_insertIntoRow_40 rfl (lv_at hl 2 rfl) ?_
    refine lv_iconst (v := 1) hx hb d_P_insertIntoRow_41 (by decide) ?_
    refine lv_isub hx hb d_P_insertIntoRow_42 ?_
    obtain ⟨hi10, hf⟩ := sr_bk_e hf
    refine va_iald hx hb hK G.1 2 0 rfl rfl hi10 d_P_insertIntoRow_43 ?_
    obtain ⟨hi11, hf⟩ := sr_bk_e hf
    refine va_iast hx hb hK G.1 G.2.1 G.2.2 2 0 rfl rfl hi11 d_P_insertIntoRow_44 (fun H locs hP hD hS => ?_)
    have G : sr_G (dC, dI) A [(h0, .inr (3, [.ref q_homes, .ref q_distances, .ref q_duties, .ref q_moves, .ref q_moveStations, .ref q_row, .int v_rowLength, .int v_count, .int v_distanceLimit])), (q_distances, .inl (cI, n_distances, .inl F_distances)), (q_row, .inl (cI, n_row, .inl (upd F_row (y2 : Int32).toNatClampNeg (F_row ((y2 - 1)).toNatClampNeg))))] s H locs := ⟨hP, hD, hS⟩
    obtain ⟨z12, ez12⟩ : ∃ y : Int32, y = (y2 + (-1)) := ⟨_, rfl⟩
    replace hf := sr_nm_u ez12 hf
    refine lv_iinc (v := z12) (lv' := [(2, .int z12), (0, .ref h0), (1, .int x1)]) hx hb d_P_insertIntoRow_45 hl (k := 2) rfl ((sr_inc _ (by decide)).trans ez12.symm) (by decide) rfl (fun ls hl => ?_)
    refine lv_goto (tgt := 5) hx hb d_P_insertIntoRow_48 (by decide) ?_
    exact ih z12 v_rowLength (upd F_row (y2 : Int32).toNatClampNeg (F_row ((y2 - 1)).toNatClampNeg)) _ _ _ hf G (lv_sub hl [1, 2, 0] rfl)
def f_P_insertIntoRow (n : Nat) (n_distances n_row : Nat) (v_rowLength : Int32) (F_distances : Nat → Int32) (F_row : Nat → Int32) (x1 : Int32) : Option (Int32 × (Nat → Int32)) :=
    (f_P_insertIntoRow_5 n n_distances n_row F_distances x1  n v_rowLength v_rowLength F_row)
set_option maxHeartbeats 4000000 in
set_option maxRecDepth 100000 in
theorem c_P_insertIntoRow (l : Launch) (dC : Nat → ClassId) (dI : Nat → Nat → Nat) (cI cJ cZ : ClassId) (h0 q_homes q_distances q_duties q_moves q_moveStations q_row : Nat) (n_distances n_row : Nat) (v_rowLength : Int32) (v_count : Int32) (v_distanceLimit : Int32) (F_distances : Nat → Int32) (F_row : Nat → Int32) (x1 : Int32) (n : Nat) (o : Int32 × (Nat → Int32)) (hf : f_P_insertIntoRow n n_distances n_row v_rowLength F_distances F_row x1 = some o) : sr_Ct l y_P_insertIntoRow (sr_W y_P_insertIntoRow b_P_insertIntoRow 3 none) rm_P_insertIntoRow (dC, dI) (sr_ty cI cJ cZ) [.ref h0, .int x1] [(h0, .inr (3, [.ref q_homes, .ref q_distances, .ref q_duties, .ref q_moves, .ref q_moveStations, .ref q_row, .int v_rowLength, .int v_count, .int v_distanceLimit])), (q_distances, .inl (cI, n_distances, .inl F_distances)), (q_row, .inl (cI, n_row, .inl F_row))] (none) [(h0, .inr (3, [.ref q_homes, .ref q_distances, .ref q_duties, .ref q_moves, .ref q_moveStations, .ref q_row, .int o.1, .int v_count, .int v_distanceLimit])), (q_distances, .inl (cI, n_distances, .inl F_distances)), (q_row, .inl (cI, n_row, .inl o.2))] := by
  refine sr_Ct.of (cc := b_P_insertIntoRow) (maxL := 3) (ret := none) (by decide) rfl (Nat.le_of_ble_eq_true rfl) ?_
  intro p e s m below meth c A ls C0 hA hK G hl
  obtain ⟨hx, hb, hml, hr, hown, hts, hlocks, hnm⟩ := id C0
  generalize hargs : ([.ref h0, .int x1] : List Value).toArray = args at C0 hts ⊢
  have hws := sr_hws hts
  replace hl : lv_has ls 3 [(0, .ref h0), (1, .int x1)] := hl
  replace hf : (f_P_insertIntoRow_5 n n_distances n_row F_distances x1  n v_rowLength v_rowLength F_row) = some o := hf
  refine lv_aload_n hx hb d_P_insertIntoRow_0 rfl (lv_at hl 0 rfl) ?_
  refine va_get (D := (dC, dI)) (ci := 3) (v := .int v_rowLength) (C := "StationRows$Persons") (T := zf_P) (N := 9) hx hb hws zi_P hown hK G.1 0 rfl rfl 6 (by decide) (hws _ k_134) (fun _ h9 => h9) rfl d_P_insertIntoRow_1 ?_
  refine lv_istore_n (lv' := [(2, .int v_rowLength), (0, .ref h0), (1, .int x1)]) hx hb d_P_insertIntoRow_4 rfl hl (by decide) rfl (fun ls hl => ?_)
  exact w_P_insertIntoRow_5 l dC dI cI cJ cZ h0 q_homes q_distances q_duties q_moves q_moveStations q_row n_distances n_row v_count v_distanceLimit F_distances x1 n A args o C0 hK hA   n v_rowLength v_rowLength F_row _ _ _ hf G (lv_sub hl [1, 2, 0] rfl)
/-! StationRows$Persons.gather(IIZ)I -/
abbrev rm_P_gather : Room := { frames := 2, cells := 0, slots := 0, locals := 47 }
def f_P_gather_8 (n : Nat) (n_homes n_distances n_duties_counts n_duties_froms n_duties_tos n_moves_counts n_moves_froms n_moves_tos n_moveStations n_row : Nat) (v_count : Int32) (v_distanceLimit : Int32) (F_homes : Nat → Int32) (F_distances : Nat → Int32) (v_duties_most : Int32) (F_duties_counts : Nat → Int32) (F_duties_froms : Nat → Int32) (F_duties_tos : Nat → Int32) (v_moves_most : Int32) (F_moves_counts : Nat → Int32) (F_moves_froms : Nat → Int32) (F_moves_tos : Nat → Int32) (F_moveStations : Nat → Int32) (x1 x2 x3 : Int32)  : Nat → Int32 → (Int32) → (Nat → Int32) → Option (Int32 × Int32 × (Nat → Int32))
  | 0, _, _, _ => none
  | k + 1, y4, v_rowLength, F_row =>
    (if v_count ≤ y4 then
    (some (v_rowLength, v_rowLength, F_row))
    else
    (if x3 = 0 then
    (sr_nm (y4 + 1) fun z3 =>
    (f_P_gather_8 n n_homes n_distances n_duties_counts n_duties_froms n_duties_tos n_moves_counts n_moves_froms n_moves_tos n_moveStations n_row v_count v_distanceLimit F_homes F_distances v_duties_most F_duties_counts F_duties_froms F_duties_tos v_moves_most F_moves_counts F_moves_froms F_moves_tos F_moveStations x1 x2 x3  k z3 v_rowLength F_row))
    else
    (sr_bd (f_P_isOnDuty n n_distances n_duties_counts n_duties_froms n_duties_tos v_distanceLimit F_distances v_duties_most F_duties_counts F_duties_froms F_duties_tos y4 x2) fun o4 =>
    (if o4 = 0 then
    (sr_nm (y4 + 1) fun z6 =>
    (f_P_gather_8 n n_homes n_distances n_duties_counts n_duties_froms n_duties_tos n_moves_counts n_moves_froms n_moves_tos n_moveStations n_row v_count v_distanceLimit F_homes F_distances v_duties_most F_duties_counts F_duties_froms F_duties_tos v_moves_most F_moves_counts F_moves_froms F_moves_tos F_moveStations x1 x2 x3  k z6 v_rowLength F_row))
    else
    (sr_bd (f_P_stationAt n n_homes n_moves_counts n_moves_froms n_moves_tos n_moveStations F_homes v_moves_most F_moves_counts F_moves_froms F_moves_tos F_moveStations y4 x2) fun o7 =>
    (if o7 = x1 then
    (sr_bd (f_P_insertIntoRow n n_distances n_row v_rowLength F_distances F_row y4) fun o10 =>
    (sr_nm (y4 + 1) fun z11 =>
    (f_P_gather_8 n n_homes n_distances n_duties_counts n_duties_froms n_duties_tos n_moves_counts n_moves_froms n_moves_tos n_moveStations n_row v_count v_distanceLimit F_homes F_distances v_duties_most F_duties_counts F_duties_froms F_duties_tos v_moves_most F_moves_counts F_moves_froms F_moves_tos F_moveStations x1 x2 x3  k z11 o10.1 o10.2)))
    else
    (sr_nm (y4 + 1) fun z9 =>
    (f_P_gather_8 n n_homes n_distances n_duties_counts n_duties_froms n_duties_tos n_moves_counts n_moves_froms n_moves_tos n_moveStations n_row v_count v_distanceLimit F_homes F_distances v_duties_most F_duties_counts F_duties_froms F_duties_tos v_moves_most F_moves_counts F_moves_froms F_moves_tos F_moveStations x1 x2 x3  k z9 v_rowLength F_row))))))))
theorem f_P_gather_8_eq (n : Nat) (n_homes n_distances n_duties_counts n_duties_froms n_duties_tos n_moves_counts n_moves_froms n_moves_tos n_moveStations n_row : Nat) (v_count : Int32) (v_distanceLimit : Int32) (F_homes : Nat → Int32) (F_distances : Nat → Int32) (v_duties_most : Int32) (F_duties_counts : Nat → Int32) (F_duties_froms : Nat → Int32) (F_duties_tos : Nat → Int32) (v_moves_most : Int32) (F_moves_counts : Nat → Int32) (F_moves_froms : Nat → Int32) (F_moves_tos : Nat → Int32) (F_moveStations : Nat → Int32) (x1 x2 x3 : Int32)  (k : Nat) (y4 : Int32) (v_rowLength : Int32) (F_row : Nat → Int32) : f_P_gather_8 n n_homes n_distances n_duties_counts n_duties_froms n_duties_tos n_moves_counts n_moves_froms n_moves_tos n_moveStations n_row v_count v_distanceLimit F_homes F_distances v_duties_most F_duties_counts F_duties_froms F_duties_tos v_moves_most F_moves_counts F_moves_froms F_moves_tos F_moveStations x1 x2 x3  (k + 1) y4 v_rowLength F_row =
    (if v_count ≤ y4 then
    (some (v_rowLength, v_rowLength, F_row))
    else
    (if x3 = 0 then
    (sr_nm (y4 + 1) fun z3 =>
    (f_P_gather_8 n n_homes n_distances n_duties_counts n_duties_froms n_duties_tos n_moves_counts n_moves_froms n_moves_tos n_moveStations n_row v_count v_distanceLimit F_homes F_distances v_duties_most F_duties_counts F_duties_froms F_duties_tos v_moves_most F_moves_counts F_moves_froms F_moves_tos F_moveStations x1 x2 x3  k z3 v_rowLength F_row))
    else
    (sr_bd (f_P_isOnDuty n n_distances n_duties_counts n_duties_froms n_duties_tos v_distanceLimit F_distances v_duties_most F_duties_counts F_duties_froms F_duties_tos y4 x2) fun o4 =>
    (if o4 = 0 then
    (sr_nm (y4 + 1) fun z6 =>
    (f_P_gather_8 n n_homes n_distances n_duties_counts n_duties_froms n_duties_tos n_moves_counts n_moves_froms n_moves_tos n_moveStations n_row v_count v_distanceLimit F_homes F_distances v_duties_most F_duties_counts F_duties_froms F_duties_tos v_moves_most F_moves_counts F_moves_froms F_moves_tos F_moveStations x1 x2 x3  k z6 v_rowLength F_row))
    else
    (sr_bd (f_P_stationAt n n_homes n_moves_counts n_moves_froms n_moves_tos n_moveStations F_homes v_moves_most F_moves_counts F_moves_froms F_moves_tos F_moveStations y4 x2) fun o7 =>
    (if o7 = x1 then
    (sr_bd (f_P_insertIntoRow n n_distances n_row v_rowLength F_distances F_row y4) fun o10 =>
    (sr_nm (y4 + 1) fun z11 =>
    (f_P_gather_8 n n_homes n_distances n_duties_counts n_duties_froms n_duties_tos n_moves_counts n_moves_froms n_moves_tos n_moveStations n_row v_count v_distanceLimit F_homes F_distances v_duties_most F_duties_counts F_duties_froms F_duties_tos v_moves_most F_moves_counts F_moves_froms F_moves_tos F_moveStations x1 x2 x3  k z11 o10.1 o10.2)))
    else
    (sr_nm (y4 + 1) fun z9 =>
    (f_P_gather_8 n n_homes n_distances n_duties_counts n_duties_froms n_duties_tos n_moves_counts n_moves_froms n_moves_tos n_moveStations n_row v_count v_distanceLimit F_homes F_distances v_duties_most F_duties_counts F_duties_froms F_duties_tos v_moves_most F_moves_counts F_moves_froms F_moves_tos F_moveStations x1 x2 x3  k z9 v_rowLength F_row)))))))) := rfl
set_option maxHeartbeats 4000000 in
set_option maxRecDepth 100000 in
theorem w_P_gather_8 (l : Launch) {p : Program} {e : Env} {s : State} {m : MethodId} {below : List Frame} {meth : Method} {c : Code} (dC : Nat → ClassId) (dI : Nat → Nat → Nat) (cI cJ cZ : ClassId) (h0 q_homes q_distances q_duties q_moves q_moveStations q_row q_duties_counts q_duties_froms q_duties_tos q_moves_counts q_moves_froms q_moves_tos : Nat) (n_homes n_distances n_duties_counts n_duties_froms n_duties_tos n_moves_counts n_moves_froms n_moves_tos n_moveStations n_row : Nat) (v_count : Int32) (v_distanceLimit : Int32) (F_homes : Nat → Int32) (F_distances : Nat → Int32) (v_duties_most : Int32) (F_duties_counts : Nat → Int32) (F_duties_froms : Nat → Int32) (F_duties_tos : Nat → Int32) (v_moves_most : Int32) (F_moves_counts : Nat → Int32) (F_moves_froms : Nat → Int32) (F_moves_tos : Nat → Int32) (F_moveStations : Nat → Int32) (x1 x2 x3 : Int32) (n : Nat) (A : Nat → Prop) (args : Array Value) (o : Int32 × Int32 × (Nat → Int32)) (C0 : sr_cx p s m args meth c b_P_gather 5 (some .int) "StationRows$Persons" "gather" (sr_W y_P_gather b_P_gather 5 (some .int))) (hK : va_K (dC, dI) vwCl (sr_ty cI cJ cZ) s) (hA : ∀ q, s.heap.size ≤ q → A q)   :
    ∀ (k : Nat) (y4 : Int32) (v_rowLength : Int32) (F_row : Nat → Int32) (H : Heap) (locs : List Loc) (ls : Array Slot), f_P_gather_8 n n_homes n_distances n_duties_counts n_duties_froms n_duties_tos n_moves_counts n_moves_froms n_moves_tos n_moveStations n_row v_count v_distanceLimit F_homes F_distances v_duties_most F_duties_counts F_duties_froms F_duties_tos v_moves_most F_moves_counts F_moves_froms F_moves_tos F_moveStations x1 x2 x3  k y4 v_rowLength F_row = some o → sr_G (dC, dI) A [(h0, .inr (3, [.ref q_homes, .ref q_distances, .ref q_duties, .ref q_moves, .ref q_moveStations, .ref q_row, .int v_rowLength, .int v_count, .int v_distanceLimit])), (q_homes, .inl (cI, n_homes, .inl F_homes)), (q_distances, .inl (cI, n_distances, .inl F_distances)), (q_duties, .inr (0, [.int v_duties_most, .ref q_duties_counts, .ref q_duties_froms, .ref q_duties_tos])), (q_duties_counts, .inl (cI, n_duties_counts, .inl F_duties_counts)), (q_duties_froms, .inl (cI, n_duties_froms, .inl F_duties_froms)), (q_duties_tos, .inl (cI, n_duties_tos, .inl F_duties_tos)), (q_moves, .inr (0, [.int v_moves_most, .ref q_moves_counts, .ref q_moves_froms, .ref q_moves_tos])), (q_moves_counts, .inl (cI, n_moves_counts, .inl F_moves_counts)), (q_moves_froms, .inl (cI, n_moves_froms, .inl F_moves_froms)), (q_moves_tos, .inl (cI, n_moves_tos, .inl F_moves_tos)), (q_moveStations, .inl (cI, n_moveStations, .inl F_moveStations)), (q_row, .inl (cI, n_row, .inl F_row))] s H locs → lv_has ls 5 [(0, .ref h0), (1, .int x1), (2, .int x2), (3, .int x3), (4, .int y4)] → W p l e rm_P_gather s m args below meth c H locs 0 0 (MQ below (sr_Q (dC, dI) (sr_ty cI cJ cZ) A [(h0, .inr (3, [.ref q_homes, .ref q_distances, .ref q_duties, .ref q_moves, .ref q_moveStations, .ref q_row, .int o.2.1, .int v_count, .int v_distanceLimit])), (q_homes, .inl (cI, n_homes, .inl F_homes)), (q_distances, .inl (cI, n_distances, .inl F_distances)), (q_duties, .inr (0, [.int v_duties_most, .ref q_duties_counts, .ref q_duties_froms, .ref q_duties_tos])), (q_duties_counts, .inl (cI, n_duties_counts, .inl F_duties_counts)), (q_duties_froms, .inl (cI, n_duties_froms, .inl F_duties_froms)), (q_duties_tos, .inl (cI, n_duties_tos, .inl F_duties_tos)), (q_moves, .inr (0, [.int v_moves_most, .ref q_moves_counts, .ref q_moves_froms, .ref q_moves_tos])), (q_moves_counts, .inl (cI, n_moves_counts, .inl F_moves_counts)), (q_moves_froms, .inl (cI, n_moves_froms, .inl F_moves_froms)), (q_moves_tos, .inl (cI, n_moves_tos, .inl F_moves_tos)), (q_moveStations, .inl (cI, n_moveStations, .inl F_moveStations)), (q_row, .inl (cI, n_row, .inl o.2.2))] (.inl (some (.int o.1))) s.heap.size) args s rm_P_gather.cells rm_P_gather.slots A) (F0 m 8 ls []) := by
  obtain ⟨hx, hb, hml, hr, hown, hts, hlocks, hnm⟩ := id C0
  have hws := sr_hws hts
  intro k
  induction k with
  | zero =>
    intro y4 v_rowLength F_row H locs ls hf
    exact sr_no hf
  | succ k ih =>
    intro y4 v_rowLength F_row H locs ls hf G hl
    replace hf := (f_P_gather_8_eq n n_homes n_distances n_duties_counts n_duties_froms n_duties_tos n_moves_counts n_moves_froms n_moves_tos n_moveStations n_row v_count v_distanceLimit F_homes F_distances v_duties_most F_duties_counts F_duties_froms F_duties_tos v_moves_most F_moves_counts F_moves_froms F_moves_tos F_moveStations x1 x2 x3  k y4 v_rowLength F_row).symm.trans hf
    refine lv_iload hx hb d_P_gather_8 (lv_at hl 4 rfl) ?_
    refine lv_aload_n hx hb d_P_gather_10 rfl (lv_at hl 0 rfl) ?_
    refine va_get (D := (dC, dI)) (ci := 3) (v := .int v_count) (C := "StationRows$Persons") (T := zf_P) (N := 9) hx hb hws zi_P hown hK G.1 0 rfl rfl 7 (by decide) (hws _ k_135) (fun _ h9 => h9) rfl d_P_gather_11 ?_
    refine lv_icmp_ge (tgt := 54) hx hb d_P_gather_14 (by decide) (fun c1 => ?_) (fun c1 => ?_)
    · replace hf := (if_pos c1).symm.trans hf
      refine lv_aload_n hx hb d_P_gather_54 rfl (lv_at hl 0 rfl) ?_
      refine va_get (D := (dC, dI)) (ci := 3) (v := .int v_rowLength) (C := "StationRows$Persons") (T := zf_P) (N := 9) hx hb hws zi_P hown hK G.1 0 rfl rfl 6 (by decide) (hws _ k_134) (fun _ h9 => h9) rfl d_P_gather_55 ?_
      cases hf
      exact sr_iret hx hb hr hlocks hK G d_P_gather_58
    replace hf := (if_neg c1).symm.trans hf
    refine lv_iload_n hx hb d_P_gather_17 rfl (lv_at hl 3 rfl) ?_
    refine lv_if_eq (tgt := 48) hx hb d_P_gather_18 (by decide) (fun c2 => ?_) (fun c2 => ?_)
    · replace hf := (if_pos c2).symm.trans hf
      obtain ⟨z3, ez3⟩ : ∃ y : Int32, y = (y4 + 1) := ⟨_, rfl⟩
      replace hf := sr_nm_u ez3 hf
      refine lv_iinc (v := z3) (lv' := [(4, .int z3), (0, .ref h0), (1, .int x1), (2, .int x2), (3, .int x3)]) hx hb d_P_gather_48 hl (k := 4) rfl ((sr_inc _ (by decide)).trans ez3.symm) (by decide) rfl (fun ls hl => ?_)
      refine lv_goto (tgt := 8) hx hb d_P_gather_51 (by decide) ?_
      exact ih z3 v_rowLength F_row _ _ _ hf G (lv_sub hl [1, 2, 3, 4, 0] rfl)
    replace hf := (if_neg c2).symm.trans hf
    refine lv_aload_n hx hb d_P_gather_21 rfl (lv_at hl 0 rfl) ?_
    refine lv_iload hx hb d_P_gather_22 (lv_at hl 4 rfl) ?_
    refine lv_iload_n hx hb d_P_gather_24 rfl (lv_at hl 2 rfl) ?_
    obtain ⟨o4, ho4, hf⟩ := sr_bd_e hf
    refine sr_callV (ci := 3) (vc := ("StationRows$Persons", zf_P, 9)) (wr := [(q_homes, .inl (cI, n_homes, .inl F_homes)), (q_moves, .inr (0, [.int v_moves_most, .ref q_moves_counts, .ref q_moves_froms, .ref q_moves_tos])), (q_moves_counts, .inl (cI, n_moves_counts, .inl F_moves_counts)), (q_moves_froms, .inl (cI, n_moves_froms, .inl F_moves_froms)), (q_moves_tos, .inl (cI, n_moves_tos, .inl F_moves_tos)), (q_moveStations, .inl (cI, n_moveStations, .inl F_moveStations)), (q_row, .inl (cI, n_row, .inl F_row))]) (ws1 := [(h0, .inr (3, [.ref q_homes, .ref q_distances, .ref q_duties, .ref q_moves, .ref q_moveStations, .ref q_row, .int v_rowLength, .int v_count, .int v_distanceLimit])), (q_homes, .inl (cI, n_homes, .inl F_homes)), (q_distances, .inl (cI, n_distances, .inl F_distances)), (q_duties, .inr (0, [.int v_duties_most, .ref q_duties_counts, .ref q_duties_froms, .ref q_duties_tos])), (q_duties_counts, .inl (cI, n_duties_counts, .inl F_duties_counts)), (q_duties_froms, .inl (cI, n_duties_froms, .inl F_duties_froms)), (q_duties_tos, .inl (cI, n_duties_tos, .inl F_duties_tos)), (q_moves, .inr (0, [.int v_moves_most, .ref q_moves_counts, .ref q_moves_froms, .ref q_moves_tos])), (q_moves_counts, .inl (cI, n_moves_counts, .inl F_moves_counts)), (q_moves_froms, .inl (cI, n_moves_froms, .inl F_moves_froms)), (q_moves_tos, .inl (cI, n_moves_tos, .inl F_moves_tos)), (q_moveStations, .inl (cI, n_moveStations, .inl F_moveStations)), (q_row, .inl (cI, n_row, .inl F_row))]) (rest := []) (st1 := [.int o4]) ⟨hx, hb, hml, hown, hts⟩ (c_P_isOnDuty l dC dI cI cJ cZ h0 q_homes q_distances q_duties q_moves q_moveStations q_row q_duties_counts q_duties_froms q_duties_tos n_distances n_duties_counts n_duties_froms n_duties_tos v_rowLength v_count v_distanceLimit F_distances v_duties_most F_duties_counts F_duties_froms F_duties_tos y4 x2 n o4 ho4) ⟨(sr_cB 2 hws k_526 k_30 k_523 (by decide +kernel) ⟨Nat.le_of_ble_eq_true rfl, Nat.le_of_ble_eq_true rfl⟩), hws _ k_525, hws _ k_2⟩ hK G hA [0, 2, 3, 4, 5, 6] [1, 7, 8, 9, 10, 11, 12] [7, 0, 8, 9, 10, 11, 12, 1, 2, 3, 4, 5, 6] rfl (by decide) rfl (by decide) (by decide) rfl (by decide) 0 rfl rfl rfl hl.1 rfl (Nat.le_of_ble_eq_true rfl) d_P_gather_25 ⟨Nat.le_of_ble_eq_true rfl, Nat.le_of_ble_eq_true rfl⟩ rfl (fun H locs G => ?_)
    refine lv_if_eq (tgt := 48) hx hb d_P_gather_28 (by decide) (fun c5 => ?_) (fun c5 => ?_)
    · replace hf := (if_pos c5).symm.trans hf
      obtain ⟨z6, ez6⟩ : ∃ y : Int32, y = (y4 + 1) := ⟨_, rfl⟩
      replace hf := sr_nm_u ez6 hf
      refine lv_iinc (v := z6) (lv' := [(4, .int z6), (0, .ref h0), (1, .int x1), (2, .int x2), (3, .int x3)]) hx hb d_P_gather_48 hl (k := 4) rfl ((sr_inc _ (by decide)).trans ez6.symm) (by decide) rfl (fun ls hl => ?_)
      refine lv_goto (tgt := 8) hx hb d_P_gather_51 (by decide) ?_
      exact ih z6 v_rowLength F_row _ _ _ hf G (lv_sub hl [1, 2, 3, 4, 0] rfl)
    replace hf := (if_neg c5).symm.trans hf
    refine lv_aload_n hx hb d_P_gather_31 rfl (lv_at hl 0 rfl) ?_
    refine lv_iload hx hb d_P_gather_32 (lv_at hl 4 rfl) ?_
    refine lv_iload_n hx hb d_P_gather_34 rfl (lv_at hl 2 rfl) ?_
    obtain ⟨o7, ho7, hf⟩ := sr_bd_e hf
    refine sr_callV (ci := 3) (vc := ("StationRows$Persons", zf_P, 9)) (wr := [(q_distances, .inl (cI, n_distances, .inl F_distances)), (q_duties, .inr (0, [.int v_duties_most, .ref q_duties_counts, .ref q_duties_froms, .ref q_duties_tos])), (q_duties_counts, .inl (cI, n_duties_counts, .inl F_duties_counts)), (q_duties_froms, .inl (cI, n_duties_froms, .inl F_duties_froms)), (q_duties_tos, .inl (cI, n_duties_tos, .inl F_duties_tos)), (q_row, .inl (cI, n_row, .inl F_row))]) (ws1 := [(h0, .inr (3, [.ref q_homes, .ref q_distances, .ref q_duties, .ref q_moves, .ref q_moveStations, .ref q_row, .int v_rowLength, .int v_count, .int v_distanceLimit])), (q_homes, .inl (cI, n_homes, .inl F_homes)), (q_distances, .inl (cI, n_distances, .inl F_distances)), (q_duties, .inr (0, [.int v_duties_most, .ref q_duties_counts, .ref q_duties_froms, .ref q_duties_tos])), (q_duties_counts, .inl (cI, n_duties_counts, .inl F_duties_counts)), (q_duties_froms, .inl (cI, n_duties_froms, .inl F_duties_froms)), (q_duties_tos, .inl (cI, n_duties_tos, .inl F_duties_tos)), (q_moves, .inr (0, [.int v_moves_most, .ref q_moves_counts, .ref q_moves_froms, .ref q_moves_tos])), (q_moves_counts, .inl (cI, n_moves_counts, .inl F_moves_counts)), (q_moves_froms, .inl (cI, n_moves_froms, .inl F_moves_froms)), (q_moves_tos, .inl (cI, n_moves_tos, .inl F_moves_tos)), (q_moveStations, .inl (cI, n_moveStations, .inl F_moveStations)), (q_row, .inl (cI, n_row, .inl F_row))]) (rest := []) (st1 := [.int o7]) ⟨hx, hb, hml, hown, hts⟩ (c_P_stationAt l dC dI cI cJ cZ h0 q_homes q_distances q_duties q_moves q_moveStations q_row q_moves_counts q_moves_froms q_moves_tos n_homes n_moves_counts n_moves_froms n_moves_tos n_moveStations v_rowLength v_count v_distanceLimit F_homes v_moves_most F_moves_counts F_moves_froms F_moves_tos F_moveStations y4 x2 n o7 ho7) ⟨(sr_cB 2 hws k_534 k_30 k_531 (by decide +kernel) ⟨Nat.le_of_ble_eq_true rfl, Nat.le_of_ble_eq_true rfl⟩), hws _ k_533, hws _ k_3⟩ hK G hA [0, 1, 7, 8, 9, 10, 11] [2, 3, 4, 5, 6, 12] [6, 7, 0, 1, 2, 3, 4, 8, 9, 10, 11, 12, 5] rfl (by decide) rfl (by decide) (by decide) rfl (by decide) 0 rfl rfl rfl hl.1 rfl (Nat.le_of_ble_eq_true rfl) d_P_gather_35 ⟨Nat.le_of_ble_eq_true rfl, Nat.le_of_ble_eq_true rfl⟩ rfl (fun H locs G => ?_)
    refine lv_iload_n hx hb d_P_gather_38 rfl (lv_at hl 1 rfl) ?_
    refine lv_icmp_ne (tgt := 48) hx hb d_P_gather_39 (by decide) (fun c8 => ?_) (fun c8 => ?_)
    · replace hf := (if_neg c8).symm.trans hf
      obtain ⟨z9, ez9⟩ : ∃ y : Int32, y = (y4 + 1) := ⟨_, rfl⟩
      replace hf := sr_nm_u ez9 hf
      refine lv_iinc (v := z9) (lv' := [(4, .int z9), (0, .ref h0), (1, .int x1), (2, .int x2), (3, .int x3)]) hx hb d_P_gather_48 hl (k := 4) rfl ((sr_inc _ (by decide)).trans ez9.symm) (by decide) rfl (fun ls hl => ?_)
      refine lv_goto (tgt := 8) hx hb d_P_gather_51 (by decide) ?_
      exact ih z9 v_rowLength F_row _ _ _ hf G (lv_sub hl [1, 2, 3, 4, 0] rfl)
    replace hf := (if_pos c8).symm.trans hf
    refine lv_aload_n hx hb d_P_gather_42 rfl (lv_at hl 0 rfl) ?_
    refine lv_iload hx hb d_P_gather_43 (lv_at hl 4 rfl) ?_
    obtain ⟨o10, ho10, hf⟩ := sr_bd_e hf
    refine sr_callV (ci := 3) (vc := ("StationRows$Persons", zf_P, 9)) (wr := [(q_homes, .inl (cI, n_homes, .inl F_homes)), (q_duties, .inr (0, [.int v_duties_most, .ref q_duties_counts, .ref q_duties_froms, .ref q_duties_tos])), (q_duties_counts, .inl (cI, n_duties_counts, .inl F_duties_counts)), (q_duties_froms, .inl (cI, n_duties_froms, .inl F_duties_froms)), (q_duties_tos, .inl (cI, n_duties_tos, .inl F_duties_tos)), (q_moves, .inr (0, [.int v_moves_most, .ref q_moves_counts, .ref q_moves_froms, .ref q_moves_tos])), (q_moves_counts, .inl (cI, n_moves_counts, .inl F_moves_counts)), (q_moves_froms, .inl (cI, n_moves_froms, .inl F_moves_froms)), (q_moves_tos, .inl (cI, n_moves_tos, .inl F_moves_tos)), (q_moveStations, .inl (cI, n_moveStations, .inl F_moveStations))]) (ws1 := [(h0, .inr (3, [.ref q_homes, .ref q_distances, .ref q_duties, .ref q_moves, .ref q_moveStations, .ref q_row, .int o10.1, .int v_count, .int v_distanceLimit])), (q_homes, .inl (cI, n_homes, .inl F_homes)), (q_distances, .inl (cI, n_distances, .inl F_distances)), (q_duties, .inr (0, [.int v_duties_most, .ref q_duties_counts, .ref q_duties_froms, .ref q_duties_tos])), (q_duties_counts, .inl (cI, n_duties_counts, .inl F_duties_counts)), (q_duties_froms, .inl (cI, n_duties_froms, .inl F_duties_froms)), (q_duties_tos, .inl (cI, n_duties_tos, .inl F_duties_tos)), (q_moves, .inr (0, [.int v_moves_most, .ref q_moves_counts, .ref q_moves_froms, .ref q_moves_tos])), (q_moves_counts, .inl (cI, n_moves_counts, .inl F_moves_counts)), (q_moves_froms, .inl (cI, n_moves_froms, .inl F_moves_froms)), (q_moves_tos, .inl (cI, n_moves_tos, .inl F_moves_tos)), (q_moveStations, .inl (cI, n_moveStations, .inl F_moveStations)), (q_row, .inl (cI, n_row, .inl o10.2))]) (rest := []) (st1 := []) ⟨hx, hb, hml, hown, hts⟩ (c_P_insertIntoRow l dC dI cI cJ cZ h0 q_homes q_distances q_duties q_moves q_moveStations q_row n_distances n_row v_rowLength v_count v_distanceLimit F_distances F_row y4 n o10 ho10) ⟨(sr_cB 1 hws k_538 k_30 k_535 (by decide +kernel) ⟨Nat.le_of_ble_eq_true rfl, Nat.le_of_ble_eq_true rfl⟩), hws _ k_537, hws _ k_4⟩ hK G hA [0, 2, 12] [1, 3, 4, 5, 6, 7, 8, 9, 10, 11] [10, 0, 11, 1, 2, 3, 4, 5, 6, 7, 8, 9, 12] rfl (by decide) rfl (by decide) (by decide) rfl (by decide) 0 rfl rfl rfl hl.1 rfl (Nat.le_of_ble_eq_true rfl) d_P_gather_45 ⟨Nat.le_of_ble_eq_true rfl, Nat.le_of_ble_eq_true rfl⟩ rfl (fun H locs G => ?_)
    obtain ⟨z11, ez11⟩ : ∃ y : Int32, y = (y4 + 1) := ⟨_, rfl⟩
    replace hf := sr_nm_u ez11 hf
    refine lv_iinc (v := z11) (lv' := [(4, .int z11), (0, .ref h0), (1, .int x1), (2, .int x2), (3, .int x3)]) hx hb d_P_gather_48 hl (k := 4) rfl ((sr_inc _ (by decide)).trans ez11.symm) (by decide) rfl (fun ls hl => ?_)
    refine lv_goto (tgt := 8) hx hb d_P_gather_51 (by decide) ?_
    exact ih z11 o10.1 o10.2 _ _ _ hf G (lv_sub hl [1, 2, 3, 4, 0] rfl)
def f_P_gather (n : Nat) (n_homes n_distances n_duties_counts n_duties_froms n_duties_tos n_moves_counts n_moves_froms n_moves_tos n_moveStations n_row : Nat) (v_rowLength : Int32) (v_count : Int32) (v_distanceLimit : Int32) (F_homes : Nat → Int32) (F_distances : Nat → Int32) (v_duties_most : Int32) (F_duties_counts : Nat → Int32) (F_duties_froms : Nat → Int32) (F_duties_tos : Nat → Int32) (v_moves_most : Int32) (F_moves_counts : Nat → Int32) (F_moves_froms : Nat → Int32) (F_moves_tos : Nat → Int32) (F_moveStations : Nat → Int32) (F_row : Nat → Int32) (x1 x2 x3 : Int32) : Option (Int32 × Int32 × (Nat → Int32)) :=
    (f_P_gather_8 n n_homes n_distances n_duties_counts n_duties_froms n_duties_tos n_moves_counts n_moves_froms n_moves_tos n_moveStations n_row v_count v_distanceLimit F_homes F_distances v_duties_most F_duties_counts F_duties_froms F_duties_tos v_moves_most F_moves_counts F_moves_froms F_moves_tos F_moveStations x1 x2 x3  n 0 0 F_row)
set_option maxHeartbeats 4000000 in
set_option maxRecDepth 100000 in
theorem c_P_gather (l : Launch) (dC : Nat → ClassId) (dI : Nat → Nat → Nat) (cI cJ cZ : ClassId) (h0 q_homes q_distances q_duties q_moves q_moveStations q_row q_duties_counts q_duties_froms q_duties_tos q_moves_counts q_moves_froms q_moves_tos : Nat) (n_homes n_distances n_duties_counts n_duties_froms n_duties_tos n_moves_counts n_moves_froms n_moves_tos n_moveStations n_row : Nat) (v_rowLength : Int32) (v_count : Int32) (v_distanceLimit : Int32) (F_homes : Nat → Int32) (F_distances : Nat → Int32) (v_duties_most : Int32) (F_duties_counts : Nat → Int32) (F_duties_froms : Nat → Int32) (F_duties_tos : Nat → Int32) (v_moves_most : Int32) (F_moves_counts : Nat → Int32) (F_moves_froms : Nat → Int32) (F_moves_tos : Nat → Int32) (F_moveStations : Nat → Int32) (F_row : Nat → Int32) (x1 x2 x3 : Int32) (n : Nat) (o : Int32 × Int32 × (Nat → Int32)) (hf : f_P_gather n n_homes n_distances n_duties_counts n_duties_froms n_duties_tos n_moves_counts n_moves_froms n_moves_tos n_moveStations n_row v_rowLength v_count v_distanceLimit F_homes F_distances v_duties_most F_duties_counts F_duties_froms F_duties_tos v_moves_most F_moves_counts F_moves_froms F_moves_tos F_moveStations F_row x1 x2 x3 = some o) : sr_Ct l y_P_gather (sr_W y_P_gather b_P_gather 5 (some .int)) rm_P_gather (dC, dI) (sr_ty cI cJ cZ) [.ref h0, .int x1, .int x2, .int x3] [(h0, .inr (3, [.ref q_homes, .ref q_distances, .ref q_duties, .ref q_moves, .ref q_moveStations, .ref q_row, .int v_rowLength, .int v_count, .int v_distanceLimit])), (q_homes, .inl (cI, n_homes, .inl F_homes)), (q_distances, .inl (cI, n_distances, .inl F_distances)), (q_duties, .inr (0, [.int v_duties_most, .ref q_duties_counts, .ref q_duties_froms, .ref q_duties_tos])), (q_duties_counts, .inl (cI, n_duties_counts, .inl F_duties_counts)), (q_duties_froms, .inl (cI, n_duties_froms, .inl F_duties_froms)), (q_duties_tos, .inl (cI, n_duties_tos, .inl F_duties_tos)), (q_moves, .inr (0, [.int v_moves_most, .ref q_moves_counts, .ref q_moves_froms, .ref q_moves_tos])), (q_moves_counts, .inl (cI, n_moves_counts, .inl F_moves_counts)), (q_moves_froms, .inl (cI, n_moves_froms, .inl F_moves_froms)), (q_moves_tos, .inl (cI, n_moves_tos, .inl F_moves_tos)), (q_moveStations, .inl (cI, n_moveStations, .inl F_moveStations)), (q_row, .inl (cI, n_row, .inl F_row))] (some (.int o.1)) [(h0, .inr (3, [.ref q_homes, .ref q_distances, .ref q_duties, .ref q_moves, .ref q_moveStations, .ref q_row, .int o.2.1, .int v_count, .int v_distanceLimit])), (q_homes, .inl (cI, n_homes, .inl F_homes)), (q_distances, .inl (cI, n_distances, .inl F_distances)), (q_duties, .inr (0, [.int v_duties_most, .ref q_duties_counts, .ref q_duties_froms, .ref q_duties_tos])), (q_duties_counts, .inl (cI, n_duties_counts, .inl F_duties_counts)), (q_duties_froms, .inl (cI, n_duties_froms, .inl F_duties_froms)), (q_duties_tos, .inl (cI, n_duties_tos, .inl F_duties_tos)), (q_moves, .inr (0, [.int v_moves_most, .ref q_moves_counts, .ref q_moves_froms, .ref q_moves_tos])), (q_moves_counts, .inl (cI, n_moves_counts, .inl F_moves_counts)), (q_moves_froms, .inl (cI, n_moves_froms, .inl F_moves_froms)), (q_moves_tos, .inl (cI, n_moves_tos, .inl F_moves_tos)), (q_moveStations, .inl (cI, n_moveStations, .inl F_moveStations)), (q_row, .inl (cI, n_row, .inl o.2.2))] := by
  refine sr_Ct.of (cc := b_P_gather) (maxL := 5) (ret := (some .int)) (by decide) rfl (Nat.le_of_ble_eq_true rfl) ?_
  intro p e s m below meth c A ls C0 hA hK G hl
  obtain ⟨hx, hb, hml, hr, hown, hts, hlocks, hnm⟩ := id C0
  generalize hargs : ([.ref h0, .int x1, .int x2, .int x3] : List Value).toArray = args at C0 hts ⊢
  have hws := sr_hws hts
  replace hl : lv_has ls 5 [(0, .ref h0), (1, .int x1), (2, .int x2), (3, .int x3)] := hl
  replace hf : (f_P_gather_8 n n_homes n_distances n_duties_counts n_duties_froms n_duties_tos n_moves_counts n_moves_froms n_moves_tos n_moveStations n_row v_count v_distanceLimit F_homes F_distances v_duties_most F_duties_counts F_duties_froms F_duties_tos v_moves_most F_moves_counts F_moves_froms F_moves_tos F_moveStations x1 x2 x3  n 0 0 F_row) = some o := hf
  refine lv_aload_n hx hb d_P_gather_0 rfl (lv_at hl 0 rfl) ?_
  refine lv_iconst (v := 0) hx hb d_P_gather_1 (by decide) ?_
  refine va_put (D := (dC, dI)) (ci := 3) (v := .int 0) (ty := .int) (C := "StationRows$Persons") (T := zf_P) (N := 9) hx hb hws zi_P zt_P zt_P_ok zn_P hown hK G.1 G.2.1 G.2.2 0 rfl rfl 6 (by decide) (hws _ k_134) (fun _ h9 => h9) rfl (by decide +kernel) rfl rfl (Nat.le_of_ble_eq_true rfl) d_P_gather_2 (fun H locs hP hD hS => ?_)
  have G : sr_G (dC, dI) A [(h0, .inr (3, [.ref q_homes, .ref q_distances, .ref q_duties, .ref q_moves, .ref q_moveStations, .ref q_row, .int 0, .int v_count, .int v_distanceLimit])), (q_homes, .inl (cI, n_homes, .inl F_homes)), (q_distances, .inl (cI, n_distances, .inl F_distances)), (q_duties, .inr (0, [.int v_duties_most, .ref q_duties_counts, .ref q_duties_froms, .ref q_duties_tos])), (q_duties_counts, .inl (cI, n_duties_counts, .inl F_duties_counts)), (q_duties_froms, .inl (cI, n_duties_froms, .inl F_duties_froms)), (q_duties_tos, .inl (cI, n_duties_tos, .inl F_duties_tos)), (q_moves, .inr (0, [.int v_moves_most, .ref q_moves_counts, .ref q_moves_froms, .ref q_moves_tos])), (q_moves_counts, .inl (cI, n_moves_counts, .inl F_moves_counts)), (q_moves_froms, .inl (cI, n_moves_froms, .inl F_moves_froms)), (q_moves_tos, .inl (cI, n_moves_tos, .inl F_moves_tos)), (q_moveStations, .inl (cI, n_moveStations, .inl F_moveStations)), (q_row, .inl (cI, n_row, .inl F_row))] s H locs := ⟨hP, hD, hS⟩
  refine lv_iconst (v := 0) hx hb d_P_gather_5 (by decide) ?_
  refine lv_istore (lv' := [(4, .int 0), (0, .ref h0), (1, .int x1), (2, .int x2), (3, .int x3)]) hx hb d_P_gather_6 hl (by decide) rfl (fun ls hl => ?_)
  exact w_P_gather_8 l dC dI cI cJ cZ h0 q_homes q_distances q_duties q_moves q_moveStations q_row q_duties_counts q_duties_froms q_duties_tos q_moves_counts q_moves_froms q_moves_tos n_homes n_distances n_duties_counts n_duties_froms n_duties_tos n_moves_counts n_moves_froms n_moves_tos n_moveStations n_row v_count v_distanceLimit F_homes F_distances v_duties_most F_duties_counts F_duties_froms F_duties_tos v_moves_most F_moves_counts F_moves_froms F_moves_tos F_moveStations x1 x2 x3 n A args o C0 hK hA   n 0 0 F_row _ _ _ hf G (lv_sub hl [1, 2, 3, 4, 0] rfl)
/-! StationRows$Persons.inRow(I)I -/
abbrev rm_P_inRow : Room := { frames := 0, cells := 0, slots := 0, locals := 0 }
def f_P_inRow (n_row : Nat) (F_row : Nat → Int32) (x1 : Int32) : Option (Int32) :=
    (sr_bk x1 n_row
    (some (F_row x1.toNatClampNeg)))
set_option maxHeartbeats 4000000 in
set_option maxRecDepth 100000 in
theorem c_P_inRow (l : Launch) (dC : Nat → ClassId) (dI : Nat → Nat → Nat) (cI cJ cZ : ClassId) (h0 q_homes q_distances q_duties q_moves q_moveStations q_row : Nat) (n_row : Nat) (v_rowLength : Int32) (v_count : Int32) (v_distanceLimit : Int32) (F_row : Nat → Int32) (x1 : Int32)  (o : Int32) (hf : f_P_inRow n_row F_row x1 = some o) : sr_Ct l y_P_inRow (sr_W y_P_inRow b_P_inRow 2 (some .int)) rm_P_inRow (dC, dI) (sr_ty cI cJ cZ) [.ref h0, .int x1] [(h0, .inr (3, [.ref q_homes, .ref q_distances, .ref q_duties, .ref q_moves, .ref q_moveStations, .ref q_row, .int v_rowLength, .int v_count, .int v_distanceLimit])), (q_row, .inl (cI, n_row, .inl F_row))] (some (.int o)) [(h0, .inr (3, [.ref q_homes, .ref q_distances, .ref q_duties, .ref q_moves, .ref q_moveStations, .ref q_row, .int v_rowLength, .int v_count, .int v_distanceLimit])), (q_row, .inl (cI, n_row, .inl F_row))] := by
  refine sr_Ct.of (cc := b_P_inRow) (maxL := 2) (ret := (some .int)) (by decide) rfl (Nat.le_of_ble_eq_true rfl) ?_
  intro p e s m below meth c A ls C0 hA hK G hl
  obtain ⟨hx, hb, hml, hr, hown, hts, hlocks, hnm⟩ := id C0
  generalize hargs : ([.ref h0, .int x1] : List Value).toArray = args at C0 hts ⊢
  have hws := sr_hws hts
  replace hl : lv_has ls 2 [(0, .ref h0), (1, .int x1)] := hl
  replace hf : (sr_bk x1 n_row
    (some (F_row x1.toNatClampNeg))) = some o := hf
  refine lv_aload_n hx hb d_P_inRow_0 rfl (lv_at hl 0 rfl) ?_
  refine va_get (D := (dC, dI)) (ci := 3) (v := .ref q_row) (C := "StationRows$Persons") (T := zf_P) (N := 9) hx hb hws zi_P hown hK G.1 0 rfl rfl 5 (by decide) (hws _ k_133) (fun _ h9 => h9) rfl d_P_inRow_1 ?_
  refine lv_iload_n hx hb d_P_inRow_4 rfl (lv_at hl 1 rfl) ?_
  obtain ⟨hi1, hf⟩ := sr_bk_e hf
  refine va_iald hx hb hK G.1 1 0 rfl rfl hi1 d_P_inRow_5 ?_
  cases hf
  exact sr_iret hx hb hr hlocks hK G d_P_inRow_6
/-! StationRows$Persons.delayInRow(II)I -/
abbrev rm_P_delayInRow : Room := { frames := 0, cells := 0, slots := 0, locals := 0 }
def f_P_delayInRow (n_distances n_row : Nat) (F_distances : Nat → Int32) (F_row : Nat → Int32) (x1 x2 : Int32) : Option (Int32) :=
    (if x2 = 0 then
    (some 0)
    else
    (sr_bk ((x1 + x2) - 1) n_row
    (sr_bk (F_row (((x1 + x2) - 1)).toNatClampNeg) n_distances
    (some (F_distances ((F_row (((x1 + x2) - 1)).toNatClampNeg)).toNatClampNeg)))))
set_option maxHeartbeats 4000000 in
set_option maxRecDepth 100000 in
theorem c_P_delayInRow (l : Launch) (dC : Nat → ClassId) (dI : Nat → Nat → Nat) (cI cJ cZ : ClassId) (h0 q_homes q_distances q_duties q_moves q_moveStations q_row : Nat) (n_distances n_row : Nat) (v_rowLength : Int32) (v_count : Int32) (v_distanceLimit : Int32) (F_distances : Nat → Int32) (F_row : Nat → Int32) (x1 x2 : Int32)  (o : Int32) (hf : f_P_delayInRow n_distances n_row F_distances F_row x1 x2 = some o) : sr_Ct l y_P_delayInRow (sr_W y_P_delayInRow b_P_delayInRow 3 (some .int)) rm_P_delayInRow (dC, dI) (sr_ty cI cJ cZ) [.ref h0, .int x1, .int x2] [(h0, .inr (3, [.ref q_homes, .ref q_distances, .ref q_duties, .ref q_moves, .ref q_moveStations, .ref q_row, .int v_rowLength, .int v_count, .int v_distanceLimit])), (q_distances, .inl (cI, n_distances, .inl F_distances)), (q_row, .inl (cI, n_row, .inl F_row))] (some (.int o)) [(h0, .inr (3, [.ref q_homes, .ref q_distances, .ref q_duties, .ref q_moves, .ref q_moveStations, .ref q_row, .int v_rowLength, .int v_count, .int v_distanceLimit])), (q_distances, .inl (cI, n_distances, .inl F_distances)), (q_row, .inl (cI, n_row, .inl F_row))] := by
  refine sr_Ct.of (cc := b_P_delayInRow) (maxL := 3) (ret := (some .int)) (by decide) rfl (Nat.le_of_ble_eq_true rfl) ?_
  intro p e s m below meth c A ls C0 hA hK G hl
  obtain ⟨hx, hb, hml, hr, hown, hts, hlocks, hnm⟩ := id C0
  generalize hargs : ([.ref h0, .int x1, .int x2] : List Value).toArray = args at C0 hts ⊢
  have hws := sr_hws hts
  replace hl : lv_has ls 3 [(0, .ref h0), (1, .int x1), (2, .int x2)] := hl
  replace hf : (if x2 = 0 then
    (some 0)
    else
    (sr_bk ((x1 + x2) - 1) n_row
    (sr_bk (F_row (((x1 + x2) - 1)).toNatClampNeg) n_distances
    (some (F_distances ((F_row (((x1 + x2) - 1)).toNatClampNeg)).toNatClampNeg))))) = some o := hf
  refine lv_iload_n hx hb d_P_delayInRow_0 rfl (lv_at hl 2 rfl) ?_
  refine lv_if_ne (tgt := 8) hx hb d_P_delayInRow_1 (by decide) (fun c1 => ?_) (fun c1 => ?_)
  · replace hf := (if_neg c1).symm.trans hf
    refine lv_aload_n hx hb d_P_delayInRow_8 rfl (lv_at hl 0 rfl) ?_
    refine va_get (D := (dC, dI)) (ci := 3) (v := .ref q_distances) (C := "StationRows$Persons") (T := zf_P) (N := 9) hx hb hws zi_P hown hK G.1 0 rfl rfl 1 (by decide) (hws _ k_129) (fun _ h9 => h9) rfl d_P_delayInRow_9 ?_
    refine lv_aload_n hx hb d_P_delayInRow_12 rfl (lv_at hl 0 rfl) ?_
    refine va_get (D := (dC, dI)) (ci := 3) (v := .ref q_row) (C := "StationRows$Persons") (T := zf_P) (N := 9) hx hb hws zi_P hown hK G.1 0 rfl rfl 5 (by decide) (hws _ k_133) (fun _ h9 => h9) rfl d_P_delayInRow_13 ?_
    refine lv_iload_n hx hb d_P_delayInRow_16 rfl (lv_at hl 1 rfl) ?_
    refine lv_iload_n hx hb d_P_delayInRow_17 rfl (lv_at hl 2 rfl) ?_
    refine lv_iadd hx hb d_P_delayInRow_18 ?_
    refine lv_iconst (v := 1) hx hb d_P_delayInRow_19 (by decide) ?_
    refine lv_isub hx hb d_P_delayInRow_20 ?_
    obtain ⟨hi2, hf⟩ := sr_bk_e hf
    refine va_iald hx hb hK G.1 2 0 rfl rfl hi2 d_P_delayInRow_21 ?_
    obtain ⟨hi3, hf⟩ := sr_bk_e hf
    refine va_iald hx hb hK G.1 1 0 rfl rfl hi3 d_P_delayInRow_22 ?_
    cases hf
    exact sr_iret hx hb hr hlocks hK G d_P_delayInRow_23
  replace hf := (if_pos c1).symm.trans hf
  refine lv_iconst (v := 0) hx hb d_P_delayInRow_4 (by decide) ?_
  refine lv_goto (tgt := 23) hx hb d_P_delayInRow_5 (by decide) ?_
  cases hf
  exact sr_iret hx hb hr hlocks hK G d_P_delayInRow_23
/-! StationRows$Persons.lowestInRow(II)I -/
abbrev rm_P_lowestInRow : Room := { frames := 1, cells := 0, slots := 0, locals := 21 }
def f_P_lowestInRow_18 (n : Nat) (n_row : Nat) (F_row : Nat → Int32) (x1 x2 : Int32)  : Nat → Int32 → Int32 → Option (Int32)
  | 0, _, _ => none
  | k + 1, y3, y4 =>
    (if (x1 + x2) ≤ y4 then
    (some y3)
    else
    (sr_bk y4 n_row
    (sr_nm (if (F_row y4.toNatClampNeg) < y3 then (F_row y4.toNatClampNeg) else y3) fun z3 =>
    (sr_nm (y4 + 1) fun z4 =>
    (f_P_lowestInRow_18 n n_row F_row x1 x2  k z3 z4)))))
theorem f_P_lowestInRow_18_eq (n : Nat) (n_row : Nat) (F_row : Nat → Int32) (x1 x2 : Int32)  (k : Nat) (y3 y4 : Int32) : f_P_lowestInRow_18 n n_row F_row x1 x2  (k + 1) y3 y4 =
    (if (x1 + x2) ≤ y4 then
    (some y3)
    else
    (sr_bk y4 n_row
    (sr_nm (if (F_row y4.toNatClampNeg) < y3 then (F_row y4.toNatClampNeg) else y3) fun z3 =>
    (sr_nm (y4 + 1) fun z4 =>
    (f_P_lowestInRow_18 n n_row F_row x1 x2  k z3 z4))))) := rfl
set_option maxHeartbeats 4000000 in
set_option maxRecDepth 100000 in
theorem w_P_lowestInRow_18 (l : Launch) {p : Program} {e : Env} {s : State} {m : MethodId} {below : List Frame} {meth : Method} {c : Code} (dC : Nat → ClassId) (dI : Nat → Nat → Nat) (cI cJ cZ : ClassId) (h0 q_homes q_distances q_duties q_moves q_moveStations q_row : Nat) (n_row : Nat) (v_rowLength : Int32) (v_count : Int32) (v_distanceLimit : Int32) (F_row : Nat → Int32) (x1 x2 : Int32) (n : Nat) (A : Nat → Prop) (args : Array Value) (o : Int32) (C0 : sr_cx p s m args meth c b_P_lowestInRow 5 (some .int) "StationRows$Persons" "lowestInRow" (sr_W y_P_lowestInRow b_P_lowestInRow 5 (some .int))) (hK : va_K (dC, dI) vwCl (sr_ty cI cJ cZ) s) (hA : ∀ q, s.heap.size ≤ q → A q)   :
    ∀ (k : Nat) (y3 y4 : Int32) (H : Heap) (locs : List Loc) (ls : Array Slot), f_P_lowestInRow_18 n n_row F_row x1 x2  k y3 y4 = some o → sr_G (dC, dI) A [(h0, .inr (3, [.ref q_homes, .ref q_distances, .ref q_duties, .ref q_moves, .ref q_moveStations, .ref q_row, .int v_rowLength, .int v_count, .int v_distanceLimit])), (q_row, .inl (cI, n_row, .inl F_row))] s H locs → lv_has ls 5 [(0, .ref h0), (1, .int x1), (2, .int x2), (3, .int y3), (4, .int y4)] → W p l e rm_P_lowestInRow s m args below meth c H locs 0 0 (MQ below (sr_Q (dC, dI) (sr_ty cI cJ cZ) A [(h0, .inr (3, [.ref q_homes, .ref q_distances, .ref q_duties, .ref q_moves, .ref q_moveStations, .ref q_row, .int v_rowLength, .int v_count, .int v_distanceLimit])), (q_row, .inl (cI, n_row, .inl F_row))] (.inl (some (.int o))) s.heap.size) args s rm_P_lowestInRow.cells rm_P_lowestInRow.slots A) (F0 m 18 ls []) := by
  obtain ⟨hx, hb, hml, hr, hown, hts, hlocks, hnm⟩ := id C0
  have hws := sr_hws hts
  intro k
  induction k with
  | zero =>
    intro y3 y4 H locs ls hf
    exact sr_no hf
  | succ k ih =>
    intro y3 y4 H locs ls hf G hl
    replace hf := (f_P_lowestInRow_18_eq n n_row F_row x1 x2  k y3 y4).symm.trans hf
    refine lv_iload hx hb d_P_lowestInRow_18 (lv_at hl 4 rfl) ?_
    refine lv_iload_n hx hb d_P_lowestInRow_20 rfl (lv_at hl 1 rfl) ?_
    refine lv_iload_n hx hb d_P_lowestInRow_21 rfl (lv_at hl 2 rfl) ?_
    refine lv_iadd hx hb d_P_lowestInRow_22 ?_
    refine lv_icmp_ge (tgt := 44) hx hb d_P_lowestInRow_23 (by decide) (fun c1 => ?_) (fun c1 => ?_)
    · replace hf := (if_pos c1).symm.trans hf
      refine lv_iload_n hx hb d_P_lowestInRow_44 rfl (lv_at hl 3 rfl) ?_
      cases hf
      exact sr_iret hx hb hr hlocks hK G d_P_lowestInRow_45
    replace hf := (if_neg c1).symm.trans hf
    refine lv_iload_n hx hb d_P_lowestInRow_26 rfl (lv_at hl 3 rfl) ?_
    refine lv_aload_n hx hb d_P_lowestInRow_27 rfl (lv_at hl 0 rfl) ?_
    refine va_get (D := (dC, dI)) (ci := 3) (v := .ref q_row) (C := "StationRows$Persons") (T := zf_P) (N := 9) hx hb hws zi_P hown hK G.1 0 rfl rfl 5 (by decide) (hws _ k_133) (fun _ h9 => h9) rfl d_P_lowestInRow_28 ?_
    refine lv_iload hx hb d_P_lowestInRow_31 (lv_at hl 4 rfl) ?_
    obtain ⟨hi2, hf⟩ := sr_bk_e hf
    refine va_iald hx hb hK G.1 1 0 rfl rfl hi2 d_P_lowestInRow_33 ?_
    refine va_mmin hx hb (hml.trans hl.1.symm) hown (hws _ k_620) (hws _ k_621) (hws _ k_43) (hws _ k_622) (Nat.le_of_ble_eq_true rfl) (Nat.le_of_ble_eq_true rfl) (Nat.le_of_ble_eq_true rfl) (Nat.le_of_ble_eq_true rfl) d_P_lowestInRow_34 ?_
    refine lv_topi (fun z3 ez3 => ?_)
    replace hf := sr_nm_u ez3 hf
    refine lv_istore_n (lv' := [(3, .int z3), (0, .ref h0), (1, .int x1), (2, .int x2), (4, .int y4)]) hx hb d_P_lowestInRow_37 rfl hl (by decide) rfl (fun ls hl => ?_)
    obtain ⟨z4, ez4⟩ : ∃ y : Int32, y = (y4 + 1) := ⟨_, rfl⟩
    replace hf := sr_nm_u ez4 hf
    refine lv_iinc (v := z4) (lv' := [(4, .int z4), (3, .int z3), (0, .ref h0), (1, .int x1), (2, .int x2)]) hx hb d_P_lowestInRow_38 hl (k := 4) rfl ((sr_inc _ (by decide)).trans ez4.symm) (by decide) rfl (fun ls hl => ?_)
    refine lv_goto (tgt := 18) hx hb d_P_lowestInRow_41 (by decide) ?_
    exact ih z3 z4 _ _ _ hf G (lv_sub hl [2, 3, 4, 1, 0] rfl)
def f_P_lowestInRow (n : Nat) (n_row : Nat) (F_row : Nat → Int32) (x1 x2 : Int32) : Option (Int32) :=
    (if x2 = 0 then
    (some (-1))
    else
    (sr_bk x1 n_row
    (sr_nm (F_row x1.toNatClampNeg) fun z3 =>
    (sr_nm (x1 + 1) fun z4 =>
    (f_P_lowestInRow_18 n n_row F_row x1 x2  n z3 z4)))))
set_option maxHeartbeats 4000000 in
set_option maxRecDepth 100000 in
theorem c_P_lowestInRow (l : Launch) (dC : Nat → ClassId) (dI : Nat → Nat → Nat) (cI cJ cZ : ClassId) (h0 q_homes q_distances q_duties q_moves q_moveStations q_row : Nat) (n_row : Nat) (v_rowLength : Int32) (v_count : Int32) (v_distanceLimit : Int32) (F_row : Nat → Int32) (x1 x2 : Int32) (n : Nat) (o : Int32) (hf : f_P_lowestInRow n n_row F_row x1 x2 = some o) : sr_Ct l y_P_lowestInRow (sr_W y_P_lowestInRow b_P_lowestInRow 5 (some .int)) rm_P_lowestInRow (dC, dI) (sr_ty cI cJ cZ) [.ref h0, .int x1, .int x2] [(h0, .inr (3, [.ref q_homes, .ref q_distances, .ref q_duties, .ref q_moves, .ref q_moveStations, .ref q_row, .int v_rowLength, .int v_count, .int v_distanceLimit])), (q_row, .inl (cI, n_row, .inl F_row))] (some (.int o)) [(h0, .inr (3, [.ref q_homes, .ref q_distances, .ref q_duties, .ref q_moves, .ref q_moveStations, .ref q_row, .int v_rowLength, .int v_count, .int v_distanceLimit])), (q_row, .inl (cI, n_row, .inl F_row))] := by
  refine sr_Ct.of (cc := b_P_lowestInRow) (maxL := 5) (ret := (some .int)) (by decide) rfl (Nat.le_of_ble_eq_true rfl) ?_
  intro p e s m below meth c A ls C0 hA hK G hl
  obtain ⟨hx, hb, hml, hr, hown, hts, hlocks, hnm⟩ := id C0
  generalize hargs : ([.ref h0, .int x1, .int x2] : List Value).toArray = args at C0 hts ⊢
  have hws := sr_hws hts
  replace hl : lv_has ls 5 [(0, .ref h0), (1, .int x1), (2, .int x2)] := hl
  replace hf : (if x2 = 0 then
    (some (-1))
    else
    (sr_bk x1 n_row
    (sr_nm (F_row x1.toNatClampNeg) fun z3 =>
    (sr_nm (x1 + 1) fun z4 =>
    (f_P_lowestInRow_18 n n_row F_row x1 x2  n z3 z4))))) = some o := hf
  refine lv_iload_n hx hb d_P_lowestInRow_0 rfl (lv_at hl 2 rfl) ?_
  refine lv_if_ne (tgt := 6) hx hb d_P_lowestInRow_1 (by decide) (fun c1 => ?_) (fun c1 => ?_)
  · replace hf := (if_neg c1).symm.trans hf
    refine lv_aload_n hx hb d_P_lowestInRow_6 rfl (lv_at hl 0 rfl) ?_
    refine va_get (D := (dC, dI)) (ci := 3) (v := .ref q_row) (C := "StationRows$Persons") (T := zf_P) (N := 9) hx hb hws zi_P hown hK G.1 0 rfl rfl 5 (by decide) (hws _ k_133) (fun _ h9 => h9) rfl d_P_lowestInRow_7 ?_
    refine lv_iload_n hx hb d_P_lowestInRow_10 rfl (lv_at hl 1 rfl) ?_
    obtain ⟨hi2, hf⟩ := sr_bk_e hf
    refine va_iald hx hb hK G.1 1 0 rfl rfl hi2 d_P_lowestInRow_11 ?_
    refine lv_topi (fun z3 ez3 => ?_)
    replace hf := sr_nm_u ez3 hf
    refine lv_istore_n (lv' := [(3, .int z3), (0, .ref h0), (1, .int x1), (2, .int x2)]) hx hb d_P_lowestInRow_12 rfl hl (by decide) rfl (fun ls hl => ?_)
    refine lv_iload_n hx hb d_P_lowestInRow_13 rfl (lv_at hl 2 rfl) ?_
    refine lv_iconst (v := 1) hx hb d_P_lowestInRow_14 (by decide) ?_
    refine lv_iadd hx hb d_P_lowestInRow_15 ?_
    refine lv_topi (fun z4 ez4 => ?_)
    replace hf := sr_nm_u ez4 hf
    refine lv_istore (lv' := [(4, .int z4), (3, .int z3), (0, .ref h0), (1, .int x1), (2, .int x2)]) hx hb d_P_lowestInRow_16 hl (by decide) rfl (fun ls hl => ?_)
    exact w_P_lowestInRow_18 l dC dI cI cJ cZ h0 q_homes q_distances q_duties q_moves q_moveStations q_row n_row v_rowLength v_count v_distanceLimit F_row x1 x2 n A args o C0 hK hA   n z3 z4 _ _ _ hf G (lv_sub hl [2, 3, 4, 1, 0] rfl)
  replace hf := (if_pos c1).symm.trans hf
  refine lv_iconst (v := (-1)) hx hb d_P_lowestInRow_4 (by decide) ?_
  cases hf
  exact sr_iret hx hb hr hlocks hK G d_P_lowestInRow_5