/-! StationRowsLaw.station(LStationRows;I[J)I -/
abbrev rm_L_station : Room := { frames := 8, cells := 1, slots := 6, locals := 125 }
def f_L_station (n_p0_stations_doors n_p0_stations_froms n_p0_stations_tos n_p2 : Nat) (v_p0_stations_count : Int32) (F_p0_stations_doors : Nat → Int32) (F_p0_stations_froms : Nat → Int32) (F_p0_stations_tos : Nat → Int32) (F_p2 : Nat → Int64) (x1 : Int32) : Option (Int32 × Int32 × (Nat → Int32) × (Nat → Int32) × (Nat → Int32) × (Nat → Int64)) :=
    (sr_bd (f_S_station n_p0_stations_doors n_p0_stations_froms n_p0_stations_tos v_p0_stations_count F_p0_stations_doors F_p0_stations_froms F_p0_stations_tos x1) fun o1 =>
    (if o1.1 = 0 then
    (sr_bk 0 n_p2
    (some (0, o1.2.2.1, o1.2.2.2.1, o1.2.2.2.2.1, o1.2.2.2.2.2, (vp_updL F_p2 (0 : Int32).toNatClampNeg ((o1.2.1 : Int32).toInt64)))))
    else
    (if o1.1 = 2 then
    (some (1, o1.2.2.1, o1.2.2.2.1, o1.2.2.2.2.1, o1.2.2.2.2.2, F_p2))
    else
    (if o1.1 = 4 then
    (some (2, o1.2.2.1, o1.2.2.2.1, o1.2.2.2.2.1, o1.2.2.2.2.2, F_p2))
    else
    none))))
set_option maxHeartbeats 4000000 in
set_option maxRecDepth 100000 in
theorem c_L_station (l : Launch) (hfl : l.flags = flags0) (dC : Nat → ClassId) (dI : Nat → Nat → Nat) (cI cJ cZ : ClassId) (r_p0 r_p2 q_p0_stations q_p0_vehicles q_p0_persons q_p0_needs q_p0_checks q_p0_keys q_p0_stations_doors q_p0_stations_froms q_p0_stations_tos : Nat) (n_p0_stations_doors n_p0_stations_froms n_p0_stations_tos n_p2 : Nat) (v_p0_stations_count : Int32) (F_p0_stations_doors : Nat → Int32) (F_p0_stations_froms : Nat → Int32) (F_p0_stations_tos : Nat → Int32) (F_p2 : Nat → Int64) (x1 : Int32)  (o : Int32 × Int32 × (Nat → Int32) × (Nat → Int32) × (Nat → Int32) × (Nat → Int64)) (hf : f_L_station n_p0_stations_doors n_p0_stations_froms n_p0_stations_tos n_p2 v_p0_stations_count F_p0_stations_doors F_p0_stations_froms F_p0_stations_tos F_p2 x1 = some o) : sr_Wt l y_L_station (sr_WH y_L_station b_L_station 4 (some .int) hs_L_station) rm_L_station (dC, dI) (sr_ty cI cJ cZ) [.ref r_p0, .int x1, .ref r_p2] [(r_p0, .inr (7, [.ref q_p0_stations, .ref q_p0_vehicles, .ref q_p0_persons, .ref q_p0_needs, .ref q_p0_checks, .ref q_p0_keys])), (q_p0_stations, .inr (1, [.ref q_p0_stations_doors, .ref q_p0_stations_froms, .ref q_p0_stations_tos, .int v_p0_stations_count])), (q_p0_stations_doors, .inl (cI, n_p0_stations_doors, .inl F_p0_stations_doors)), (q_p0_stations_froms, .inl (cI, n_p0_stations_froms, .inl F_p0_stations_froms)), (q_p0_stations_tos, .inl (cI, n_p0_stations_tos, .inl F_p0_stations_tos)), (r_p2, .inl (cJ, n_p2, .inr (.inl F_p2)))] (some (.int o.1)) [(r_p0, .inr (7, [.ref q_p0_stations, .ref q_p0_vehicles, .ref q_p0_persons, .ref q_p0_needs, .ref q_p0_checks, .ref q_p0_keys])), (q_p0_stations, .inr (1, [.ref q_p0_stations_doors, .ref q_p0_stations_froms, .ref q_p0_stations_tos, .int o.2.1])), (q_p0_stations_doors, .inl (cI, n_p0_stations_doors, .inl o.2.2.1)), (q_p0_stations_froms, .inl (cI, n_p0_stations_froms, .inl o.2.2.2.1)), (q_p0_stations_tos, .inl (cI, n_p0_stations_tos, .inl o.2.2.2.2.1)), (r_p2, .inl (cJ, n_p2, .inr (.inl o.2.2.2.2.2)))] := by
  refine sr_Wt.of (cc := b_L_station) (maxL := 4) (ret := (some .int)) (hs := hs_L_station) (by decide) rfl (Nat.le_of_ble_eq_true rfl) ?_
  intro p e s m below meth c A ls C0 hes hA hK hz G hl
  obtain ⟨hx, hb, hml, hr, hown, hts, hlocks, hnm⟩ := id C0
  generalize hargs : ([.ref r_p0, .int x1, .ref r_p2] : List Value).toArray = args at C0 hts ⊢
  have hws := sr_hwsH hts
  replace hl : lv_has ls 4 [(0, .ref r_p0), (1, .int x1), (2, .ref r_p2)] := hl
  replace hf : (sr_bd (f_S_station n_p0_stations_doors n_p0_stations_froms n_p0_stations_tos v_p0_stations_count F_p0_stations_doors F_p0_stations_froms F_p0_stations_tos x1) fun o1 =>
    (if o1.1 = 0 then
    (sr_bk 0 n_p2
    (some (0, o1.2.2.1, o1.2.2.2.1, o1.2.2.2.2.1, o1.2.2.2.2.2, (vp_updL F_p2 (0 : Int32).toNatClampNeg ((o1.2.1 : Int32).toInt64)))))
    else
    (if o1.1 = 2 then
    (some (1, o1.2.2.1, o1.2.2.2.1, o1.2.2.2.2.1, o1.2.2.2.2.2, F_p2))
    else
    (if o1.1 = 4 then
    (some (2, o1.2.2.1, o1.2.2.2.1, o1.2.2.2.2.1, o1.2.2.2.2.2, F_p2))
    else
    none)))) = some o := hf
  refine lv_aload_n hx hb d_L_station_0 rfl (lv_at hl 2 rfl) ?_
  refine lv_iconst (v := 0) hx hb d_L_station_1 (by decide) ?_
  refine lv_aload_n hx hb d_L_station_2 rfl (lv_at hl 0 rfl) ?_
  refine lv_iload_n hx hb d_L_station_3 rfl (lv_at hl 1 rfl) ?_
  obtain ⟨o1, ho1, hf⟩ := sr_bd_e hf
  refine sr_callTV (ci := 7) (vc := ("StationRows", zf_S, 6)) (wr := [(r_p2, .inl (cJ, n_p2, .inr (.inl F_p2)))]) (ws1 := [(r_p0, .inr (7, [.ref q_p0_stations, .ref q_p0_vehicles, .ref q_p0_persons, .ref q_p0_needs, .ref q_p0_checks, .ref q_p0_keys])), (q_p0_stations, .inr (1, [.ref q_p0_stations_doors, .ref q_p0_stations_froms, .ref q_p0_stations_tos, .int o1.2.2.1])), (q_p0_stations_doors, .inl (cI, n_p0_stations_doors, .inl o1.2.2.2.1)), (q_p0_stations_froms, .inl (cI, n_p0_stations_froms, .inl o1.2.2.2.2.1)), (q_p0_stations_tos, .inl (cI, n_p0_stations_tos, .inl o1.2.2.2.2.2)), (r_p2, .inl (cJ, n_p2, .inr (.inl F_p2)))]) (rest := [.int 0, .ref r_p2]) (st1 := [.int o1.2.1, .int 0, .ref r_p2]) ⟨hx, hb, hml, hown, hts⟩ (c_S_station l hfl dC dI cI cJ cZ r_p0 q_p0_stations q_p0_vehicles q_p0_persons q_p0_needs q_p0_checks q_p0_keys q_p0_stations_doors q_p0_stations_froms q_p0_stations_tos n_p0_stations_doors n_p0_stations_froms n_p0_stations_tos v_p0_stations_count F_p0_stations_doors F_p0_stations_froms F_p0_stations_tos x1 o1 ho1) ⟨(sr_cB 1 hws k_239 k_26 k_236 (by decide +kernel) ⟨Nat.le_of_ble_eq_true rfl, Nat.le_of_ble_eq_true rfl⟩), hws _ k_237, hws _ k_238⟩ hK hz G hA [0, 1, 2, 3, 4] [5] [1, 2, 3, 4, 5, 0] rfl (by decide) rfl (by decide) (by decide) rfl (by decide) 0 rfl rfl rfl hl.1 rfl (Nat.le_of_ble_eq_true rfl) d_L_station_4 ⟨Nat.le_of_ble_eq_true rfl, Nat.le_of_ble_eq_true rfl⟩ rfl (fun C hC x H locs G hsz hxo => ?_) (fun hz0 H locs G => ?_)
  · replace hf := (if_neg (sr_nz hC)).symm.trans hf
    by_cases c2 : o1.1 = 2
    · replace hf := (if_pos c2).symm.trans hf
      have hC2 := sr_ocC c2 hC
      cases hC2
      refine sr_WT.catch (own := "StationRowsLaw") (hn := [(12, "java/lang/IndexOutOfBoundsException"), (15, "java/lang/UnsupportedOperationException")]) (pcH := 12) hown hxo (hz.2.2.1 _ sr_c2) (by rw [hes]; exact ⟨⟨by decide, by decide, rfl, hws _ k_234, Or.inl rfl⟩, ⟨by decide, by decide, rfl, hws _ k_235, Or.inr (hz.2.2.2.2 ("java/lang/IndexOutOfBoundsException", "java/lang/UnsupportedOperationException") (by decide))⟩, trivial⟩) rfl ?_
      refine lv_astore_n (lv' := [(3, .ref x), (0, .ref r_p0), (1, .int x1), (2, .ref r_p2)]) hx hb d_L_station_12 rfl hl (by decide) rfl (fun ls hl => ?_)
      refine lv_iconst (v := 1) hx hb d_L_station_13 (by decide) ?_
      cases hf
      exact sr_retW (by decide) (by decide) (sr_iret hx hb hr hlocks hK G d_L_station_14)
    replace hf := (if_neg c2).symm.trans hf
    by_cases c3 : o1.1 = 4
    · replace hf := (if_pos c3).symm.trans hf
      have hC2 := sr_ocC c3 hC
      cases hC2
      refine sr_WT.catch (own := "StationRowsLaw") (hn := [(12, "java/lang/IndexOutOfBoundsException"), (15, "java/lang/UnsupportedOperationException")]) (pcH := 15) hown hxo (hz.2.2.1 _ sr_c4) (by rw [hes]; exact ⟨⟨by decide, by decide, rfl, hws _ k_234, Or.inr (hz.2.2.2.2 ("java/lang/UnsupportedOperationException", "java/lang/IndexOutOfBoundsException") (by decide))⟩, ⟨by decide, by decide, rfl, hws _ k_235, Or.inl rfl⟩, trivial⟩) rfl ?_
      refine lv_astore_n (lv' := [(3, .ref x), (0, .ref r_p0), (1, .int x1), (2, .ref r_p2)]) hx hb d_L_station_15 rfl hl (by decide) rfl (fun ls hl => ?_)
      refine lv_iconst (v := 2) hx hb d_L_station_16 (by decide) ?_
      cases hf
      exact sr_retW (by decide) (by decide) (sr_iret hx hb hr hlocks hK G d_L_station_17)
    replace hf := (if_neg c3).symm.trans hf
    exact sr_no hf
  replace hf := (if_pos hz0).symm.trans hf
  refine lv_i2l hx hb d_L_station_7 rfl ?_
  obtain ⟨hi4, hf⟩ := sr_bk_e hf
  refine va_last hx hb hK G.1 G.2.1 G.2.2 5 1 rfl rfl hi4 d_L_station_8 (fun H locs hP hD hS => ?_)
  have G : sr_G (dC, dI) A [(r_p0, .inr (7, [.ref q_p0_stations, .ref q_p0_vehicles, .ref q_p0_persons, .ref q_p0_needs, .ref q_p0_checks, .ref q_p0_keys])), (q_p0_stations, .inr (1, [.ref q_p0_stations_doors, .ref q_p0_stations_froms, .ref q_p0_stations_tos, .int o1.2.2.1])), (q_p0_stations_doors, .inl (cI, n_p0_stations_doors, .inl o1.2.2.2.1)), (q_p0_stations_froms, .inl (cI, n_p0_stations_froms, .inl o1.2.2.2.2.1)), (q_p0_stations_tos, .inl (cI, n_p0_stations_tos, .inl o1.2.2.2.2.2)), (r_p2, .inl (cJ, n_p2, .inr (.inl (vp_updL F_p2 (0 : Int32).toNatClampNeg ((o1.2.1 : Int32).toInt64)))))] s H locs := ⟨hP, hD, hS⟩
  refine lv_goto (tgt := 18) hx hb d_L_station_9 (by decide) ?_
  refine lv_iconst (v := 0) hx hb d_L_station_18 (by decide) ?_
  cases hf
  exact sr_retW (by decide) (by decide) (sr_iret hx hb hr hlocks hK G d_L_station_19)
/-! StationRowsLaw.temporary(LStationRows;III[J)I -/
abbrev rm_L_temporary : Room := { frames := 10, cells := 1, slots := 6, locals := 168 }
def f_L_temporary (n_p0_stations_doors n_p0_stations_froms n_p0_stations_tos n_p4 : Nat) (v_p0_stations_count : Int32) (F_p0_stations_doors : Nat → Int32) (F_p0_stations_froms : Nat → Int32) (F_p0_stations_tos : Nat → Int32) (F_p4 : Nat → Int64) (x1 x2 x3 : Int32) : Option (Int32 × Int32 × (Nat → Int32) × (Nat → Int32) × (Nat → Int32) × (Nat → Int64)) :=
    (sr_bd (f_S_temporary n_p0_stations_doors n_p0_stations_froms n_p0_stations_tos v_p0_stations_count F_p0_stations_doors F_p0_stations_froms F_p0_stations_tos x1 x2 x3) fun o1 =>
    (if o1.1 = 0 then
    (sr_bk 0 n_p4
    (some (0, o1.2.2.1, o1.2.2.2.1, o1.2.2.2.2.1, o1.2.2.2.2.2, (vp_updL F_p4 (0 : Int32).toNatClampNeg ((o1.2.1 : Int32).toInt64)))))
    else
    (if o1.1 = 2 then
    (some (1, o1.2.2.1, o1.2.2.2.1, o1.2.2.2.2.1, o1.2.2.2.2.2, F_p4))
    else
    (if o1.1 = 4 then
    (some (2, o1.2.2.1, o1.2.2.2.1, o1.2.2.2.2.1, o1.2.2.2.2.2, F_p4))
    else
    none))))
set_option maxHeartbeats 4000000 in
set_option maxRecDepth 100000 in
theorem c_L_temporary (l : Launch) (hfl : l.flags = flags0) (dC : Nat → ClassId) (dI : Nat → Nat → Nat) (cI cJ cZ : ClassId) (r_p0 r_p4 q_p0_stations q_p0_vehicles q_p0_persons q_p0_needs q_p0_checks q_p0_keys q_p0_stations_doors q_p0_stations_froms q_p0_stations_tos : Nat) (n_p0_stations_doors n_p0_stations_froms n_p0_stations_tos n_p4 : Nat) (v_p0_stations_count : Int32) (F_p0_stations_doors : Nat → Int32) (F_p0_stations_froms : Nat → Int32) (F_p0_stations_tos : Nat → Int32) (F_p4 : Nat → Int64) (x1 x2 x3 : Int32)  (o : Int32 × Int32 × (Nat → Int32) × (Nat → Int32) × (Nat → Int32) × (Nat → Int64)) (hf : f_L_temporary n_p0_stations_doors n_p0_stations_froms n_p0_stations_tos n_p4 v_p0_stations_count F_p0_stations_doors F_p0_stations_froms F_p0_stations_tos F_p4 x1 x2 x3 = some o) : sr_Wt l y_L_temporary (sr_WH y_L_temporary b_L_temporary 6 (some .int) hs_L_temporary) rm_L_temporary (dC, dI) (sr_ty cI cJ cZ) [.ref r_p0, .int x1, .int x2, .int x3, .ref r_p4] [(r_p0, .inr (7, [.ref q_p0_stations, .ref q_p0_vehicles, .ref q_p0_persons, .ref q_p0_needs, .ref q_p0_checks, .ref q_p0_keys])), (q_p0_stations, .inr (1, [.ref q_p0_stations_doors, .ref q_p0_stations_froms, .ref q_p0_stations_tos, .int v_p0_stations_count])), (q_p0_stations_doors, .inl (cI, n_p0_stations_doors, .inl F_p0_stations_doors)), (q_p0_stations_froms, .inl (cI, n_p0_stations_froms, .inl F_p0_stations_froms)), (q_p0_stations_tos, .inl (cI, n_p0_stations_tos, .inl F_p0_stations_tos)), (r_p4, .inl (cJ, n_p4, .inr (.inl F_p4)))] (some (.int o.1)) [(r_p0, .inr (7, [.ref q_p0_stations, .ref q_p0_vehicles, .ref q_p0_persons, .ref q_p0_needs, .ref q_p0_checks, .ref q_p0_keys])), (q_p0_stations, .inr (1, [.ref q_p0_stations_doors, .ref q_p0_stations_froms, .ref q_p0_stations_tos, .int o.2.1])), (q_p0_stations_doors, .inl (cI, n_p0_stations_doors, .inl o.2.2.1)), (q_p0_stations_froms, .inl (cI, n_p0_stations_froms, .inl o.2.2.2.1)), (q_p0_stations_tos, .inl (cI, n_p0_stations_tos, .inl o.2.2.2.2.1)), (r_p4, .inl (cJ, n_p4, .inr (.inl o.2.2.2.2.2)))] := by
  refine sr_Wt.of (cc := b_L_temporary) (maxL := 6) (ret := (some .int)) (hs := hs_L_temporary) (by decide) rfl (Nat.le_of_ble_eq_true rfl) ?_
  intro p e s m below meth c A ls C0 hes hA hK hz G hl
  obtain ⟨hx, hb, hml, hr, hown, hts, hlocks, hnm⟩ := id C0
  generalize hargs : ([.ref r_p0, .int x1, .int x2, .int x3, .ref r_p4] : List Value).toArray = args at C0 hts ⊢
  have hws := sr_hwsH hts
  replace hl : lv_has ls 6 [(0, .ref r_p0), (1, .int x1), (2, .int x2), (3, .int x3), (4, .ref r_p4)] := hl
  replace hf : (sr_bd (f_S_temporary n_p0_stations_doors n_p0_stations_froms n_p0_stations_tos v_p0_stations_count F_p0_stations_doors F_p0_stations_froms F_p0_stations_tos x1 x2 x3) fun o1 =>
    (if o1.1 = 0 then
    (sr_bk 0 n_p4
    (some (0, o1.2.2.1, o1.2.2.2.1, o1.2.2.2.2.1, o1.2.2.2.2.2, (vp_updL F_p4 (0 : Int32).toNatClampNeg ((o1.2.1 : Int32).toInt64)))))
    else
    (if o1.1 = 2 then
    (some (1, o1.2.2.1, o1.2.2.2.1, o1.2.2.2.2.1, o1.2.2.2.2.2, F_p4))
    else
    (if o1.1 = 4 then
    (some (2, o1.2.2.1, o1.2.2.2.1, o1.2.2.2.2.1, o1.2.2.2.2.2, F_p4))
    else
    none)))) = some o := hf
  refine lv_aload hx hb d_L_temporary_0 (lv_at hl 4 rfl) ?_
  refine lv_iconst (v := 0) hx hb d_L_temporary_2 (by decide) ?_
  refine lv_aload_n hx hb d_L_temporary_3 rfl (lv_at hl 0 rfl) ?_
  refine lv_iload_n hx hb d_L_temporary_4 rfl (lv_at hl 1 rfl) ?_
  refine lv_iload_n hx hb d_L_temporary_5 rfl (lv_at hl 2 rfl) ?_
  refine lv_iload_n hx hb d_L_temporary_6 rfl (lv_at hl 3 rfl) ?_
  obtain ⟨o1, ho1, hf⟩ := sr_bd_e hf
  refine sr_callTV (ci := 7) (vc := ("StationRows", zf_S, 6)) (wr := [(r_p4, .inl (cJ, n_p4, .inr (.inl F_p4)))]) (ws1 := [(r_p0, .inr (7, [.ref q_p0_stations, .ref q_p0_vehicles, .ref q_p0_persons, .ref q_p0_needs, .ref q_p0_checks, .ref q_p0_keys])), (q_p0_stations, .inr (1, [.ref q_p0_stations_doors, .ref q_p0_stations_froms, .ref q_p0_stations_tos, .int o1.2.2.1])), (q_p0_stations_doors, .inl (cI, n_p0_stations_doors, .inl o1.2.2.2.1)), (q_p0_stations_froms, .inl (cI, n_p0_stations_froms, .inl o1.2.2.2.2.1)), (q_p0_stations_tos, .inl (cI, n_p0_stations_tos, .inl o1.2.2.2.2.2)), (r_p4, .inl (cJ, n_p4, .inr (.inl F_p4)))]) (rest := [.int 0, .ref r_p4]) (st1 := [.int o1.2.1, .int 0, .ref r_p4]) ⟨hx, hb, hml, hown, hts⟩ (c_S_temporary l hfl dC dI cI cJ cZ r_p0 q_p0_stations q_p0_vehicles q_p0_persons q_p0_needs q_p0_checks q_p0_keys q_p0_stations_doors q_p0_stations_froms q_p0_stations_tos n_p0_stations_doors n_p0_stations_froms n_p0_stations_tos v_p0_stations_count F_p0_stations_doors F_p0_stations_froms F_p0_stations_tos x1 x2 x3 o1 ho1) ⟨(sr_cB 3 hws k_346 k_26 k_343 (by decide +kernel) ⟨Nat.le_of_ble_eq_true rfl, Nat.le_of_ble_eq_true rfl⟩), hws _ k_344, hws _ k_345⟩ hK hz G hA [0, 1, 2, 3, 4] [5] [1, 2, 3, 4, 5, 0] rfl (by decide) rfl (by decide) (by decide) rfl (by decide) 0 rfl rfl rfl hl.1 rfl (Nat.le_of_ble_eq_true rfl) d_L_temporary_7 ⟨Nat.le_of_ble_eq_true rfl, Nat.le_of_ble_eq_true rfl⟩ rfl (fun C hC x H locs G hsz hxo => ?_) (fun hz0 H locs G => ?_)
  · replace hf := (if_neg (sr_nz hC)).symm.trans hf
    by_cases c2 : o1.1 = 2
    · replace hf := (if_pos c2).symm.trans hf
      have hC2 := sr_ocC c2 hC
      cases hC2
      refine sr_WT.catch (own := "StationRowsLaw") (hn := [(15, "java/lang/IndexOutOfBoundsException"), (19, "java/lang/UnsupportedOperationException")]) (pcH := 15) hown hxo (hz.2.2.1 _ sr_c2) (by rw [hes]; exact ⟨⟨by decide, by decide, rfl, hws _ k_234, Or.inl rfl⟩, ⟨by decide, by decide, rfl, hws _ k_235, Or.inr (hz.2.2.2.2 ("java/lang/IndexOutOfBoundsException", "java/lang/UnsupportedOperationException") (by decide))⟩, trivial⟩) rfl ?_
      refine lv_astore (lv' := [(5, .ref x), (0, .ref r_p0), (1, .int x1), (2, .int x2), (3, .int x3), (4, .ref r_p4)]) hx hb d_L_temporary_15 hl (by decide) rfl (fun ls hl => ?_)
      refine lv_iconst (v := 1) hx hb d_L_temporary_17 (by decide) ?_
      cases hf
      exact sr_retW (by decide) (by decide) (sr_iret hx hb hr hlocks hK G d_L_temporary_18)
    replace hf := (if_neg c2).symm.trans hf
    by_cases c3 : o1.1 = 4
    · replace hf := (if_pos c3).symm.trans hf
      have hC2 := sr_ocC c3 hC
      cases hC2
      refine sr_WT.catch (own := "StationRowsLaw") (hn := [(15, "java/lang/IndexOutOfBoundsException"), (19, "java/lang/UnsupportedOperationException")]) (pcH := 19) hown hxo (hz.2.2.1 _ sr_c4) (by rw [hes]; exact ⟨⟨by decide, by decide, rfl, hws _ k_234, Or.inr (hz.2.2.2.2 ("java/lang/UnsupportedOperationException", "java/lang/IndexOutOfBoundsException") (by decide))⟩, ⟨by decide, by decide, rfl, hws _ k_235, Or.inl rfl⟩, trivial⟩) rfl ?_
      refine lv_astore (lv' := [(5, .ref x), (0, .ref r_p0), (1, .int x1), (2, .int x2), (3, .int x3), (4, .ref r_p4)]) hx hb d_L_temporary_19 hl (by decide) rfl (fun ls hl => ?_)
      refine lv_iconst (v := 2) hx hb d_L_temporary_21 (by decide) ?_
      cases hf
      exact sr_retW (by decide) (by decide) (sr_iret hx hb hr hlocks hK G d_L_temporary_22)
    replace hf := (if_neg c3).symm.trans hf
    exact sr_no hf
  replace hf := (if_pos hz0).symm.trans hf
  refine lv_i2l hx hb d_L_temporary_10 rfl ?_
  obtain ⟨hi4, hf⟩ := sr_bk_e hf
  refine va_last hx hb hK G.1 G.2.1 G.2.2 5 1 rfl rfl hi4 d_L_temporary_11 (fun H locs hP hD hS => ?_)
  have G : sr_G (dC, dI) A [(r_p0, .inr (7, [.ref q_p0_stations, .ref q_p0_vehicles, .ref q_p0_persons, .ref q_p0_needs, .ref q_p0_checks, .ref q_p0_keys])), (q_p0_stations, .inr (1, [.ref q_p0_stations_doors, .ref q_p0_stations_froms, .ref q_p0_stations_tos, .int o1.2.2.1])), (q_p0_stations_doors, .inl (cI, n_p0_stations_doors, .inl o1.2.2.2.1)), (q_p0_stations_froms, .inl (cI, n_p0_stations_froms, .inl o1.2.2.2.2.1)), (q_p0_stations_tos, .inl (cI, n_p0_stations_tos, .inl o1.2.2.2.2.2)), (r_p4, .inl (cJ, n_p4, .inr (.inl (vp_updL F_p4 (0 : Int32).toNatClampNeg ((o1.2.1 : Int32).toInt64)))))] s H locs := ⟨hP, hD, hS⟩
  refine lv_goto (tgt := 23) hx hb d_L_temporary_12 (by decide) ?_
  refine lv_iconst (v := 0) hx hb d_L_temporary_23 (by decide) ?_
  cases hf
  exact sr_retW (by decide) (by decide) (sr_iret hx hb hr hlocks hK G d_L_temporary_24)
/-! StationRowsLaw.vehicle(LStationRows;III[J)I -/
abbrev rm_L_vehicle : Room := { frames := 8, cells := 1, slots := 6, locals := 127 }
def f_L_vehicle (n : Nat) (n_p0_stations_doors n_p0_vehicles_stationRow n_p0_vehicles_kinds n_p0_vehicles_crews n_p4 : Nat) (v_p0_stations_count : Int32) (F_p0_stations_doors : Nat → Int32) (v_p0_vehicles_count : Int32) (F_p0_vehicles_stationRow : Nat → Int32) (F_p0_vehicles_kinds : Nat → Int32) (F_p0_vehicles_crews : Nat → Int32) (F_p4 : Nat → Int64) (x1 x2 x3 : Int32) : Option (Int32 × Int32 × (Nat → Int32) × (Nat → Int32) × (Nat → Int32) × (Nat → Int64)) :=
    (sr_bd (f_S_vehicle n n_p0_stations_doors n_p0_vehicles_stationRow n_p0_vehicles_kinds n_p0_vehicles_crews v_p0_stations_count F_p0_stations_doors v_p0_vehicles_count F_p0_vehicles_stationRow F_p0_vehicles_kinds F_p0_vehicles_crews x1 x2 x3) fun o1 =>
    (if o1.1 = 0 then
    (sr_bk 0 n_p4
    (some (0, o1.2.2.1, o1.2.2.2.1, o1.2.2.2.2.1, o1.2.2.2.2.2, (vp_updL F_p4 (0 : Int32).toNatClampNeg ((o1.2.1 : Int32).toInt64)))))
    else
    (if o1.1 = 1 then
    (some (1, o1.2.2.1, o1.2.2.2.1, o1.2.2.2.2.1, o1.2.2.2.2.2, F_p4))
    else
    (if o1.1 = 2 then
    (some (2, o1.2.2.1, o1.2.2.2.1, o1.2.2.2.2.1, o1.2.2.2.2.2, F_p4))
    else
    (if o1.1 = 4 then
    (some (3, o1.2.2.1, o1.2.2.2.1, o1.2.2.2.2.1, o1.2.2.2.2.2, F_p4))
    else
    none)))))
set_option maxHeartbeats 4000000 in
set_option maxRecDepth 100000 in
theorem c_L_vehicle (l : Launch) (hfl : l.flags = flags0) (dC : Nat → ClassId) (dI : Nat → Nat → Nat) (cI cJ cZ : ClassId) (r_p0 r_p4 q_p0_stations q_p0_vehicles q_p0_persons q_p0_needs q_p0_checks q_p0_keys q_p0_stations_doors q_p0_stations_froms q_p0_stations_tos q_p0_vehicles_stationRow q_p0_vehicles_kinds q_p0_vehicles_crews q_p0_vehicles_outs q_p0_vehicles_standsFor q_p0_vehicles_spares : Nat) (n_p0_stations_doors n_p0_vehicles_stationRow n_p0_vehicles_kinds n_p0_vehicles_crews n_p4 : Nat) (v_p0_stations_count : Int32) (F_p0_stations_doors : Nat → Int32) (v_p0_vehicles_count : Int32) (F_p0_vehicles_stationRow : Nat → Int32) (F_p0_vehicles_kinds : Nat → Int32) (F_p0_vehicles_crews : Nat → Int32) (F_p4 : Nat → Int64) (x1 x2 x3 : Int32) (n : Nat) (o : Int32 × Int32 × (Nat → Int32) × (Nat → Int32) × (Nat → Int32) × (Nat → Int64)) (hf : f_L_vehicle n n_p0_stations_doors n_p0_vehicles_stationRow n_p0_vehicles_kinds n_p0_vehicles_crews n_p4 v_p0_stations_count F_p0_stations_doors v_p0_vehicles_count F_p0_vehicles_stationRow F_p0_vehicles_kinds F_p0_vehicles_crews F_p4 x1 x2 x3 = some o) : sr_Wt l y_L_vehicle (sr_WH y_L_vehicle b_L_vehicle 6 (some .int) hs_L_vehicle) rm_L_vehicle (dC, dI) (sr_ty cI cJ cZ) [.ref r_p0, .int x1, .int x2, .int x3, .ref r_p4] [(r_p0, .inr (7, [.ref q_p0_stations, .ref q_p0_vehicles, .ref q_p0_persons, .ref q_p0_needs, .ref q_p0_checks, .ref q_p0_keys])), (q_p0_stations, .inr (1, [.ref q_p0_stations_doors, .ref q_p0_stations_froms, .ref q_p0_stations_tos, .int v_p0_stations_count])), (q_p0_stations_doors, .inl (cI, n_p0_stations_doors, .inl F_p0_stations_doors)), (q_p0_vehicles, .inr (2, [.ref q_p0_vehicles_stationRow, .ref q_p0_vehicles_kinds, .ref q_p0_vehicles_crews, .ref q_p0_vehicles_outs, .ref q_p0_vehicles_standsFor, .ref q_p0_vehicles_spares, .int v_p0_vehicles_count])), (q_p0_vehicles_stationRow, .inl (cI, n_p0_vehicles_stationRow, .inl F_p0_vehicles_stationRow)), (q_p0_vehicles_kinds, .inl (cI, n_p0_vehicles_kinds, .inl F_p0_vehicles_kinds)), (q_p0_vehicles_crews, .inl (cI, n_p0_vehicles_crews, .inl F_p0_vehicles_crews)), (r_p4, .inl (cJ, n_p4, .inr (.inl F_p4)))] (some (.int o.1)) [(r_p0, .inr (7, [.ref q_p0_stations, .ref q_p0_vehicles, .ref q_p0_persons, .ref q_p0_needs, .ref q_p0_checks, .ref q_p0_keys])), (q_p0_stations, .inr (1, [.ref q_p0_stations_doors, .ref q_p0_stations_froms, .ref q_p0_stations_tos, .int v_p0_stations_count])), (q_p0_stations_doors, .inl (cI, n_p0_stations_doors, .inl F_p0_stations_doors)), (q_p0_vehicles, .inr (2, [.ref q_p0_vehicles_stationRow, .ref q_p0_vehicles_kinds, .ref q_p0_vehicles_crews, .ref q_p0_vehicles_outs, .ref q_p0_vehicles_standsFor, .ref q_p0_vehicles_spares, .int o.2.1])), (q_p0_vehicles_stationRow, .inl (cI, n_p0_vehicles_stationRow, .inl o.2.2.1)), (q_p0_vehicles_kinds, .inl (cI, n_p0_vehicles_kinds, .inl o.2.2.2.1)), (q_p0_vehicles_crews, .inl (cI, n_p0_vehicles_crews, .inl o.2.2.2.2.1)), (r_p4, .inl (cJ, n_p4, .inr (.inl o.2.2.2.2.2)))] := by
  refine sr_Wt.of (cc := b_L_vehicle) (maxL := 6) (ret := (some .int)) (hs := hs_L_vehicle) (by decide) rfl (Nat.le_of_ble_eq_true rfl) ?_
  intro p e s m below meth c A ls C0 hes hA hK hz G hl
  obtain ⟨hx, hb, hml, hr, hown, hts, hlocks, hnm⟩ := id C0
  generalize hargs : ([.ref r_p0, .int x1, .int x2, .int x3, .ref r_p4] : List Value).toArray = args at C0 hts ⊢
  have hws := sr_hwsH hts
  replace hl : lv_has ls 6 [(0, .ref r_p0), (1, .int x1), (2, .int x2), (3, .int x3), (4, .ref r_p4)] := hl
  replace hf : (sr_bd (f_S_vehicle n n_p0_stations_doors n_p0_vehicles_stationRow n_p0_vehicles_kinds n_p0_vehicles_crews v_p0_stations_count F_p0_stations_doors v_p0_vehicles_count F_p0_vehicles_stationRow F_p0_vehicles_kinds F_p0_vehicles_crews x1 x2 x3) fun o1 =>
    (if o1.1 = 0 then
    (sr_bk 0 n_p4
    (some (0, o1.2.2.1, o1.2.2.2.1, o1.2.2.2.2.1, o1.2.2.2.2.2, (vp_updL F_p4 (0 : Int32).toNatClampNeg ((o1.2.1 : Int32).toInt64)))))
    else
    (if o1.1 = 1 then
    (some (1, o1.2.2.1, o1.2.2.2.1, o1.2.2.2.2.1, o1.2.2.2.2.2, F_p4))
    else
    (if o1.1 = 2 then
    (some (2, o1.2.2.1, o1.2.2.2.1, o1.2.2.2.2.1, o1.2.2.2.2.2, F_p4))
    else
    (if o1.1 = 4 then
    (some (3, o1.2.2.1, o1.2.2.2.1, o1.2.2.2.2.1, o1.2.2.2.2.2, F_p4))
    else
    none))))) = some o := hf
  refine lv_aload hx hb d_L_vehicle_0 (lv_at hl 4 rfl) ?_
  refine lv_iconst (v := 0) hx hb d_L_vehicle_2 (by decide) ?_
  refine lv_aload_n hx hb d_L_vehicle_3 rfl (lv_at hl 0 rfl) ?_
  refine lv_iload_n hx hb d_L_vehicle_4 rfl (lv_at hl 1 rfl) ?_
  refine lv_iload_n hx hb d_L_vehicle_5 rfl (lv_at hl 2 rfl) ?_
  refine lv_iload_n hx hb d_L_vehicle_6 rfl (lv_at hl 3 rfl) ?_
  obtain ⟨o1, ho1, hf⟩ := sr_bd_e hf
  refine sr_callTV (ci := 7) (vc := ("StationRows", zf_S, 6)) (wr := [(r_p4, .inl (cJ, n_p4, .inr (.inl F_p4)))]) (ws1 := [(r_p0, .inr (7, [.ref q_p0_stations, .ref q_p0_vehicles, .ref q_p0_persons, .ref q_p0_needs, .ref q_p0_checks, .ref q_p0_keys])), (q_p0_stations, .inr (1, [.ref q_p0_stations_doors, .ref q_p0_stations_froms, .ref q_p0_stations_tos, .int v_p0_stations_count])), (q_p0_stations_doors, .inl (cI, n_p0_stations_doors, .inl F_p0_stations_doors)), (q_p0_vehicles, .inr (2, [.ref q_p0_vehicles_stationRow, .ref q_p0_vehicles_kinds, .ref q_p0_vehicles_crews, .ref q_p0_vehicles_outs, .ref q_p0_vehicles_standsFor, .ref q_p0_vehicles_spares, .int o1.2.2.1])), (q_p0_vehicles_stationRow, .inl (cI, n_p0_vehicles_stationRow, .inl o1.2.2.2.1)), (q_p0_vehicles_kinds, .inl (cI, n_p0_vehicles_kinds, .inl o1.2.2.2.2.1)), (q_p0_vehicles_crews, .inl (cI, n_p0_vehicles_crews, .inl o1.2.2.2.2.2)), (r_p4, .inl (cJ, n_p4, .inr (.inl F_p4)))]) (rest := [.int 0, .ref r_p4]) (st1 := [.int o1.2.1, .int 0, .ref r_p4]) ⟨hx, hb, hml, hown, hts⟩ (c_S_vehicle l hfl dC dI cI cJ cZ r_p0 q_p0_stations q_p0_vehicles q_p0_persons q_p0_needs q_p0_checks q_p0_keys q_p0_stations_doors q_p0_stations_froms q_p0_stations_tos q_p0_vehicles_stationRow q_p0_vehicles_kinds q_p0_vehicles_crews q_p0_vehicles_outs q_p0_vehicles_standsFor q_p0_vehicles_spares n_p0_stations_doors n_p0_vehicles_stationRow n_p0_vehicles_kinds n_p0_vehicles_crews v_p0_stations_count F_p0_stations_doors v_p0_vehicles_count F_p0_vehicles_stationRow F_p0_vehicles_kinds F_p0_vehicles_crews x1 x2 x3 n o1 ho1) ⟨(sr_cB 3 hws k_362 k_26 k_359 (by decide +kernel) ⟨Nat.le_of_ble_eq_true rfl, Nat.le_of_ble_eq_true rfl⟩), hws _ k_360, hws _ k_361⟩ hK hz G hA [0, 1, 2, 3, 4, 5, 6] [7] [1, 2, 3, 4, 5, 6, 7, 0] rfl (by decide) rfl (by decide) (by decide) rfl (by decide) 0 rfl rfl rfl hl.1 rfl (Nat.le_of_ble_eq_true rfl) d_L_vehicle_7 ⟨Nat.le_of_ble_eq_true rfl, Nat.le_of_ble_eq_true rfl⟩ rfl (fun C hC x H locs G hsz hxo => ?_) (fun hz0 H locs G => ?_)
  · replace hf := (if_neg (sr_nz hC)).symm.trans hf
    by_cases c2 : o1.1 = 1
    · replace hf := (if_pos c2).symm.trans hf
      have hC2 := sr_ocC c2 hC
      cases hC2
      refine sr_WT.catch (own := "StationRowsLaw") (hn := [(15, "java/lang/IllegalArgumentException"), (19, "java/lang/IndexOutOfBoundsException"), (23, "java/lang/UnsupportedOperationException")]) (pcH := 15) hown hxo (hz.2.2.1 _ sr_c1) (by rw [hes]; exact ⟨⟨by decide, by decide, rfl, hws _ k_358, Or.inl rfl⟩, ⟨by decide, by decide, rfl, hws _ k_234, Or.inr (hz.2.2.2.2 ("java/lang/IllegalArgumentException", "java/lang/IndexOutOfBoundsException") (by decide))⟩, ⟨by decide, by decide, rfl, hws _ k_235, Or.inr (hz.2.2.2.2 ("java/lang/IllegalArgumentException", "java/lang/UnsupportedOperationException") (by decide))⟩, trivial⟩) rfl ?_
      refine lv_astore (lv' := [(5, .ref x), (0, .ref r_p0), (1, .int x1), (2, .int x2), (3, .int x3), (4, .ref r_p4)]) hx hb d_L_vehicle_15 hl (by decide) rfl (fun ls hl => ?_)
      refine lv_iconst (v := 1) hx hb d_L_vehicle_17 (by decide) ?_
      cases hf
      exact sr_retW (by decide) (by decide) (sr_iret hx hb hr hlocks hK G d_L_vehicle_18)
    replace hf := (if_neg c2).symm.trans hf
    by_cases c3 : o1.1 = 2
    · replace hf := (if_pos c3).symm.trans hf
      have hC2 := sr_ocC c3 hC
      cases hC2
      refine sr_WT.catch (own := "StationRowsLaw") (hn := [(15, "java/lang/IllegalArgumentException"), (19, "java/lang/IndexOutOfBoundsException"), (23, "java/lang/UnsupportedOperationException")]) (pcH := 19) hown hxo (hz.2.2.1 _ sr_c2) (by rw [hes]; exact ⟨⟨by decide, by decide, rfl, hws _ k_358, Or.inr (hz.2.2.2.2 ("java/lang/IndexOutOfBoundsException", "java/lang/IllegalArgumentException") (by decide))⟩, ⟨by decide, by decide, rfl, hws _ k_234, Or.inl rfl⟩, ⟨by decide, by decide, rfl, hws _ k_235, Or.inr (hz.2.2.2.2 ("java/lang/IndexOutOfBoundsException", "java/lang/UnsupportedOperationException") (by decide))⟩, trivial⟩) rfl ?_
      refine lv_astore (lv' := [(5, .ref x), (0, .ref r_p0), (1, .int x1), (2, .int x2), (3, .int x3), (4, .ref r_p4)]) hx hb d_L_vehicle_19 hl (by decide) rfl (fun ls hl => ?_)
      refine lv_iconst (v := 2) hx hb d_L_vehicle_21 (by decide) ?_
      cases hf
      exact sr_retW (by decide) (by decide) (sr_iret hx hb hr hlocks hK G d_L_vehicle_22)
    replace hf := (if_neg c3).symm.trans hf
    by_cases c4 : o1.1 = 4
    · replace hf := (if_pos c4).symm.trans hf
      have hC2 := sr_ocC c4 hC
      cases hC2
      refine sr_WT.catch (own := "StationRowsLaw") (hn := [(15, "java/lang/IllegalArgumentException"), (19, "java/lang/IndexOutOfBoundsException"), (23, "java/lang/UnsupportedOperationException")]) (pcH := 23) hown hxo (hz.2.2.1 _ sr_c4) (by rw [hes]; exact ⟨⟨by decide, by decide, rfl, hws _ k_358, Or.inr (hz.2.2.2.2 ("java/lang/UnsupportedOperationException", "java/lang/IllegalArgumentException") (by decide))⟩, ⟨by decide, by decide, rfl, hws _ k_234, Or.inr (hz.2.2.2.2 ("java/lang/UnsupportedOperationException", "java/lang/IndexOutOfBoundsException") (by decide))⟩, ⟨by decide, by decide, rfl, hws _ k_235, Or.inl rfl⟩, trivial⟩) rfl ?_
      refine lv_astore (lv' := [(5, .ref x), (0, .ref r_p0), (1, .int x1), (2, .int x2), (3, .int x3), (4, .ref r_p4)]) hx hb d_L_vehicle_23 hl (by decide) rfl (fun ls hl => ?_)
      refine lv_iconst (v := 3) hx hb d_L_vehicle_25 (by decide) ?_
      cases hf
      exact sr_retW (by decide) (by decide) (sr_iret hx hb hr hlocks hK G d_L_vehicle_26)
    replace hf := (if_neg c4).symm.trans hf
    exact sr_no hf
  replace hf := (if_pos hz0).symm.trans hf
  refine lv_i2l hx hb d_L_vehicle_10 rfl ?_
  obtain ⟨hi5, hf⟩ := sr_bk_e hf
  refine va_last hx hb hK G.1 G.2.1 G.2.2 7 1 rfl rfl hi5 d_L_vehicle_11 (fun H locs hP hD hS => ?_)
  have G : sr_G (dC, dI) A [(r_p0, .inr (7, [.ref q_p0_stations, .ref q_p0_vehicles, .ref q_p0_persons, .ref q_p0_needs, .ref q_p0_checks, .ref q_p0_keys])), (q_p0_stations, .inr (1, [.ref q_p0_stations_doors, .ref q_p0_stations_froms, .ref q_p0_stations_tos, .int v_p0_stations_count])), (q_p0_stations_doors, .inl (cI, n_p0_stations_doors, .inl F_p0_stations_doors)), (q_p0_vehicles, .inr (2, [.ref q_p0_vehicles_stationRow, .ref q_p0_vehicles_kinds, .ref q_p0_vehicles_crews, .ref q_p0_vehicles_outs, .ref q_p0_vehicles_standsFor, .ref q_p0_vehicles_spares, .int o1.2.2.1])), (q_p0_vehicles_stationRow, .inl (cI, n_p0_vehicles_stationRow, .inl o1.2.2.2.1)), (q_p0_vehicles_kinds, .inl (cI, n_p0_vehicles_kinds, .inl o1.2.2.2.2.1)), (q_p0_vehicles_crews, .inl (cI, n_p0_vehicles_crews, .inl o1.2.2.2.2.2)), (r_p4, .inl (cJ, n_p4, .inr (.inl (vp_updL F_p4 (0 : Int32).toNatClampNeg ((o1.2.1 : Int32).toInt64)))))] s H locs := ⟨hP, hD, hS⟩
  refine lv_goto (tgt := 27) hx hb d_L_vehicle_12 (by decide) ?_
  refine lv_iconst (v := 0) hx hb d_L_vehicle_27 (by decide) ?_
  cases hf
  exact sr_retW (by decide) (by decide) (sr_iret hx hb hr hlocks hK G d_L_vehicle_28)
/-! StationRowsLaw.out(LStationRows;III)I -/
abbrev rm_L_out : Room := { frames := 10, cells := 1, slots := 6, locals := 168 }
def f_L_out (n : Nat) (n_p0_vehicles_outs_counts n_p0_vehicles_outs_froms n_p0_vehicles_outs_tos : Nat) (v_p0_vehicles_count : Int32) (v_p0_vehicles_outs_most : Int32) (F_p0_vehicles_outs_counts : Nat → Int32) (F_p0_vehicles_outs_froms : Nat → Int32) (F_p0_vehicles_outs_tos : Nat → Int32) (x1 x2 x3 : Int32) : Option (Int32 × (Nat → Int32) × (Nat → Int32) × (Nat → Int32)) :=
    (sr_bd (f_S_out n n_p0_vehicles_outs_counts n_p0_vehicles_outs_froms n_p0_vehicles_outs_tos v_p0_vehicles_count v_p0_vehicles_outs_most F_p0_vehicles_outs_counts F_p0_vehicles_outs_froms F_p0_vehicles_outs_tos x1 x2 x3) fun o1 =>
    (if o1.1 = 0 then
    (some (0, o1.2.1, o1.2.2.1, o1.2.2.2))
    else
    (if o1.1 = 1 then
    (some (1, o1.2.1, o1.2.2.1, o1.2.2.2))
    else
    (if o1.1 = 2 then
    (some (2, o1.2.1, o1.2.2.1, o1.2.2.2))
    else
    (if o1.1 = 3 then
    (some (3, o1.2.1, o1.2.2.1, o1.2.2.2))
    else
    (if o1.1 = 4 then
    (some (4, o1.2.1, o1.2.2.1, o1.2.2.2))
    else
    none))))))
set_option maxHeartbeats 4000000 in
set_option maxRecDepth 100000 in
theorem c_L_out (l : Launch) (hfl : l.flags = flags0) (dC : Nat → ClassId) (dI : Nat → Nat → Nat) (cI cJ cZ : ClassId) (r_p0 q_p0_stations q_p0_vehicles q_p0_persons q_p0_needs q_p0_checks q_p0_keys q_p0_vehicles_stationRow q_p0_vehicles_kinds q_p0_vehicles_crews q_p0_vehicles_outs q_p0_vehicles_standsFor q_p0_vehicles_spares q_p0_vehicles_outs_counts q_p0_vehicles_outs_froms q_p0_vehicles_outs_tos : Nat) (n_p0_vehicles_outs_counts n_p0_vehicles_outs_froms n_p0_vehicles_outs_tos : Nat) (v_p0_vehicles_count : Int32) (v_p0_vehicles_outs_most : Int32) (F_p0_vehicles_outs_counts : Nat → Int32) (F_p0_vehicles_outs_froms : Nat → Int32) (F_p0_vehicles_outs_tos : Nat → Int32) (x1 x2 x3 : Int32) (n : Nat) (o : Int32 × (Nat → Int32) × (Nat → Int32) × (Nat → Int32)) (hf : f_L_out n n_p0_vehicles_outs_counts n_p0_vehicles_outs_froms n_p0_vehicles_outs_tos v_p0_vehicles_count v_p0_vehicles_outs_most F_p0_vehicles_outs_counts F_p0_vehicles_outs_froms F_p0_vehicles_outs_tos x1 x2 x3 = some o) : sr_Wt l y_L_out (sr_WH y_L_out b_L_out 5 (some .int) hs_L_out) rm_L_out (dC, dI) (sr_ty cI cJ cZ) [.ref r_p0, .int x1, .int x2, .int x3] [(r_p0, .inr (7, [.ref q_p0_stations, .ref q_p0_vehicles, .ref q_p0_persons, .ref q_p0_needs, .ref q_p0_checks, .ref q_p0_keys])), (q_p0_vehicles, .inr (2, [.ref q_p0_vehicles_stationRow, .ref q_p0_vehicles_kinds, .ref q_p0_vehicles_crews, .ref q_p0_vehicles_outs, .ref q_p0_vehicles_standsFor, .ref q_p0_vehicles_spares, .int v_p0_vehicles_count])), (q_p0_vehicles_outs, .inr (0, [.int v_p0_vehicles_outs_most, .ref q_p0_vehicles_outs_counts, .ref q_p0_vehicles_outs_froms, .ref q_p0_vehicles_outs_tos])), (q_p0_vehicles_outs_counts, .inl (cI, n_p0_vehicles_outs_counts, .inl F_p0_vehicles_outs_counts)), (q_p0_vehicles_outs_froms, .inl (cI, n_p0_vehicles_outs_froms, .inl F_p0_vehicles_outs_froms)), (q_p0_vehicles_outs_tos, .inl (cI, n_p0_vehicles_outs_tos, .inl F_p0_vehicles_outs_tos))] (some (.int o.1)) [(r_p0, .inr (7, [.ref q_p0_stations, .ref q_p0_vehicles, .ref q_p0_persons, .ref q_p0_needs, .ref q_p0_checks, .ref q_p0_keys])), (q_p0_vehicles, .inr (2, [.ref q_p0_vehicles_stationRow, .ref q_p0_vehicles_kinds, .ref q_p0_vehicles_crews, .ref q_p0_vehicles_outs, .ref q_p0_vehicles_standsFor, .ref q_p0_vehicles_spares, .int v_p0_vehicles_count])), (q_p0_vehicles_outs, .inr (0, [.int v_p0_vehicles_outs_most, .ref q_p0_vehicles_outs_counts, .ref q_p0_vehicles_outs_froms, .ref q_p0_vehicles_outs_tos])), (q_p0_vehicles_outs_counts, .inl (cI, n_p0_vehicles_outs_counts, .inl o.2.1)), (q_p0_vehicles_outs_froms, .inl (cI, n_p0_vehicles_outs_froms, .inl o.2.2.1)), (q_p0_vehicles_outs_tos, .inl (cI, n_p0_vehicles_outs_tos, .inl o.2.2.2))] := by
  refine sr_Wt.of (cc := b_L_out) (maxL := 5) (ret := (some .int)) (hs := hs_L_out) (by decide) rfl (Nat.le_of_ble_eq_true rfl) ?_
  intro p e s m below meth c A ls C0 hes hA hK hz G hl
  obtain ⟨hx, hb, hml, hr, hown, hts, hlocks, hnm⟩ := id C0
  generalize hargs : ([.ref r_p0, .int x1, .int x2, .int x3] : List Value).toArray = args at C0 hts ⊢
  have hws := sr_hwsH hts
  replace hl : lv_has ls 5 [(0, .ref r_p0), (1, .int x1), (2, .int x2), (3, .int x3)] := hl
  replace hf : (sr_bd (f_S_out n n_p0_vehicles_outs_counts n_p0_vehicles_outs_froms n_p0_vehicles_outs_tos v_p0_vehicles_count v_p0_vehicles_outs_most F_p0_vehicles_outs_counts F_p0_vehicles_outs_froms F_p0_vehicles_outs_tos x1 x2 x3) fun o1 =>
    (if o1.1 = 0 then
    (some (0, o1.2.1, o1.2.2.1, o1.2.2.2))
    else
    (if o1.1 = 1 then
    (some (1, o1.2.1, o1.2.2.1, o1.2.2.2))
    else
    (if o1.1 = 2 then
    (some (2, o1.2.1, o1.2.2.1, o1.2.2.2))
    else
    (if o1.1 = 3 then
    (some (3, o1.2.1, o1.2.2.1, o1.2.2.2))
    else
    (if o1.1 = 4 then
    (some (4, o1.2.1, o1.2.2.1, o1.2.2.2))
    else
    none)))))) = some o := hf
  refine lv_aload_n hx hb d_L_out_0 rfl (lv_at hl 0 rfl) ?_
  refine lv_iload_n hx hb d_L_out_1 rfl (lv_at hl 1 rfl) ?_
  refine lv_iload_n hx hb d_L_out_2 rfl (lv_at hl 2 rfl) ?_
  refine lv_iload_n hx hb d_L_out_3 rfl (lv_at hl 3 rfl) ?_
  obtain ⟨o1, ho1, hf⟩ := sr_bd_e hf
  refine sr_callTV (ci := 7) (vc := ("StationRows", zf_S, 6)) (wr := []) (ws1 := [(r_p0, .inr (7, [.ref q_p0_stations, .ref q_p0_vehicles, .ref q_p0_persons, .ref q_p0_needs, .ref q_p0_checks, .ref q_p0_keys])), (q_p0_vehicles, .inr (2, [.ref q_p0_vehicles_stationRow, .ref q_p0_vehicles_kinds, .ref q_p0_vehicles_crews, .ref q_p0_vehicles_outs, .ref q_p0_vehicles_standsFor, .ref q_p0_vehicles_spares, .int v_p0_vehicles_count])), (q_p0_vehicles_outs, .inr (0, [.int v_p0_vehicles_outs_most, .ref q_p0_vehicles_outs_counts, .ref q_p0_vehicles_outs_froms, .ref q_p0_vehicles_outs_tos])), (q_p0_vehicles_outs_counts, .inl (cI, n_p0_vehicles_outs_counts, .inl o1.2.1)), (q_p0_vehicles_outs_froms, .inl (cI, n_p0_vehicles_outs_froms, .inl o1.2.2.1)), (q_p0_vehicles_outs_tos, .inl (cI, n_p0_vehicles_outs_tos, .inl o1.2.2.2))]) (rest := []) (st1 := []) ⟨hx, hb, hml, hown, hts⟩ (c_S_out l hfl dC dI cI cJ cZ r_p0 q_p0_stations q_p0_vehicles q_p0_persons q_p0_needs q_p0_checks q_p0_keys q_p0_vehicles_stationRow q_p0_vehicles_kinds q_p0_vehicles_crews q_p0_vehicles_outs q_p0_vehicles_standsFor q_p0_vehicles_spares q_p0_vehicles_outs_counts q_p0_vehicles_outs_froms q_p0_vehicles_outs_tos n_p0_vehicles_outs_counts n_p0_vehicles_outs_froms n_p0_vehicles_outs_tos v_p0_vehicles_count v_p0_vehicles_outs_most F_p0_vehicles_outs_counts F_p0_vehicles_outs_froms F_p0_vehicles_outs_tos x1 x2 x3 n o1 ho1) ⟨(sr_cB 3 hws k_405 k_26 k_402 (by decide +kernel) ⟨Nat.le_of_ble_eq_true rfl, Nat.le_of_ble_eq_true rfl⟩), hws _ k_403, hws _ k_404⟩ hK hz G hA [0, 1, 2, 3, 4, 5] [] [0, 1, 2, 3, 4, 5] rfl (by decide) rfl (by decide) (by decide) rfl (by decide) 0 rfl rfl rfl hl.1 rfl (Nat.le_of_ble_eq_true rfl) d_L_out_4 ⟨Nat.le_of_ble_eq_true rfl, Nat.le_of_ble_eq_true rfl⟩ rfl (fun C hC x H locs G hsz hxo => ?_) (fun hz0 H locs G => ?_)
  · replace hf := (if_neg (sr_nz hC)).symm.trans hf
    by_cases c2 : o1.1 = 1
    · replace hf := (if_pos c2).symm.trans hf
      have hC2 := sr_ocC c2 hC
      cases hC2
      refine sr_WT.catch (own := "StationRowsLaw") (hn := [(10, "java/lang/IllegalArgumentException"), (14, "java/lang/IndexOutOfBoundsException"), (18, "java/lang/IllegalStateException"), (22, "java/lang/UnsupportedOperationException")]) (pcH := 10) hown hxo (hz.2.2.1 _ sr_c1) (by rw [hes]; exact ⟨⟨by decide, by decide, rfl, hws _ k_358, Or.inl rfl⟩, ⟨by decide, by decide, rfl, hws _ k_234, Or.inr (hz.2.2.2.2 ("java/lang/IllegalArgumentException", "java/lang/IndexOutOfBoundsException") (by decide))⟩, ⟨by decide, by decide, rfl, hws _ k_401, Or.inr (hz.2.2.2.2 ("java/lang/IllegalArgumentException", "java/lang/IllegalStateException") (by decide))⟩, ⟨by decide, by decide, rfl, hws _ k_235, Or.inr (hz.2.2.2.2 ("java/lang/IllegalArgumentException", "java/lang/UnsupportedOperationException") (by decide))⟩, trivial⟩) rfl ?_
      refine lv_astore (lv' := [(4, .ref x), (0, .ref r_p0), (1, .int x1), (2, .int x2), (3, .int x3)]) hx hb d_L_out_10 hl (by decide) rfl (fun ls hl => ?_)
      refine lv_iconst (v := 1) hx hb d_L_out_12 (by decide) ?_
      cases hf
      exact sr_retW (by decide) (by decide) (sr_iret hx hb hr hlocks hK G d_L_out_13)
    replace hf := (if_neg c2).symm.trans hf
    by_cases c3 : o1.1 = 2
    · replace hf := (if_pos c3).symm.trans hf
      have hC2 := sr_ocC c3 hC
      cases hC2
      refine sr_WT.catch (own := "StationRowsLaw") (hn := [(10, "java/lang/IllegalArgumentException"), (14, "java/lang/IndexOutOfBoundsException"), (18, "java/lang/IllegalStateException"), (22, "java/lang/UnsupportedOperationException")]) (pcH := 14) hown hxo (hz.2.2.1 _ sr_c2) (by rw [hes]; exact ⟨⟨by decide, by decide, rfl, hws _ k_358, Or.inr (hz.2.2.2.2 ("java/lang/IndexOutOfBoundsException", "java/lang/IllegalArgumentException") (by decide))⟩, ⟨by decide, by decide, rfl, hws _ k_234, Or.inl rfl⟩, ⟨by decide, by decide, rfl, hws _ k_401, Or.inr (hz.2.2.2.2 ("java/lang/IndexOutOfBoundsException", "java/lang/IllegalStateException") (by decide))⟩, ⟨by decide, by decide, rfl, hws _ k_235, Or.inr (hz.2.2.2.2 ("java/lang/IndexOutOfBoundsException", "java/lang/UnsupportedOperationException") (by decide))⟩, trivial⟩) rfl ?_
      refine lv_astore (lv' := [(4, .ref x), (0, .ref r_p0), (1, .int x1), (2, .int x2), (3, .int x3)]) hx hb d_L_out_14 hl (by decide) rfl (fun ls hl => ?_)
      refine lv_iconst (v := 2) hx hb d_L_out_16 (by decide) ?_
      cases hf
      exact sr_retW (by decide) (by decide) (sr_iret hx hb hr hlocks hK G d_L_out_17)
    replace hf := (if_neg c3).symm.trans hf
    by_cases c4 : o1.1 = 3
    · replace hf := (if_pos c4).symm.trans hf
      have hC2 := sr_ocC c4 hC
      cases hC2
      refine sr_WT.catch (own := "StationRowsLaw") (hn := [(10, "java/lang/IllegalArgumentException"), (14, "java/lang/IndexOutOfBoundsException"), (18, "java/lang/IllegalStateException"), (22, "java/lang/UnsupportedOperationException")]) (pcH := 18) hown hxo (hz.2.2.1 _ sr_c3) (by rw [hes]; exact ⟨⟨by decide, by decide, rfl, hws _ k_358, Or.inr (hz.2.2.2.2 ("java/lang/IllegalStateException", "java/lang/IllegalArgumentException") (by decide))⟩, ⟨by decide, by decide, rfl, hws _ k_234, Or.inr (hz.2.2.2.2 ("java/lang/IllegalStateException", "java/lang/IndexOutOfBoundsException") (by decide))⟩, ⟨by decide, by decide, rfl, hws _ k_401, Or.inl rfl⟩, ⟨by decide, by decide, rfl, hws _ k_235, Or.inr (hz.2.2.2.2 ("java/lang/IllegalStateException", "java/lang/UnsupportedOperationException") (by decide))⟩, trivial⟩) rfl ?_
      refine lv_astore (lv' := [(4, .ref x), (0, .ref r_p0), (1, .int x1), (2, .int x2), (3, .int x3)]) hx hb d_L_out_18 hl (by decide) rfl (fun ls hl => ?_)
      refine lv_iconst (v := 3) hx hb d_L_out_20 (by decide) ?_
      cases hf
      exact sr_retW (by decide) (by decide) (sr_iret hx hb hr hlocks hK G d_L_out_21)
    replace hf := (if_neg c4).symm.trans hf
    by_cases c5 : o1.1 = 4
    · replace hf := (if_pos c5).symm.trans hf
      have hC2 := sr_ocC c5 hC
      cases hC2
      refine sr_WT.catch (own := "StationRowsLaw") (hn := [(10, "java/lang/IllegalArgumentException"), (14, "java/lang/IndexOutOfBoundsException"), (18, "java/lang/IllegalStateException"), (22, "java/lang/UnsupportedOperationException")]) (pcH := 22) hown hxo (hz.2.2.1 _ sr_c4) (by rw [hes]; exact ⟨⟨by decide, by decide, rfl, hws _ k_358, Or.inr (hz.2.2.2.2 ("java/lang/UnsupportedOperationException", "java/lang/IllegalArgumentException") (by decide))⟩, ⟨by decide, by decide, rfl, hws _ k_234, Or.inr (hz.2.2.2.2 ("java/lang/UnsupportedOperationException", "java/lang/IndexOutOfBoundsException") (by decide))⟩, ⟨by decide, by decide, rfl, hws _ k_401, Or.inr (hz.2.2.2.2 ("java/lang/UnsupportedOperationException", "java/lang/IllegalStateException") (by decide))⟩, ⟨by decide, by decide, rfl, hws _ k_235, Or.inl rfl⟩, trivial⟩) rfl ?_
      refine lv_astore (lv' := [(4, .ref x), (0, .ref r_p0), (1, .int x1), (2, .int x2), (3, .int x3)]) hx hb d_L_out_22 hl (by decide) rfl (fun ls hl => ?_)
      refine lv_iconst (v := 4) hx hb d_L_out_24 (by decide) ?_
      cases hf
      exact sr_retW (by decide) (by decide) (sr_iret hx hb hr hlocks hK G d_L_out_25)
    replace hf := (if_neg c5).symm.trans hf
    exact sr_no hf
  replace hf := (if_pos hz0).symm.trans hf
  refine lv_goto (tgt := 26) hx hb d_L_out_7 (by decide) ?_
  refine lv_iconst (v := 0) hx hb d_L_out_26 (by decide) ?_
  cases hf
  exact sr_retW (by decide) (by decide) (sr_iret hx hb hr hlocks hK G d_L_out_27)
/-! StationRowsLaw.person(LStationRows;II[J)I -/
abbrev rm_L_person : Room := { frames := 8, cells := 1, slots := 6, locals := 126 }
def f_L_person (n_p0_persons_homes n_p0_persons_distances n_p3 : Nat) (v_p0_stations_count : Int32) (v_p0_persons_count : Int32) (F_p0_persons_homes : Nat → Int32) (F_p0_persons_distances : Nat → Int32) (F_p3 : Nat → Int64) (x1 x2 : Int32) : Option (Int32 × Int32 × (Nat → Int32) × (Nat → Int32) × (Nat → Int64)) :=
    (sr_bd (f_S_person n_p0_persons_homes n_p0_persons_distances v_p0_stations_count v_p0_persons_count F_p0_persons_homes F_p0_persons_distances x1 x2) fun o1 =>
    (if o1.1 = 0 then
    (sr_bk 0 n_p3
    (some (0, o1.2.2.1, o1.2.2.2.1, o1.2.2.2.2, (vp_updL F_p3 (0 : Int32).toNatClampNeg ((o1.2.1 : Int32).toInt64)))))
    else
    (if o1.1 = 1 then
    (some (1, o1.2.2.1, o1.2.2.2.1, o1.2.2.2.2, F_p3))
    else
    (if o1.1 = 2 then
    (some (2, o1.2.2.1, o1.2.2.2.1, o1.2.2.2.2, F_p3))
    else
    (if o1.1 = 4 then
    (some (3, o1.2.2.1, o1.2.2.2.1, o1.2.2.2.2, F_p3))
    else
    none)))))
set_option maxHeartbeats 4000000 in
set_option maxRecDepth 100000 in
theorem c_L_person (l : Launch) (hfl : l.flags = flags0) (dC : Nat → ClassId) (dI : Nat → Nat → Nat) (cI cJ cZ : ClassId) (r_p0 r_p3 q_p0_stations q_p0_vehicles q_p0_persons q_p0_needs q_p0_checks q_p0_keys q_p0_stations_doors q_p0_stations_froms q_p0_stations_tos q_p0_persons_homes q_p0_persons_distances q_p0_persons_duties q_p0_persons_moves q_p0_persons_moveStations q_p0_persons_row : Nat) (n_p0_persons_homes n_p0_persons_distances n_p3 : Nat) (v_p0_stations_count : Int32) (v_p0_persons_rowLength : Int32) (v_p0_persons_count : Int32) (v_p0_persons_distanceLimit : Int32) (F_p0_persons_homes : Nat → Int32) (F_p0_persons_distances : Nat → Int32) (F_p3 : Nat → Int64) (x1 x2 : Int32)  (o : Int32 × Int32 × (Nat → Int32) × (Nat → Int32) × (Nat → Int64)) (hf : f_L_person n_p0_persons_homes n_p0_persons_distances n_p3 v_p0_stations_count v_p0_persons_count F_p0_persons_homes F_p0_persons_distances F_p3 x1 x2 = some o) : sr_Wt l y_L_person (sr_WH y_L_person b_L_person 5 (some .int) hs_L_person) rm_L_person (dC, dI) (sr_ty cI cJ cZ) [.ref r_p0, .int x1, .int x2, .ref r_p3] [(r_p0, .inr (7, [.ref q_p0_stations, .ref q_p0_vehicles, .ref q_p0_persons, .ref q_p0_needs, .ref q_p0_checks, .ref q_p0_keys])), (q_p0_stations, .inr (1, [.ref q_p0_stations_doors, .ref q_p0_stations_froms, .ref q_p0_stations_tos, .int v_p0_stations_count])), (q_p0_persons, .inr (3, [.ref q_p0_persons_homes, .ref q_p0_persons_distances, .ref q_p0_persons_duties, .ref q_p0_persons_moves, .ref q_p0_persons_moveStations, .ref q_p0_persons_row, .int v_p0_persons_rowLength, .int v_p0_persons_count, .int v_p0_persons_distanceLimit])), (q_p0_persons_homes, .inl (cI, n_p0_persons_homes, .inl F_p0_persons_homes)), (q_p0_persons_distances, .inl (cI, n_p0_persons_distances, .inl F_p0_persons_distances)), (r_p3, .inl (cJ, n_p3, .inr (.inl F_p3)))] (some (.int o.1)) [(r_p0, .inr (7, [.ref q_p0_stations, .ref q_p0_vehicles, .ref q_p0_persons, .ref q_p0_needs, .ref q_p0_checks, .ref q_p0_keys])), (q_p0_stations, .inr (1, [.ref q_p0_stations_doors, .ref q_p0_stations_froms, .ref q_p0_stations_tos, .int v_p0_stations_count])), (q_p0_persons, .inr (3, [.ref q_p0_persons_homes, .ref q_p0_persons_distances, .ref q_p0_persons_duties, .ref q_p0_persons_moves, .ref q_p0_persons_moveStations, .ref q_p0_persons_row, .int v_p0_persons_rowLength, .int o.2.1, .int v_p0_persons_distanceLimit])), (q_p0_persons_homes, .inl (cI, n_p0_persons_homes, .inl o.2.2.1)), (q_p0_persons_distances, .inl (cI, n_p0_persons_distances, .inl o.2.2.2.1)), (r_p3, .inl (cJ, n_p3, .inr (.inl o.2.2.2.2)))] := by
  refine sr_Wt.of (cc := b_L_person) (maxL := 5) (ret := (some .int)) (hs := hs_L_person) (by decide) rfl (Nat.le_of_ble_eq_true rfl) ?_
  intro p e s m below meth c A ls C0 hes hA hK hz G hl
  obtain ⟨hx, hb, hml, hr, hown, hts, hlocks, hnm⟩ := id C0
  generalize hargs : ([.ref r_p0, .int x1, .int x2, .ref r_p3] : List Value).toArray = args at C0 hts ⊢
  have hws := sr_hwsH hts
  replace hl : lv_has ls 5 [(0, .ref r_p0), (1, .int x1), (2, .int x2), (3, .ref r_p3)] := hl
  replace hf : (sr_bd (f_S_person n_p0_persons_homes n_p0_persons_distances v_p0_stations_count v_p0_persons_count F_p0_persons_homes F_p0_persons_distances x1 x2) fun o1 =>
    (if o1.1 = 0 then
    (sr_bk 0 n_p3
    (some (0, o1.2.2.1, o1.2.2.2.1, o1.2.2.2.2, (vp_updL F_p3 (0 : Int32).toNatClampNeg ((o1.2.1 : Int32).toInt64)))))
    else
    (if o1.1 = 1 then
    (some (1, o1.2.2.1, o1.2.2.2.1, o1.2.2.2.2, F_p3))
    else
    (if o1.1 = 2 then
    (some (2, o1.2.2.1, o1.2.2.2.1, o1.2.2.2.2, F_p3))
    else
    (if o1.1 = 4 then
    (some (3, o1.2.2.1, o1.2.2.2.1, o1.2.2.2.2, F_p3))
    else
    none))))) = some o := hf
  refine lv_aload_n hx hb d_L_person_0 rfl (lv_at hl 3 rfl) ?_
  refine lv_iconst (v := 0) hx hb d_L_person_1 (by decide) ?_
  refine lv_aload_n hx hb d_L_person_2 rfl (lv_at hl 0 rfl) ?_
  refine lv_iload_n hx hb d_L_person_3 rfl (lv_at hl 1 rfl) ?_
  refine lv_iload_n hx hb d_L_person_4 rfl (lv_at hl 2 rfl) ?_
  obtain ⟨o1, ho1, hf⟩ := sr_bd_e hf
  refine sr_callTV (ci := 7) (vc := ("StationRows", zf_S, 6)) (wr := [(r_p3, .inl (cJ, n_p3, .inr (.inl F_p3)))]) (ws1 := [(r_p0, .inr (7, [.ref q_p0_stations, .ref q_p0_vehicles, .ref q_p0_persons, .ref q_p0_needs, .ref q_p0_checks, .ref q_p0_keys])), (q_p0_stations, .inr (1, [.ref q_p0_stations_doors, .ref q_p0_stations_froms, .ref q_p0_stations_tos, .int v_p0_stations_count])), (q_p0_persons, .inr (3, [.ref q_p0_persons_homes, .ref q_p0_persons_distances, .ref q_p0_persons_duties, .ref q_p0_persons_moves, .ref q_p0_persons_moveStations, .ref q_p0_persons_row, .int v_p0_persons_rowLength, .int o1.2.2.1, .int v_p0_persons_distanceLimit])), (q_p0_persons_homes, .inl (cI, n_p0_persons_homes, .inl o1.2.2.2.1)), (q_p0_persons_distances, .inl (cI, n_p0_persons_distances, .inl o1.2.2.2.2)), (r_p3, .inl (cJ, n_p3, .inr (.inl F_p3)))]) (rest := [.int 0, .ref r_p3]) (st1 := [.int o1.2.1, .int 0, .ref r_p3]) ⟨hx, hb, hml, hown, hts⟩ (c_S_person l hfl dC dI cI cJ cZ r_p0 q_p0_stations q_p0_vehicles q_p0_persons q_p0_needs q_p0_checks q_p0_keys q_p0_stations_doors q_p0_stations_froms q_p0_stations_tos q_p0_persons_homes q_p0_persons_distances q_p0_persons_duties q_p0_persons_moves q_p0_persons_moveStations q_p0_persons_row n_p0_persons_homes n_p0_persons_distances v_p0_stations_count v_p0_persons_rowLength v_p0_persons_count v_p0_persons_distanceLimit F_p0_persons_homes F_p0_persons_distances x1 x2 o1 ho1) ⟨(sr_cB 2 hws k_450 k_26 k_447 (by decide +kernel) ⟨Nat.le_of_ble_eq_true rfl, Nat.le_of_ble_eq_true rfl⟩), hws _ k_448, hws _ k_449⟩ hK hz G hA [0, 1, 2, 3, 4] [5] [1, 2, 3, 4, 5, 0] rfl (by decide) rfl (by decide) (by decide) rfl (by decide) 0 rfl rfl rfl hl.1 rfl (Nat.le_of_ble_eq_true rfl) d_L_person_5 ⟨Nat.le_of_ble_eq_true rfl, Nat.le_of_ble_eq_true rfl⟩ rfl (fun C hC x H locs G hsz hxo => ?_) (fun hz0 H locs G => ?_)
  · replace hf := (if_neg (sr_nz hC)).symm.trans hf
    by_cases c2 : o1.1 = 1
    · replace hf := (if_pos c2).symm.trans hf
      have hC2 := sr_ocC c2 hC
      cases hC2
      refine sr_WT.catch (own := "StationRowsLaw") (hn := [(13, "java/lang/IllegalArgumentException"), (17, "java/lang/IndexOutOfBoundsException"), (21, "java/lang/UnsupportedOperationException")]) (pcH := 13) hown hxo (hz.2.2.1 _ sr_c1) (by rw [hes]; exact ⟨⟨by decide, by decide, rfl, hws _ k_358, Or.inl rfl⟩, ⟨by decide, by decide, rfl, hws _ k_234, Or.inr (hz.2.2.2.2 ("java/lang/IllegalArgumentException", "java/lang/IndexOutOfBoundsException") (by decide))⟩, ⟨by decide, by decide, rfl, hws _ k_235, Or.inr (hz.2.2.2.2 ("java/lang/IllegalArgumentException", "java/lang/UnsupportedOperationException") (by decide))⟩, trivial⟩) rfl ?_
      refine lv_astore (lv' := [(4, .ref x), (0, .ref r_p0), (1, .int x1), (2, .int x2), (3, .ref r_p3)]) hx hb d_L_person_13 hl (by decide) rfl (fun ls hl => ?_)
      refine lv_iconst (v := 1) hx hb d_L_person_15 (by decide) ?_
      cases hf
      exact sr_retW (by decide) (by decide) (sr_iret hx hb hr hlocks hK G d_L_person_16)
    replace hf := (if_neg c2).symm.trans hf
    by_cases c3 : o1.1 = 2
    · replace hf := (if_pos c3).symm.trans hf
      have hC2 := sr_ocC c3 hC
      cases hC2
      refine sr_WT.catch (own := "StationRowsLaw") (hn := [(13, "java/lang/IllegalArgumentException"), (17, "java/lang/IndexOutOfBoundsException"), (21, "java/lang/UnsupportedOperationException")]) (pcH := 17) hown hxo (hz.2.2.1 _ sr_c2) (by rw [hes]; exact ⟨⟨by decide, by decide, rfl, hws _ k_358, Or.inr (hz.2.2.2.2 ("java/lang/IndexOutOfBoundsException", "java/lang/IllegalArgumentException") (by decide))⟩, ⟨by decide, by decide, rfl, hws _ k_234, Or.inl rfl⟩, ⟨by decide, by decide, rfl, hws _ k_235, Or.inr (hz.2.2.2.2 ("java/lang/IndexOutOfBoundsException", "java/lang/UnsupportedOperationException") (by decide))⟩, trivial⟩) rfl ?_
      refine lv_astore (lv' := [(4, .ref x), (0, .ref r_p0), (1, .int x1), (2, .int x2), (3, .ref r_p3)]) hx hb d_L_person_17 hl (by decide) rfl (fun ls hl => ?_)
      refine lv_iconst (v := 2) hx hb d_L_person_19 (by decide) ?_
      cases hf
      exact sr_retW (by decide) (by decide) (sr_iret hx hb hr hlocks hK G d_L_person_20)
    replace hf := (if_neg c3).symm.trans hf
    by_cases c4 : o1.1 = 4
    · replace hf := (if_pos c4).symm.trans hf
      have hC2 := sr_ocC c4 hC
      cases hC2
      refine sr_WT.catch (own := "StationRowsLaw") (hn := [(13, "java/lang/IllegalArgumentException"), (17, "java/lang/IndexOutOfBoundsException"), (21, "java/lang/UnsupportedOperationException")]) (pcH := 21) hown hxo (hz.2.2.1 _ sr_c4) (by rw [hes]; exact ⟨⟨by decide, by decide, rfl, hws _ k_358, Or.inr (hz.2.2.2.2 ("java/lang/UnsupportedOperationException", "java/lang/IllegalArgumentException") (by decide))⟩, ⟨by decide, by decide, rfl, hws _ k_234, Or.inr (hz.2.2.2.2 ("java/lang/UnsupportedOperationException", "java/lang/IndexOutOfBoundsException") (by decide))⟩, ⟨by decide, by decide, rfl, hws _ k_235, Or.inl rfl⟩, trivial⟩) rfl ?_
      refine lv_astore (lv' := [(4, .ref x), (0, .ref r_p0), (1, .int x1), (2, .int x2), (3, .ref r_p3)]) hx hb d_L_person_21 hl (by decide) rfl (fun ls hl => ?_)
      refine lv_iconst (v := 3) hx hb d_L_person_23 (by decide) ?_
      cases hf
      exact sr_retW (by decide) (by decide) (sr_iret hx hb hr hlocks hK G d_L_person_24)
    replace hf := (if_neg c4).symm.trans hf
    exact sr_no hf
  replace hf := (if_pos hz0).symm.trans hf
  refine lv_i2l hx hb d_L_person_8 rfl ?_
  obtain ⟨hi5, hf⟩ := sr_bk_e hf
  refine va_last hx hb hK G.1 G.2.1 G.2.2 5 1 rfl rfl hi5 d_L_person_9 (fun H locs hP hD hS => ?_)
  have G : sr_G (dC, dI) A [(r_p0, .inr (7, [.ref q_p0_stations, .ref q_p0_vehicles, .ref q_p0_persons, .ref q_p0_needs, .ref q_p0_checks, .ref q_p0_keys])), (q_p0_stations, .inr (1, [.ref q_p0_stations_doors, .ref q_p0_stations_froms, .ref q_p0_stations_tos, .int v_p0_stations_count])), (q_p0_persons, .inr (3, [.ref q_p0_persons_homes, .ref q_p0_persons_distances, .ref q_p0_persons_duties, .ref q_p0_persons_moves, .ref q_p0_persons_moveStations, .ref q_p0_persons_row, .int v_p0_persons_rowLength, .int o1.2.2.1, .int v_p0_persons_distanceLimit])), (q_p0_persons_homes, .inl (cI, n_p0_persons_homes, .inl o1.2.2.2.1)), (q_p0_persons_distances, .inl (cI, n_p0_persons_distances, .inl o1.2.2.2.2)), (r_p3, .inl (cJ, n_p3, .inr (.inl (vp_updL F_p3 (0 : Int32).toNatClampNeg ((o1.2.1 : Int32).toInt64)))))] s H locs := ⟨hP, hD, hS⟩
  refine lv_goto (tgt := 25) hx hb d_L_person_10 (by decide) ?_
  refine lv_iconst (v := 0) hx hb d_L_person_25 (by decide) ?_
  cases hf
  exact sr_retW (by decide) (by decide) (sr_iret hx hb hr hlocks hK G d_L_person_26)
/-! StationRowsLaw.duty(LStationRows;III)I -/
abbrev rm_L_duty : Room := { frames := 10, cells := 1, slots := 6, locals := 168 }
def f_L_duty (n : Nat) (n_p0_persons_duties_counts n_p0_persons_duties_froms n_p0_persons_duties_tos : Nat) (v_p0_persons_count : Int32) (v_p0_persons_duties_most : Int32) (F_p0_persons_duties_counts : Nat → Int32) (F_p0_persons_duties_froms : Nat → Int32) (F_p0_persons_duties_tos : Nat → Int32) (x1 x2 x3 : Int32) : Option (Int32 × (Nat → Int32) × (Nat → Int32) × (Nat → Int32)) :=
    (sr_bd (f_S_duty n n_p0_persons_duties_counts n_p0_persons_duties_froms n_p0_persons_duties_tos v_p0_persons_count v_p0_persons_duties_most F_p0_persons_duties_counts F_p0_persons_duties_froms F_p0_persons_duties_tos x1 x2 x3) fun o1 =>
    (if o1.1 = 0 then
    (some (0, o1.2.1, o1.2.2.1, o1.2.2.2))
    else
    (if o1.1 = 1 then
    (some (1, o1.2.1, o1.2.2.1, o1.2.2.2))
    else
    (if o1.1 = 2 then
    (some (2, o1.2.1, o1.2.2.1, o1.2.2.2))
    else
    (if o1.1 = 3 then
    (some (3, o1.2.1, o1.2.2.1, o1.2.2.2))
    else
    (if o1.1 = 4 then
    (some (4, o1.2.1, o1.2.2.1, o1.2.2.2))
    else
    none))))))
set_option maxHeartbeats 4000000 in
set_option maxRecDepth 100000 in
theorem c_L_duty (l : Launch) (hfl : l.flags = flags0) (dC : Nat → ClassId) (dI : Nat → Nat → Nat) (cI cJ cZ : ClassId) (r_p0 q_p0_stations q_p0_vehicles q_p0_persons q_p0_needs q_p0_checks q_p0_keys q_p0_persons_homes q_p0_persons_distances q_p0_persons_duties q_p0_persons_moves q_p0_persons_moveStations q_p0_persons_row q_p0_persons_duties_counts q_p0_persons_duties_froms q_p0_persons_duties_tos : Nat) (n_p0_persons_duties_counts n_p0_persons_duties_froms n_p0_persons_duties_tos : Nat) (v_p0_persons_rowLength : Int32) (v_p0_persons_count : Int32) (v_p0_persons_distanceLimit : Int32) (v_p0_persons_duties_most : Int32) (F_p0_persons_duties_counts : Nat → Int32) (F_p0_persons_duties_froms : Nat → Int32) (F_p0_persons_duties_tos : Nat → Int32) (x1 x2 x3 : Int32) (n : Nat) (o : Int32 × (Nat → Int32) × (Nat → Int32) × (Nat → Int32)) (hf : f_L_duty n n_p0_persons_duties_counts n_p0_persons_duties_froms n_p0_persons_duties_tos v_p0_persons_count v_p0_persons_duties_most F_p0_persons_duties_counts F_p0_persons_duties_froms F_p0_persons_duties_tos x1 x2 x3 = some o) : sr_Wt l y_L_duty (sr_WH y_L_duty b_L_duty 5 (some .int) hs_L_duty) rm_L_duty (dC, dI) (sr_ty cI cJ cZ) [.ref r_p0, .int x1, .int x2, .int x3] [(r_p0, .inr (7, [.ref q_p0_stations, .ref q_p0_vehicles, .ref q_p0_persons, .ref q_p0_needs, .ref q_p0_checks, .ref q_p0_keys])), (q_p0_persons, .inr (3, [.ref q_p0_persons_homes, .ref q_p0_persons_distances, .ref q_p0_persons_duties, .ref q_p0_persons_moves, .ref q_p0_persons_moveStations, .ref q_p0_persons_row, .int v_p0_persons_rowLength, .int v_p0_persons_count, .int v_p0_persons_distanceLimit])), (q_p0_persons_duties, .inr (0, [.int v_p0_persons_duties_most, .ref q_p0_persons_duties_counts, .ref q_p0_persons_duties_froms, .ref q_p0_persons_duties_tos])), (q_p0_persons_duties_counts, .inl (cI, n_p0_persons_duties_counts, .inl F_p0_persons_duties_counts)), (q_p0_persons_duties_froms, .inl (cI, n_p0_persons_duties_froms, .inl F_p0_persons_duties_froms)), (q_p0_persons_duties_tos, .inl (cI, n_p0_persons_duties_tos, .inl F_p0_persons_duties_tos))] (some (.int o.1)) [(r_p0, .inr (7, [.ref q_p0_stations, .ref q_p0_vehicles, .ref q_p0_persons, .ref q_p0_needs, .ref q_p0_checks, .ref q_p0_keys])), (q_p0_persons, .inr (3, [.ref q_p0_persons_homes, .ref q_p0_persons_distances, .ref q_p0_persons_duties, .ref q_p0_persons_moves, .ref q_p0_persons_moveStations, .ref q_p0_persons_row, .int v_p0_persons_rowLength, .int v_p0_persons_count, .int v_p0_persons_distanceLimit])), (q_p0_persons_duties, .inr (0, [.int v_p0_persons_duties_most, .ref q_p0_persons_duties_counts, .ref q_p0_persons_duties_froms, .ref q_p0_persons_duties_tos])), (q_p0_persons_duties_counts, .inl (cI, n_p0_persons_duties_counts, .inl o.2.1)), (q_p0_persons_duties_froms, .inl (cI, n_p0_persons_duties_froms, .inl o.2.2.1)), (q_p0_persons_duties_tos, .inl (cI, n_p0_persons_duties_tos, .inl o.2.2.2))] := by
  refine sr_Wt.of (cc := b_L_duty) (maxL := 5) (ret := (some .int)) (hs := hs_L_duty) (by decide) rfl (Nat.le_of_ble_eq_true rfl) ?_
  intro p e s m below meth c A ls C0 hes hA hK hz G hl
  obtain ⟨hx, hb, hml, hr, hown, hts, hlocks, hnm⟩ := id C0
  generalize hargs : ([.ref r_p0, .int x1, .int x2, .int x3] : List Value).toArray = args at C0 hts ⊢
  have hws := sr_hwsH hts
  replace hl : lv_has ls 5 [(0, .ref r_p0), (1, .int x1), (2, .int x2), (3, .int x3)] := hl
  replace hf : (sr_bd (f_S_duty n n_p0_persons_duties_counts n_p0_persons_duties_froms n_p0_persons_duties_tos v_p0_persons_count v_p0_persons_duties_most F_p0_persons_duties_counts F_p0_persons_duties_froms F_p0_persons_duties_tos x1 x2 x3) fun o1 =>
    (if o1.1 = 0 then
    (some (0, o1.2.1, o1.2.2.1, o1.2.2.2))
    else
    (if o1.1 = 1 then
    (some (1, o1.2.1, o1.2.2.1, o1.2.2.2))
    else
    (if o1.1 = 2 then
    (some (2, o1.2.1, o1.2.2.1, o1.2.2.2))
    else
    (if o1.1 = 3 then
    (some (3, o1.2.1, o1.2.2.1, o1.2.2.2))
    else
    (if o1.1 = 4 then
    (some (4, o1.2.1, o1.2.2.1, o1.2.2.2))
    else
    none)))))) = some o := hf
  refine lv_aload_n hx hb d_L_duty_0 rfl (lv_at hl 0 rfl) ?_
  refine lv_iload_n hx hb d_L_duty_1 rfl (lv_at hl 1 rfl) ?_
  refine lv_iload_n hx hb d_L_duty_2 rfl (lv_at hl 2 rfl) ?_
  refine lv_iload_n hx hb d_L_duty_3 rfl (lv_at hl 3 rfl) ?_
  obtain ⟨o1, ho1, hf⟩ := sr_bd_e hf
  refine sr_callTV (ci := 7) (vc := ("StationRows", zf_S, 6)) (wr := []) (ws1 := [(r_p0, .inr (7, [.ref q_p0_stations, .ref q_p0_vehicles, .ref q_p0_persons, .ref q_p0_needs, .ref q_p0_checks, .ref q_p0_keys])), (q_p0_persons, .inr (3, [.ref q_p0_persons_homes, .ref q_p0_persons_distances, .ref q_p0_persons_duties, .ref q_p0_persons_moves, .ref q_p0_persons_moveStations, .ref q_p0_persons_row, .int v_p0_persons_rowLength, .int v_p0_persons_count, .int v_p0_persons_distanceLimit])), (q_p0_persons_duties, .inr (0, [.int v_p0_persons_duties_most, .ref q_p0_persons_duties_counts, .ref q_p0_persons_duties_froms, .ref q_p0_persons_duties_tos])), (q_p0_persons_duties_counts, .inl (cI, n_p0_persons_duties_counts, .inl o1.2.1)), (q_p0_persons_duties_froms, .inl (cI, n_p0_persons_duties_froms, .inl o1.2.2.1)), (q_p0_persons_duties_tos, .inl (cI, n_p0_persons_duties_tos, .inl o1.2.2.2))]) (rest := []) (st1 := []) ⟨hx, hb, hml, hown, hts⟩ (c_S_duty l hfl dC dI cI cJ cZ r_p0 q_p0_stations q_p0_vehicles q_p0_persons q_p0_needs q_p0_checks q_p0_keys q_p0_persons_homes q_p0_persons_distances q_p0_persons_duties q_p0_persons_moves q_p0_persons_moveStations q_p0_persons_row q_p0_persons_duties_counts q_p0_persons_duties_froms q_p0_persons_duties_tos n_p0_persons_duties_counts n_p0_persons_duties_froms n_p0_persons_duties_tos v_p0_persons_rowLength v_p0_persons_count v_p0_persons_distanceLimit v_p0_persons_duties_most F_p0_persons_duties_counts F_p0_persons_duties_froms F_p0_persons_duties_tos x1 x2 x3 n o1 ho1) ⟨(sr_cB 3 hws k_465 k_26 k_462 (by decide +kernel) ⟨Nat.le_of_ble_eq_true rfl, Nat.le_of_ble_eq_true rfl⟩), hws _ k_463, hws _ k_464⟩ hK hz G hA [0, 1, 2, 3, 4, 5] [] [0, 1, 2, 3, 4, 5] rfl (by decide) rfl (by decide) (by decide) rfl (by decide) 0 rfl rfl rfl hl.1 rfl (Nat.le_of_ble_eq_true rfl) d_L_duty_4 ⟨Nat.le_of_ble_eq_true rfl, Nat.le_of_ble_eq_true rfl⟩ rfl (fun C hC x H locs G hsz hxo => ?_) (fun hz0 H locs G => ?_)
  · replace hf := (if_neg (sr_nz hC)).symm.trans hf
    by_cases c2 : o1.1 = 1
    · replace hf := (if_pos c2).symm.trans hf
      have hC2 := sr_ocC c2 hC
      cases hC2
      refine sr_WT.catch (own := "StationRowsLaw") (hn := [(10, "java/lang/IllegalArgumentException"), (14, "java/lang/IndexOutOfBoundsException"), (18, "java/lang/IllegalStateException"), (22, "java/lang/UnsupportedOperationException")]) (pcH := 10) hown hxo (hz.2.2.1 _ sr_c1) (by rw [hes]; exact ⟨⟨by decide, by decide, rfl, hws _ k_358, Or.inl rfl⟩, ⟨by decide, by decide, rfl, hws _ k_234, Or.inr (hz.2.2.2.2 ("java/lang/IllegalArgumentException", "java/lang/IndexOutOfBoundsException") (by decide))⟩, ⟨by decide, by decide, rfl, hws _ k_401, Or.inr (hz.2.2.2.2 ("java/lang/IllegalArgumentException", "java/lang/IllegalStateException") (by decide))⟩, ⟨by decide, by decide, rfl, hws _ k_235, Or.inr (hz.2.2.2.2 ("java/lang/IllegalArgumentException", "java/lang/UnsupportedOperationException") (by decide))⟩, trivial⟩) rfl ?_
      refine lv_astore (lv' := [(4, .ref x), (0, .ref r_p0), (1, .int x1), (2, .int x2), (3, .int x3)]) hx hb d_L_duty_10 hl (by decide) rfl (fun ls hl => ?_)
      refine lv_iconst (v := 1) hx hb d_L_duty_12 (by decide) ?_
      cases hf
      exact sr_retW (by decide) (by decide) (sr_iret hx hb hr hlocks hK G d_L_duty_13)
    replace hf := (if_neg c2).symm.trans hf
    by_cases c3 : o1.1 = 2
    · replace hf := (if_pos c3).symm.trans hf
      have hC2 := sr_ocC c3 hC
      cases hC2
      refine sr_WT.catch (own := "StationRowsLaw") (hn := [(10, "java/lang/IllegalArgumentException"), (14, "java/lang/IndexOutOfBoundsException"), (18, "java/lang/IllegalStateException"), (22, "java/lang/UnsupportedOperationException")]) (pcH := 14) hown hxo (hz.2.2.1 _ sr_c2) (by rw [hes]; exact ⟨⟨by decide, by decide, rfl, hws _ k_358, Or.inr (hz.2.2.2.2 ("java/lang/IndexOutOfBoundsException", "java/lang/IllegalArgumentException") (by decide))⟩, ⟨by decide, by decide, rfl, hws _ k_234, Or.inl rfl⟩, ⟨by decide, by decide, rfl, hws _ k_401, Or.inr (hz.2.2.2.2 ("java/lang/IndexOutOfBoundsException", "java/lang/IllegalStateException") (by decide))⟩, ⟨by decide, by decide, rfl, hws _ k_235, Or.inr (hz.2.2.2.2 ("java/lang/IndexOutOfBoundsException", "java/lang/UnsupportedOperationException") (by decide))⟩, trivial⟩) rfl ?_
      refine lv_astore (lv' := [(4, .ref x), (0, .ref r_p0), (1, .int x1), (2, .int x2), (3, .int x3)]) hx hb d_L_duty_14 hl (by decide) rfl (fun ls hl => ?_)
      refine lv_iconst (v := 2) hx hb d_L_duty_16 (by decide) ?_
      cases hf
      exact sr_retW (by decide) (by decide) (sr_iret hx hb hr hlocks hK G d_L_duty_17)
    replace hf := (if_neg c3).symm.trans hf
    by_cases c4 : o1.1 = 3
    · replace hf := (if_pos c4).symm.trans hf
      have hC2 := sr_ocC c4 hC
      cases hC2
      refine sr_WT.catch (own := "StationRowsLaw") (hn := [(10, "java/lang/IllegalArgumentException"), (14, "java/lang/IndexOutOfBoundsException"), (18, "java/lang/IllegalStateException"), (22, "java/lang/UnsupportedOperationException")]) (pcH := 18) hown hxo (hz.2.2.1 _ sr_c3) (by rw [hes]; exact ⟨⟨by decide, by decide, rfl, hws _ k_358, Or.inr (hz.2.2.2.2 ("java/lang/IllegalStateException", "java/lang/IllegalArgumentException") (by decide))⟩, ⟨by decide, by decide, rfl, hws _ k_234, Or.inr (hz.2.2.2.2 ("java/lang/IllegalStateException", "java/lang/IndexOutOfBoundsException") (by decide))⟩, ⟨by decide, by decide, rfl, hws _ k_401, Or.inl rfl⟩, ⟨by decide, by decide, rfl, hws _ k_235, Or.inr (hz.2.2.2.2 ("java/lang/IllegalStateException", "java/lang/UnsupportedOperationException") (by decide))⟩, trivial⟩) rfl ?_
      refine lv_astore (lv' := [(4, .ref x), (0, .ref r_p0), (1, .int x1), (2, .int x2), (3, .int x3)]) hx hb d_L_duty_18 hl (by decide) rfl (fun ls hl => ?_)
      refine lv_iconst (v := 3) hx hb d_L_duty_20 (by decide) ?_
      cases hf
      exact sr_retW (by decide) (by decide) (sr_iret hx hb hr hlocks hK G d_L_duty_21)
    replace hf := (if_neg c4).symm.trans hf
    by_cases c5 : o1.1 = 4
    · replace hf := (if_pos c5).symm.trans hf
      have hC2 := sr_ocC c5 hC
      cases hC2
      refine sr_WT.catch (own := "StationRowsLaw") (hn := [(10, "java/lang/IllegalArgumentException"), (14, "java/lang/IndexOutOfBoundsException"), (18, "java/lang/IllegalStateException"), (22, "java/lang/UnsupportedOperationException")]) (pcH := 22) hown hxo (hz.2.2.1 _ sr_c4) (by rw [hes]; exact ⟨⟨by decide, by decide, rfl, hws _ k_358, Or.inr (hz.2.2.2.2 ("java/lang/UnsupportedOperationException", "java/lang/IllegalArgumentException") (by decide))⟩, ⟨by decide, by decide, rfl, hws _ k_234, Or.inr (hz.2.2.2.2 ("java/lang/UnsupportedOperationException", "java/lang/IndexOutOfBoundsException") (by decide))⟩, ⟨by decide, by decide, rfl, hws _ k_401, Or.inr (hz.2.2.2.2 ("java/lang/UnsupportedOperationException", "java/lang/IllegalStateException") (by decide))⟩, ⟨by decide, by decide, rfl, hws _ k_235, Or.inl rfl⟩, trivial⟩) rfl ?_
      refine lv_astore (lv' := [(4, .ref x), (0, .ref r_p0), (1, .int x1), (2, .int x2), (3, .int x3)]) hx hb d_L_duty_22 hl (by decide) rfl (fun ls hl => ?_)
      refine lv_iconst (v := 4) hx hb d_L_duty_24 (by decide) ?_
      cases hf
      exact sr_retW (by decide) (by decide) (sr_iret hx hb hr hlocks hK G d_L_duty_25)
    replace hf := (if_neg c5).symm.trans hf
    exact sr_no hf
  replace hf := (if_pos hz0).symm.trans hf
  refine lv_goto (tgt := 26) hx hb d_L_duty_7 (by decide) ?_
  refine lv_iconst (v := 0) hx hb d_L_duty_26 (by decide) ?_
  cases hf
  exact sr_retW (by decide) (by decide) (sr_iret hx hb hr hlocks hK G d_L_duty_27)
/-! StationRowsLaw.move(LStationRows;IIII)I -/
abbrev rm_L_move : Room := { frames := 10, cells := 1, slots := 6, locals := 169 }
def f_L_move (n : Nat) (n_p0_persons_homes n_p0_persons_moves_counts n_p0_persons_moves_froms n_p0_persons_moves_tos n_p0_persons_moveStations : Nat) (v_p0_stations_count : Int32) (v_p0_persons_count : Int32) (F_p0_persons_homes : Nat → Int32) (v_p0_persons_moves_most : Int32) (F_p0_persons_moves_counts : Nat → Int32) (F_p0_persons_moves_froms : Nat → Int32) (F_p0_persons_moves_tos : Nat → Int32) (F_p0_persons_moveStations : Nat → Int32) (x1 x2 x3 x4 : Int32) : Option (Int32 × (Nat → Int32) × (Nat → Int32) × (Nat → Int32) × (Nat → Int32)) :=
    (sr_bd (f_S_move n n_p0_persons_homes n_p0_persons_moves_counts n_p0_persons_moves_froms n_p0_persons_moves_tos n_p0_persons_moveStations v_p0_stations_count v_p0_persons_count F_p0_persons_homes v_p0_persons_moves_most F_p0_persons_moves_counts F_p0_persons_moves_froms F_p0_persons_moves_tos F_p0_persons_moveStations x1 x2 x3 x4) fun o1 =>
    (if o1.1 = 0 then
    (some (0, o1.2.1, o1.2.2.1, o1.2.2.2.1, o1.2.2.2.2))
    else
    (if o1.1 = 1 then
    (some (1, o1.2.1, o1.2.2.1, o1.2.2.2.1, o1.2.2.2.2))
    else
    (if o1.1 = 2 then
    (some (2, o1.2.1, o1.2.2.1, o1.2.2.2.1, o1.2.2.2.2))
    else
    (if o1.1 = 3 then
    (some (3, o1.2.1, o1.2.2.1, o1.2.2.2.1, o1.2.2.2.2))
    else
    (if o1.1 = 4 then
    (some (4, o1.2.1, o1.2.2.1, o1.2.2.2.1, o1.2.2.2.2))
    else
    none))))))
set_option maxHeartbeats 4000000 in
set_option maxRecDepth 100000 in
theorem c_L_move (l : Launch) (hfl : l.flags = flags0) (dC : Nat → ClassId) (dI : Nat → Nat → Nat) (cI cJ cZ : ClassId) (r_p0 q_p0_stations q_p0_vehicles q_p0_persons q_p0_needs q_p0_checks q_p0_keys q_p0_stations_doors q_p0_stations_froms q_p0_stations_tos q_p0_persons_homes q_p0_persons_distances q_p0_persons_duties q_p0_persons_moves q_p0_persons_moveStations q_p0_persons_row q_p0_persons_moves_counts q_p0_persons_moves_froms q_p0_persons_moves_tos : Nat) (n_p0_persons_homes n_p0_persons_moves_counts n_p0_persons_moves_froms n_p0_persons_moves_tos n_p0_persons_moveStations : Nat) (v_p0_stations_count : Int32) (v_p0_persons_rowLength : Int32) (v_p0_persons_count : Int32) (v_p0_persons_distanceLimit : Int32) (F_p0_persons_homes : Nat → Int32) (v_p0_persons_moves_most : Int32) (F_p0_persons_moves_counts : Nat → Int32) (F_p0_persons_moves_froms : Nat → Int32) (F_p0_persons_moves_tos : Nat → Int32) (F_p0_persons_moveStations : Nat → Int32) (x1 x2 x3 x4 : Int32) (n : Nat) (o : Int32 × (Nat → Int32) × (Nat → Int32) × (Nat → Int32) × (Nat → Int32)) (hf : f_L_move n n_p0_persons_homes n_p0_persons_moves_counts n_p0_persons_moves_froms n_p0_persons_moves_tos n_p0_persons_moveStations v_p0_stations_count v_p0_persons_count F_p0_persons_homes v_p0_persons_moves_most F_p0_persons_moves_counts F_p0_persons_moves_froms F_p0_persons_moves_tos F_p0_persons_moveStations x1 x2 x3 x4 = some o) : sr_Wt l y_L_move (sr_WH y_L_move b_L_move 6 (some .int) hs_L_move) rm_L_move (dC, dI) (sr_ty cI cJ cZ) [.ref r_p0, .int x1, .int x2, .int x3, .int x4] [(r_p0, .inr (7, [.ref q_p0_stations, .ref q_p0_vehicles, .ref q_p0_persons, .ref q_p0_needs, .ref q_p0_checks, .ref q_p0_keys])), (q_p0_stations, .inr (1, [.ref q_p0_stations_doors, .ref q_p0_stations_froms, .ref q_p0_stations_tos, .int v_p0_stations_count])), (q_p0_persons, .inr (3, [.ref q_p0_persons_homes, .ref q_p0_persons_distances, .ref q_p0_persons_duties, .ref q_p0_persons_moves, .ref q_p0_persons_moveStations, .ref q_p0_persons_row, .int v_p0_persons_rowLength, .int v_p0_persons_count, .int v_p0_persons_distanceLimit])), (q_p0_persons_homes, .inl (cI, n_p0_persons_homes, .inl F_p0_persons_homes)), (q_p0_persons_moves, .inr (0, [.int v_p0_persons_moves_most, .ref q_p0_persons_moves_counts, .ref q_p0_persons_moves_froms, .ref q_p0_persons_moves_tos])), (q_p0_persons_moves_counts, .inl (cI, n_p0_persons_moves_counts, .inl F_p0_persons_moves_counts)), (q_p0_persons_moves_froms, .inl (cI, n_p0_persons_moves_froms, .inl F_p0_persons_moves_froms)), (q_p0_persons_moves_tos, .inl (cI, n_p0_persons_moves_tos, .inl F_p0_persons_moves_tos)), (q_p0_persons_moveStations, .inl (cI, n_p0_persons_moveStations, .inl F_p0_persons_moveStations))] (some (.int o.1)) [(r_p0, .inr (7, [.ref q_p0_stations, .ref q_p0_vehicles, .ref q_p0_persons, .ref q_p0_needs, .ref q_p0_checks, .ref q_p0_keys])), (q_p0_stations, .inr (1, [.ref q_p0_stations_doors, .ref q_p0_stations_froms, .ref q_p0_stations_tos, .int v_p0_stations_count])), (q_p0_persons, .inr (3, [.ref q_p0_persons_homes, .ref q_p0_persons_distances, .ref q_p0_persons_duties, .ref q_p0_persons_moves, .ref q_p0_persons_moveStations, .ref q_p0_persons_row, .int v_p0_persons_rowLength, .int v_p0_persons_count, .int v_p0_persons_distanceLimit])), (q_p0_persons_homes, .inl (cI, n_p0_persons_homes, .inl F_p0_persons_homes)), (q_p0_persons_moves, .inr (0, [.int v_p0_persons_moves_most, .ref q_p0_persons_moves_counts, .ref q_p0_persons_moves_froms, .ref q_p0_persons_moves_tos])), (q_p0_persons_moves_counts, .inl (cI, n_p0_persons_moves_counts, .inl o.2.1)), (q_p0_persons_moves_froms, .inl (cI, n_p0_persons_moves_froms, .inl o.2.2.1)), (q_p0_persons_moves_tos, .inl (cI, n_p0_persons_moves_tos, .inl o.2.2.2.1)), (q_p0_persons_moveStations, .inl (cI, n_p0_persons_moveStations, .inl o.2.2.2.2))] := by
  refine sr_Wt.of (cc := b_L_move) (maxL := 6) (ret := (some .int)) (hs := hs_L_move) (by decide) rfl (Nat.le_of_ble_eq_true rfl) ?_
  intro p e s m below meth c A ls C0 hes hA hK hz G hl
  obtain ⟨hx, hb, hml, hr, hown, hts, hlocks, hnm⟩ := id C0
  generalize hargs : ([.ref r_p0, .int x1, .int x2, .int x3, .int x4] : List Value).toArray = args at C0 hts ⊢
  have hws := sr_hwsH hts
  replace hl : lv_has ls 6 [(0, .ref r_p0), (1, .int x1), (2, .int x2), (3, .int x3), (4, .int x4)] := hl
  replace hf : (sr_bd (f_S_move n n_p0_persons_homes n_p0_persons_moves_counts n_p0_persons_moves_froms n_p0_persons_moves_tos n_p0_persons_moveStations v_p0_stations_count v_p0_persons_count F_p0_persons_homes v_p0_persons_moves_most F_p0_persons_moves_counts F_p0_persons_moves_froms F_p0_persons_moves_tos F_p0_persons_moveStations x1 x2 x3 x4) fun o1 =>
    (if o1.1 = 0 then
    (some (0, o1.2.1, o1.2.2.1, o1.2.2.2.1, o1.2.2.2.2))
    else
    (if o1.1 = 1 then
    (some (1, o1.2.1, o1.2.2.1, o1.2.2.2.1, o1.2.2.2.2))
    else
    (if o1.1 = 2 then
    (some (2, o1.2.1, o1.2.2.1, o1.2.2.2.1, o1.2.2.2.2))
    else
    (if o1.1 = 3 then
    (some (3, o1.2.1, o1.2.2.1, o1.2.2.2.1, o1.2.2.2.2))
    else
    (if o1.1 = 4 then
    (some (4, o1.2.1, o1.2.2.1, o1.2.2.2.1, o1.2.2.2.2))
    else
    none)))))) = some o := hf
  refine lv_aload_n hx hb d_L_move_0 rfl (lv_at hl 0 rfl) ?_
  refine lv_iload_n hx hb d_L_move_1 rfl (lv_at hl 1 rfl) ?_
  refine lv_iload_n hx hb d_L_move_2 rfl (lv_at hl 2 rfl) ?_
  refine lv_iload_n hx hb d_L_move_3 rfl (lv_at hl 3 rfl) ?_
  refine lv_iload hx hb d_L_move_4 (lv_at hl 4 rfl) ?_
  obtain ⟨o1, ho1, hf⟩ := sr_bd_e hf
  refine sr_callTV (ci := 7) (vc := ("StationRows", zf_S, 6)) (wr := []) (ws1 := [(r_p0, .inr (7, [.ref q_p0_stations, .ref q_p0_vehicles, .ref q_p0_persons, .ref q_p0_needs, .ref q_p0_checks, .ref q_p0_keys])), (q_p0_stations, .inr (1, [.ref q_p0_stations_doors, .ref q_p0_stations_froms, .ref q_p0_stations_tos, .int v_p0_stations_count])), (q_p0_persons, .inr (3, [.ref q_p0_persons_homes, .ref q_p0_persons_distances, .ref q_p0_persons_duties, .ref q_p0_persons_moves, .ref q_p0_persons_moveStations, .ref q_p0_persons_row, .int v_p0_persons_rowLength, .int v_p0_persons_count, .int v_p0_persons_distanceLimit])), (q_p0_persons_homes, .inl (cI, n_p0_persons_homes, .inl F_p0_persons_homes)), (q_p0_persons_moves, .inr (0, [.int v_p0_persons_moves_most, .ref q_p0_persons_moves_counts, .ref q_p0_persons_moves_froms, .ref q_p0_persons_moves_tos])), (q_p0_persons_moves_counts, .inl (cI, n_p0_persons_moves_counts, .inl o1.2.1)), (q_p0_persons_moves_froms, .inl (cI, n_p0_persons_moves_froms, .inl o1.2.2.1)), (q_p0_persons_moves_tos, .inl (cI, n_p0_persons_moves_tos, .inl o1.2.2.2.1)), (q_p0_persons_moveStations, .inl (cI, n_p0_persons_moveStations, .inl o1.2.2.2.2))]) (rest := []) (st1 := []) ⟨hx, hb, hml, hown, hts⟩ (c_S_move l hfl dC dI cI cJ cZ r_p0 q_p0_stations q_p0_vehicles q_p0_persons q_p0_needs q_p0_checks q_p0_keys q_p0_stations_doors q_p0_stations_froms q_p0_stations_tos q_p0_persons_homes q_p0_persons_distances q_p0_persons_duties q_p0_persons_moves q_p0_persons_moveStations q_p0_persons_row q_p0_persons_moves_counts q_p0_persons_moves_froms q_p0_persons_moves_tos n_p0_persons_homes n_p0_persons_moves_counts n_p0_persons_moves_froms n_p0_persons_moves_tos n_p0_persons_moveStations v_p0_stations_count v_p0_persons_rowLength v_p0_persons_count v_p0_persons_distanceLimit F_p0_persons_homes v_p0_persons_moves_most F_p0_persons_moves_counts F_p0_persons_moves_froms F_p0_persons_moves_tos F_p0_persons_moveStations x1 x2 x3 x4 n o1 ho1) ⟨(sr_cB 4 hws k_476 k_26 k_473 (by decide +kernel) ⟨Nat.le_of_ble_eq_true rfl, Nat.le_of_ble_eq_true rfl⟩), hws _ k_474, hws _ k_475⟩ hK hz G hA [0, 1, 2, 3, 4, 5, 6, 7, 8] [] [0, 1, 2, 3, 4, 5, 6, 7, 8] rfl (by decide) rfl (by decide) (by decide) rfl (by decide) 0 rfl rfl rfl hl.1 rfl (Nat.le_of_ble_eq_true rfl) d_L_move_6 ⟨Nat.le_of_ble_eq_true rfl, Nat.le_of_ble_eq_true rfl⟩ rfl (fun C hC x H locs G hsz hxo => ?_) (fun hz0 H locs G => ?_)
  · replace hf := (if_neg (sr_nz hC)).symm.trans hf
    by_cases c2 : o1.1 = 1
    · replace hf := (if_pos c2).symm.trans hf
      have hC2 := sr_ocC c2 hC
      cases hC2
      refine sr_WT.catch (own := "StationRowsLaw") (hn := [(12, "java/lang/IllegalArgumentException"), (16, "java/lang/IndexOutOfBoundsException"), (20, "java/lang/IllegalStateException"), (24, "java/lang/UnsupportedOperationException")]) (pcH := 12) hown hxo (hz.2.2.1 _ sr_c1) (by rw [hes]; exact ⟨⟨by decide, by decide, rfl, hws _ k_358, Or.inl rfl⟩, ⟨by decide, by decide, rfl, hws _ k_234, Or.inr (hz.2.2.2.2 ("java/lang/IllegalArgumentException", "java/lang/IndexOutOfBoundsException") (by decide))⟩, ⟨by decide, by decide, rfl, hws _ k_401, Or.inr (hz.2.2.2.2 ("java/lang/IllegalArgumentException", "java/lang/IllegalStateException") (by decide))⟩, ⟨by decide, by decide, rfl, hws _ k_235, Or.inr (hz.2.2.2.2 ("java/lang/IllegalArgumentException", "java/lang/UnsupportedOperationException") (by decide))⟩, trivial⟩) rfl ?_
      refine lv_astore (lv' := [(5, .ref x), (0, .ref r_p0), (1, .int x1), (2, .int x2), (3, .int x3), (4, .int x4)]) hx hb d_L_move_12 hl (by decide) rfl (fun ls hl => ?_)
      refine lv_iconst (v := 1) hx hb d_L_move_14 (by decide) ?_
      cases hf
      exact sr_retW (by decide) (by decide) (sr_iret hx hb hr hlocks hK G d_L_move_15)
    replace hf := (if_neg c2).symm.trans hf
    by_cases c3 : o1.1 = 2
    · replace hf := (if_pos c3).symm.trans hf
      have hC2 := sr_ocC c3 hC
      cases hC2
      refine sr_WT.catch (own := "StationRowsLaw") (hn := [(12, "java/lang/IllegalArgumentException"), (16, "java/lang/IndexOutOfBoundsException"), (20, "java/lang/IllegalStateException"), (24, "java/lang/UnsupportedOperationException")]) (pcH := 16) hown hxo (hz.2.2.1 _ sr_c2) (by rw [hes]; exact ⟨⟨by decide, by decide, rfl, hws _ k_358, Or.inr (hz.2.2.2.2 ("java/lang/IndexOutOfBoundsException", "java/lang/IllegalArgumentException") (by decide))⟩, ⟨by decide, by decide, rfl, hws _ k_234, Or.inl rfl⟩, ⟨by decide, by decide, rfl, hws _ k_401, Or.inr (hz.2.2.2.2 ("java/lang/IndexOutOfBoundsException", "java/lang/IllegalStateException") (by decide))⟩, ⟨by decide, by decide, rfl, hws _ k_235, Or.inr (hz.2.2.2.2 ("java/lang/IndexOutOfBoundsException", "java/lang/UnsupportedOperationException") (by decide))⟩, trivial⟩) rfl ?_
      refine lv_astore (lv' := [(5, .ref x), (0, .ref r_p0), (1, .int x1), (2, .int x2), (3, .int x3), (4, .int x4)]) hx hb d_L_move_16 hl (by decide) rfl (fun ls hl => ?_)
      refine lv_iconst (v := 2) hx hb d_L_move_18 (by decide) ?_
      cases hf
      exact sr_retW (by decide) (by decide) (sr_iret hx hb hr hlocks hK G d_L_move_19)
    replace hf := (if_neg c3).symm.trans hf
    by_cases c4 : o1.1 = 3
    · replace hf := (if_pos c4).symm.trans hf
      have hC2 := sr_ocC c4 hC
      cases hC2
      refine sr_WT.catch (own := "StationRowsLaw") (hn := [(12, "java/lang/IllegalArgumentException"), (16, "java/lang/IndexOutOfBoundsException"), (20, "java/lang/IllegalStateException"), (24, "java/lang/UnsupportedOperationException")]) (pcH := 20) hown hxo (hz.2.2.1 _ sr_c3) (by rw [hes]; exact ⟨⟨by decide, by decide, rfl, hws _ k_358, Or.inr (hz.2.2.2.2 ("java/lang/IllegalStateException", "java/lang/IllegalArgumentException") (by decide))⟩, ⟨by decide, by decide, rfl, hws _ k_234, Or.inr (hz.2.2.2.2 ("java/lang/IllegalStateException", "java/lang/IndexOutOfBoundsException") (by decide))⟩, ⟨by decide, by decide, rfl, hws _ k_401, Or.inl rfl⟩, ⟨by decide, by decide, rfl, hws _ k_235, Or.inr (hz.2.2.2.2 ("java/lang/IllegalStateException", "java/lang/UnsupportedOperationException") (by decide))⟩, trivial⟩) rfl ?_
      refine lv_astore (lv' := [(5, .ref x), (0, .ref r_p0), (1, .int x1), (2, .int x2), (3, .int x3), (4, .int x4)]) hx hb d_L_move_20 hl (by decide) rfl (fun ls hl => ?_)
      refine lv_iconst (v := 3) hx hb d_L_move_22 (by decide) ?_
      cases hf
      exact sr_retW (by decide) (by decide) (sr_iret hx hb hr hlocks hK G d_L_move_23)
    replace hf := (if_neg c4).symm.trans hf
    by_cases c5 : o1.1 = 4
    · replace hf := (if_pos c5).symm.trans hf
      have hC2 := sr_ocC c5 hC
      cases hC2
      refine sr_WT.catch (own := "StationRowsLaw") (hn := [(12, "java/lang/IllegalArgumentException"), (16, "java/lang/IndexOutOfBoundsException"), (20, "java/lang/IllegalStateException"), (24, "java/lang/UnsupportedOperationException")]) (pcH := 24) hown hxo (hz.2.2.1 _ sr_c4) (by rw [hes]; exact ⟨⟨by decide, by decide, rfl, hws _ k_358, Or.inr (hz.2.2.2.2 ("java/lang/UnsupportedOperationException", "java/lang/IllegalArgumentException") (by decide))⟩, ⟨by decide, by decide, rfl, hws _ k_234, Or.inr (hz.2.2.2.2 ("java/lang/UnsupportedOperationException", "java/lang/IndexOutOfBoundsException") (by decide))⟩, ⟨by decide, by decide, rfl, hws _ k_401, Or.inr (hz.2.2.2.2 ("java/lang/UnsupportedOperationException", "java/lang/IllegalStateException") (by decide))⟩, ⟨by decide, by decide, rfl, hws _ k_235, Or.inl rfl⟩, trivial⟩) rfl ?_
      refine lv_astore (lv' := [(5, .ref x), (0, .ref r_p0), (1, .int x1), (2, .int x2), (3, .int x3), (4, .int x4)]) hx hb d_L_move_24 hl (by decide) rfl (fun ls hl => ?_)
      refine lv_iconst (v := 4) hx hb d_L_move_26 (by decide) ?_
      cases hf
      exact sr_retW (by decide) (by decide) (sr_iret hx hb hr hlocks hK G d_L_move_27)
    replace hf := (if_neg c5).symm.trans hf
    exact sr_no hf
  replace hf := (if_pos hz0).symm.trans hf
  refine lv_goto (tgt := 28) hx hb d_L_move_9 (by decide) ?_
  refine lv_iconst (v := 0) hx hb d_L_move_28 (by decide) ?_
  cases hf
  exact sr_retW (by decide) (by decide) (sr_iret hx hb hr hlocks hK G d_L_move_29)
/-! StationRowsLaw.limit(LStationRows;I[J)I -/
abbrev rm_L_limit : Room := { frames := 8, cells := 1, slots := 6, locals := 125 }
def f_L_limit (n : Nat) (n_p0_persons_distances n_p2 : Nat) (v_p0_persons_count : Int32) (v_p0_persons_distanceLimit : Int32) (F_p0_persons_distances : Nat → Int32) (F_p2 : Nat → Int64) (x1 : Int32) : Option (Int32 × Int32 × (Nat → Int64)) :=
    (sr_bd (f_S_limit n n_p0_persons_distances v_p0_persons_count v_p0_persons_distanceLimit F_p0_persons_distances x1) fun o1 =>
    (if o1.1 = 0 then
    (sr_bk 0 n_p2
    (some (0, o1.2.2, (vp_updL F_p2 (0 : Int32).toNatClampNeg ((o1.2.1 : Int32).toInt64)))))
    else
    (if o1.1 = 2 then
    (some (1, o1.2.2, F_p2))
    else
    none)))
set_option maxHeartbeats 4000000 in
set_option maxRecDepth 100000 in
theorem c_L_limit (l : Launch) (hfl : l.flags = flags0) (dC : Nat → ClassId) (dI : Nat → Nat → Nat) (cI cJ cZ : ClassId) (r_p0 r_p2 q_p0_stations q_p0_vehicles q_p0_persons q_p0_needs q_p0_checks q_p0_keys q_p0_persons_homes q_p0_persons_distances q_p0_persons_duties q_p0_persons_moves q_p0_persons_moveStations q_p0_persons_row : Nat) (n_p0_persons_distances n_p2 : Nat) (v_p0_persons_rowLength : Int32) (v_p0_persons_count : Int32) (v_p0_persons_distanceLimit : Int32) (F_p0_persons_distances : Nat → Int32) (F_p2 : Nat → Int64) (x1 : Int32) (n : Nat) (o : Int32 × Int32 × (Nat → Int64)) (hf : f_L_limit n n_p0_persons_distances n_p2 v_p0_persons_count v_p0_persons_distanceLimit F_p0_persons_distances F_p2 x1 = some o) : sr_Wt l y_L_limit (sr_WH y_L_limit b_L_limit 4 (some .int) hs_L_limit) rm_L_limit (dC, dI) (sr_ty cI cJ cZ) [.ref r_p0, .int x1, .ref r_p2] [(r_p0, .inr (7, [.ref q_p0_stations, .ref q_p0_vehicles, .ref q_p0_persons, .ref q_p0_needs, .ref q_p0_checks, .ref q_p0_keys])), (q_p0_persons, .inr (3, [.ref q_p0_persons_homes, .ref q_p0_persons_distances, .ref q_p0_persons_duties, .ref q_p0_persons_moves, .ref q_p0_persons_moveStations, .ref q_p0_persons_row, .int v_p0_persons_rowLength, .int v_p0_persons_count, .int v_p0_persons_distanceLimit])), (q_p0_persons_distances, .inl (cI, n_p0_persons_distances, .inl F_p0_persons_distances)), (r_p2, .inl (cJ, n_p2, .inr (.inl F_p2)))] (some (.int o.1)) [(r_p0, .inr (7, [.ref q_p0_stations, .ref q_p0_vehicles, .ref q_p0_persons, .ref q_p0_needs, .ref q_p0_checks, .ref q_p0_keys])), (q_p0_persons, .inr (3, [.ref q_p0_persons_homes, .ref q_p0_persons_distances, .ref q_p0_persons_duties, .ref q_p0_persons_moves, .ref q_p0_persons_moveStations, .ref q_p0_persons_row, .int v_p0_persons_rowLength, .int v_p0_persons_count, .int o.2.1])), (q_p0_persons_distances, .inl (cI, n_p0_persons_distances, .inl F_p0_persons_distances)), (r_p2, .inl (cJ, n_p2, .inr (.inl o.2.2)))] := by
  refine sr_Wt.of (cc := b_L_limit) (maxL := 4) (ret := (some .int)) (hs := hs_L_limit) (by decide) rfl (Nat.le_of_ble_eq_true rfl) ?_
  intro p e s m below meth c A ls C0 hes hA hK hz G hl
  obtain ⟨hx, hb, hml, hr, hown, hts, hlocks, hnm⟩ := id C0
  generalize hargs : ([.ref r_p0, .int x1, .ref r_p2] : List Value).toArray = args at C0 hts ⊢
  have hws := sr_hwsH hts
  replace hl : lv_has ls 4 [(0, .ref r_p0), (1, .int x1), (2, .ref r_p2)] := hl
  replace hf : (sr_bd (f_S_limit n n_p0_persons_distances v_p0_persons_count v_p0_persons_distanceLimit F_p0_persons_distances x1) fun o1 =>
    (if o1.1 = 0 then
    (sr_bk 0 n_p2
    (some (0, o1.2.2, (vp_updL F_p2 (0 : Int32).toNatClampNeg ((o1.2.1 : Int32).toInt64)))))
    else
    (if o1.1 = 2 then
    (some (1, o1.2.2, F_p2))
    else
    none))) = some o := hf
  refine lv_aload_n hx hb d_L_limit_0 rfl (lv_at hl 2 rfl) ?_
  refine lv_iconst (v := 0) hx hb d_L_limit_1 (by decide) ?_
  refine lv_aload_n hx hb d_L_limit_2 rfl (lv_at hl 0 rfl) ?_
  refine lv_iload_n hx hb d_L_limit_3 rfl (lv_at hl 1 rfl) ?_
  obtain ⟨o1, ho1, hf⟩ := sr_bd_e hf
  refine sr_callTV (ci := 7) (vc := ("StationRows", zf_S, 6)) (wr := [(r_p2, .inl (cJ, n_p2, .inr (.inl F_p2)))]) (ws1 := [(r_p0, .inr (7, [.ref q_p0_stations, .ref q_p0_vehicles, .ref q_p0_persons, .ref q_p0_needs, .ref q_p0_checks, .ref q_p0_keys])), (q_p0_persons, .inr (3, [.ref q_p0_persons_homes, .ref q_p0_persons_distances, .ref q_p0_persons_duties, .ref q_p0_persons_moves, .ref q_p0_persons_moveStations, .ref q_p0_persons_row, .int v_p0_persons_rowLength, .int v_p0_persons_count, .int o1.2.2])), (q_p0_persons_distances, .inl (cI, n_p0_persons_distances, .inl F_p0_persons_distances)), (r_p2, .inl (cJ, n_p2, .inr (.inl F_p2)))]) (rest := [.int 0, .ref r_p2]) (st1 := [.int o1.2.1, .int 0, .ref r_p2]) ⟨hx, hb, hml, hown, hts⟩ (c_S_limit l hfl dC dI cI cJ cZ r_p0 q_p0_stations q_p0_vehicles q_p0_persons q_p0_needs q_p0_checks q_p0_keys q_p0_persons_homes q_p0_persons_distances q_p0_persons_duties q_p0_persons_moves q_p0_persons_moveStations q_p0_persons_row n_p0_persons_distances v_p0_persons_rowLength v_p0_persons_count v_p0_persons_distanceLimit F_p0_persons_distances x1 n o1 ho1) ⟨(sr_cB 1 hws k_499 k_26 k_496 (by decide +kernel) ⟨Nat.le_of_ble_eq_true rfl, Nat.le_of_ble_eq_true rfl⟩), hws _ k_497, hws _ k_498⟩ hK hz G hA [0, 1, 2] [3] [1, 2, 3, 0] rfl (by decide) rfl (by decide) (by decide) rfl (by decide) 0 rfl rfl rfl hl.1 rfl (Nat.le_of_ble_eq_true rfl) d_L_limit_4 ⟨Nat.le_of_ble_eq_true rfl, Nat.le_of_ble_eq_true rfl⟩ rfl (fun C hC x H locs G hsz hxo => ?_) (fun hz0 H locs G => ?_)
  · replace hf := (if_neg (sr_nz hC)).symm.trans hf
    by_cases c2 : o1.1 = 2
    · replace hf := (if_pos c2).symm.trans hf
      have hC2 := sr_ocC c2 hC
      cases hC2
      refine sr_WT.catch (own := "StationRowsLaw") (hn := [(12, "java/lang/IndexOutOfBoundsException")]) (pcH := 12) hown hxo (hz.2.2.1 _ sr_c2) (by rw [hes]; exact ⟨⟨by decide, by decide, rfl, hws _ k_234, Or.inl rfl⟩, trivial⟩) rfl ?_
      refine lv_astore_n (lv' := [(3, .ref x), (0, .ref r_p0), (1, .int x1), (2, .ref r_p2)]) hx hb d_L_limit_12 rfl hl (by decide) rfl (fun ls hl => ?_)
      refine lv_iconst (v := 1) hx hb d_L_limit_13 (by decide) ?_
      cases hf
      exact sr_retW (by decide) (by decide) (sr_iret hx hb hr hlocks hK G d_L_limit_14)
    replace hf := (if_neg c2).symm.trans hf
    exact sr_no hf
  replace hf := (if_pos hz0).symm.trans hf
  refine lv_i2l hx hb d_L_limit_7 rfl ?_
  obtain ⟨hi3, hf⟩ := sr_bk_e hf
  refine va_last hx hb hK G.1 G.2.1 G.2.2 3 1 rfl rfl hi3 d_L_limit_8 (fun H locs hP hD hS => ?_)
  have G : sr_G (dC, dI) A [(r_p0, .inr (7, [.ref q_p0_stations, .ref q_p0_vehicles, .ref q_p0_persons, .ref q_p0_needs, .ref q_p0_checks, .ref q_p0_keys])), (q_p0_persons, .inr (3, [.ref q_p0_persons_homes, .ref q_p0_persons_distances, .ref q_p0_persons_duties, .ref q_p0_persons_moves, .ref q_p0_persons_moveStations, .ref q_p0_persons_row, .int v_p0_persons_rowLength, .int v_p0_persons_count, .int o1.2.2])), (q_p0_persons_distances, .inl (cI, n_p0_persons_distances, .inl F_p0_persons_distances)), (r_p2, .inl (cJ, n_p2, .inr (.inl (vp_updL F_p2 (0 : Int32).toNatClampNeg ((o1.2.1 : Int32).toInt64)))))] s H locs := ⟨hP, hD, hS⟩
  refine lv_goto (tgt := 15) hx hb d_L_limit_9 (by decide) ?_
  refine lv_iconst (v := 0) hx hb d_L_limit_15 (by decide) ?_
  cases hf
  exact sr_retW (by decide) (by decide) (sr_iret hx hb hr hlocks hK G d_L_limit_16)
/-! StationRowsLaw.on(LStationRows;II[J)I -/
abbrev rm_L_on : Room := { frames := 9, cells := 1, slots := 6, locals := 146 }
def f_L_on (n : Nat) (n_p0_stations_froms n_p0_stations_tos n_p0_persons_homes n_p0_persons_distances n_p0_persons_duties_counts n_p0_persons_duties_froms n_p0_persons_duties_tos n_p0_persons_moves_counts n_p0_persons_moves_froms n_p0_persons_moves_tos n_p0_persons_moveStations n_p0_persons_row n_p3 : Nat) (v_p0_stations_count : Int32) (F_p0_stations_froms : Nat → Int32) (F_p0_stations_tos : Nat → Int32) (v_p0_persons_rowLength : Int32) (v_p0_persons_count : Int32) (v_p0_persons_distanceLimit : Int32) (F_p0_persons_homes : Nat → Int32) (F_p0_persons_distances : Nat → Int32) (v_p0_persons_duties_most : Int32) (F_p0_persons_duties_counts : Nat → Int32) (F_p0_persons_duties_froms : Nat → Int32) (F_p0_persons_duties_tos : Nat → Int32) (v_p0_persons_moves_most : Int32) (F_p0_persons_moves_counts : Nat → Int32) (F_p0_persons_moves_froms : Nat → Int32) (F_p0_persons_moves_tos : Nat → Int32) (F_p0_persons_moveStations : Nat → Int32) (F_p0_persons_row : Nat → Int32) (F_p3 : Nat → Int64) (x1 x2 : Int32) : Option (Int32 × Int32 × (Nat → Int32) × (Nat → Int64)) :=
    (sr_bd (f_S_on n n_p0_stations_froms n_p0_stations_tos n_p0_persons_homes n_p0_persons_distances n_p0_persons_duties_counts n_p0_persons_duties_froms n_p0_persons_duties_tos n_p0_persons_moves_counts n_p0_persons_moves_froms n_p0_persons_moves_tos n_p0_persons_moveStations n_p0_persons_row v_p0_stations_count F_p0_stations_froms F_p0_stations_tos v_p0_persons_rowLength v_p0_persons_count v_p0_persons_distanceLimit F_p0_persons_homes F_p0_persons_distances v_p0_persons_duties_most F_p0_persons_duties_counts F_p0_persons_duties_froms F_p0_persons_duties_tos v_p0_persons_moves_most F_p0_persons_moves_counts F_p0_persons_moves_froms F_p0_persons_moves_tos F_p0_persons_moveStations F_p0_persons_row x1 x2) fun o1 =>
    (if o1.1 = 0 then
    (sr_bk 0 n_p3
    (some (0, o1.2.2.1, o1.2.2.2, (vp_updL F_p3 (0 : Int32).toNatClampNeg ((o1.2.1 : Int32).toInt64)))))
    else
    (if o1.1 = 1 then
    (some (1, o1.2.2.1, o1.2.2.2, F_p3))
    else
    (if o1.1 = 2 then
    (some (2, o1.2.2.1, o1.2.2.2, F_p3))
    else
    none))))
set_option maxHeartbeats 4000000 in
set_option maxRecDepth 100000 in
theorem c_L_on (l : Launch) (hfl : l.flags = flags0) (dC : Nat → ClassId) (dI : Nat → Nat → Nat) (cI cJ cZ : ClassId) (r_p0 r_p3 q_p0_stations q_p0_vehicles q_p0_persons q_p0_needs q_p0_checks q_p0_keys q_p0_stations_doors q_p0_stations_froms q_p0_stations_tos q_p0_persons_homes q_p0_persons_distances q_p0_persons_duties q_p0_persons_moves q_p0_persons_moveStations q_p0_persons_row q_p0_persons_duties_counts q_p0_persons_duties_froms q_p0_persons_duties_tos q_p0_persons_moves_counts q_p0_persons_moves_froms q_p0_persons_moves_tos : Nat) (n_p0_stations_froms n_p0_stations_tos n_p0_persons_homes n_p0_persons_distances n_p0_persons_duties_counts n_p0_persons_duties_froms n_p0_persons_duties_tos n_p0_persons_moves_counts n_p0_persons_moves_froms n_p0_persons_moves_tos n_p0_persons_moveStations n_p0_persons_row n_p3 : Nat) (v_p0_stations_count : Int32) (F_p0_stations_froms : Nat → Int32) (F_p0_stations_tos : Nat → Int32) (v_p0_persons_rowLength : Int32) (v_p0_persons_count : Int32) (v_p0_persons_distanceLimit : Int32) (F_p0_persons_homes : Nat → Int32) (F_p0_persons_distances : Nat → Int32) (v_p0_persons_duties_most : Int32) (F_p0_persons_duties_counts : Nat → Int32) (F_p0_persons_duties_froms : Nat → Int32) (F_p0_persons_duties_tos : Nat → Int32) (v_p0_persons_moves_most : Int32) (F_p0_persons_moves_counts : Nat → Int32) (F_p0_persons_moves_froms : Nat → Int32) (F_p0_persons_moves_tos : Nat → Int32) (F_p0_persons_moveStations : Nat → Int32) (F_p0_persons_row : Nat → Int32) (F_p3 : Nat → Int64) (x1 x2 : Int32) (n : Nat) (o : Int32 × Int32 × (Nat → Int32) × (Nat → Int64)) (hf : f_L_on n n_p0_stations_froms n_p0_stations_tos n_p0_persons_homes n_p0_persons_distances n_p0_persons_duties_counts n_p0_persons_duties_froms n_p0_persons_duties_tos n_p0_persons_moves_counts n_p0_persons_moves_froms n_p0_persons_moves_tos n_p0_persons_moveStations n_p0_persons_row n_p3 v_p0_stations_count F_p0_stations_froms F_p0_stations_tos v_p0_persons_rowLength v_p0_persons_count v_p0_persons_distanceLimit F_p0_persons_homes F_p0_persons_distances v_p0_persons_duties_most F_p0_persons_duties_counts F_p0_persons_duties_froms F_p0_persons_duties_tos v_p0_persons_moves_most F_p0_persons_moves_counts F_p0_persons_moves_froms F_p0_persons_moves_tos F_p0_persons_moveStations F_p0_persons_row F_p3 x1 x2 = some o) : sr_Wt l y_L_on (sr_WH y_L_on b_L_on 5 (some .int) hs_L_on) rm_L_on (dC, dI) (sr_ty cI cJ cZ) [.ref r_p0, .int x1, .int x2, .ref r_p3] [(r_p0, .inr (7, [.ref q_p0_stations, .ref q_p0_vehicles, .ref q_p0_persons, .ref q_p0_needs, .ref q_p0_checks, .ref q_p0_keys])), (q_p0_stations, .inr (1, [.ref q_p0_stations_doors, .ref q_p0_stations_froms, .ref q_p0_stations_tos, .int v_p0_stations_count])), (q_p0_stations_froms, .inl (cI, n_p0_stations_froms, .inl F_p0_stations_froms)), (q_p0_stations_tos, .inl (cI, n_p0_stations_tos, .inl F_p0_stations_tos)), (q_p0_persons, .inr (3, [.ref q_p0_persons_homes, .ref q_p0_persons_distances, .ref q_p0_persons_duties, .ref q_p0_persons_moves, .ref q_p0_persons_moveStations, .ref q_p0_persons_row, .int v_p0_persons_rowLength, .int v_p0_persons_count, .int v_p0_persons_distanceLimit])), (q_p0_persons_homes, .inl (cI, n_p0_persons_homes, .inl F_p0_persons_homes)), (q_p0_persons_distances, .inl (cI, n_p0_persons_distances, .inl F_p0_persons_distances)), (q_p0_persons_duties, .inr (0, [.int v_p0_persons_duties_most, .ref q_p0_persons_duties_counts, .ref q_p0_persons_duties_froms, .ref q_p0_persons_duties_tos])), (q_p0_persons_duties_counts, .inl (cI, n_p0_persons_duties_counts, .inl F_p0_persons_duties_counts)), (q_p0_persons_duties_froms, .inl (cI, n_p0_persons_duties_froms, .inl F_p0_persons_duties_froms)), (q_p0_persons_duties_tos, .inl (cI, n_p0_persons_duties_tos, .inl F_p0_persons_duties_tos)), (q_p0_persons_moves, .inr (0, [.int v_p0_persons_moves_most, .ref q_p0_persons_moves_counts, .ref q_p0_persons_moves_froms, .ref q_p0_persons_moves_tos])), (q_p0_persons_moves_counts, .inl (cI, n_p0_persons_moves_counts, .inl F_p0_persons_moves_counts)), (q_p0_persons_moves_froms, .inl (cI, n_p0_persons_moves_froms, .inl F_p0_persons_moves_froms)), (q_p0_persons_moves_tos, .inl (cI, n_p0_persons_moves_tos, .inl F_p0_persons_moves_tos)), (q_p0_persons_moveStations, .inl (cI, n_p0_persons_moveStations, .inl F_p0_persons_moveStations)), (q_p0_persons_row, .inl (cI, n_p0_persons_row, .inl F_p0_persons_row)), (r_p3, .inl (cJ, n_p3, .inr (.inl F_p3)))] (some (.int o.1)) [(r_p0, .inr (7, [.ref q_p0_stations, .ref q_p0_vehicles, .ref q_p0_persons, .ref q_p0_needs, .ref q_p0_checks, .ref q_p0_keys])), (q_p0_stations, .inr (1, [.ref q_p0_stations_doors, .ref q_p0_stations_froms, .ref q_p0_stations_tos, .int v_p0_stations_count])), (q_p0_stations_froms, .inl (cI, n_p0_stations_froms, .inl F_p0_stations_froms)), (q_p0_stations_tos, .inl (cI, n_p0_stations_tos, .inl F_p0_stations_tos)), (q_p0_persons, .inr (3, [.ref q_p0_persons_homes, .ref q_p0_persons_distances, .ref q_p0_persons_duties, .ref q_p0_persons_moves, .ref q_p0_persons_moveStations, .ref q_p0_persons_row, .int o.2.1, .int v_p0_persons_count, .int v_p0_persons_distanceLimit])), (q_p0_persons_homes, .inl (cI, n_p0_persons_homes, .inl F_p0_persons_homes)), (q_p0_persons_distances, .inl (cI, n_p0_persons_distances, .inl F_p0_persons_distances)), (q_p0_persons_duties, .inr (0, [.int v_p0_persons_duties_most, .ref q_p0_persons_duties_counts, .ref q_p0_persons_duties_froms, .ref q_p0_persons_duties_tos])), (q_p0_persons_duties_counts, .inl (cI, n_p0_persons_duties_counts, .inl F_p0_persons_duties_counts)), (q_p0_persons_duties_froms, .inl (cI, n_p0_persons_duties_froms, .inl F_p0_persons_duties_froms)), (q_p0_persons_duties_tos, .inl (cI, n_p0_persons_duties_tos, .inl F_p0_persons_duties_tos)), (q_p0_persons_moves, .inr (0, [.int v_p0_persons_moves_most, .ref q_p0_persons_moves_counts, .ref q_p0_persons_moves_froms, .ref q_p0_persons_moves_tos])), (q_p0_persons_moves_counts, .inl (cI, n_p0_persons_moves_counts, .inl F_p0_persons_moves_counts)), (q_p0_persons_moves_froms, .inl (cI, n_p0_persons_moves_froms, .inl F_p0_persons_moves_froms)), (q_p0_persons_moves_tos, .inl (cI, n_p0_persons_moves_tos, .inl F_p0_persons_moves_tos)), (q_p0_persons_moveStations, .inl (cI, n_p0_persons_moveStations, .inl F_p0_persons_moveStations)), (q_p0_persons_row, .inl (cI, n_p0_persons_row, .inl o.2.2.1)), (r_p3, .inl (cJ, n_p3, .inr (.inl o.2.2.2)))] := by
  refine sr_Wt.of (cc := b_L_on) (maxL := 5) (ret := (some .int)) (hs := hs_L_on) (by decide) rfl (Nat.le_of_ble_eq_true rfl) ?_
  intro p e s m below meth c A ls C0 hes hA hK hz G hl
  obtain ⟨hx, hb, hml, hr, hown, hts, hlocks, hnm⟩ := id C0
  generalize hargs : ([.ref r_p0, .int x1, .int x2, .ref r_p3] : List Value).toArray = args at C0 hts ⊢
  have hws := sr_hwsH hts
  replace hl : lv_has ls 5 [(0, .ref r_p0), (1, .int x1), (2, .int x2), (3, .ref r_p3)] := hl
  replace hf : (sr_bd (f_S_on n n_p0_stations_froms n_p0_stations_tos n_p0_persons_homes n_p0_persons_distances n_p0_persons_duties_counts n_p0_persons_duties_froms n_p0_persons_duties_tos n_p0_persons_moves_counts n_p0_persons_moves_froms n_p0_persons_moves_tos n_p0_persons_moveStations n_p0_persons_row v_p0_stations_count F_p0_stations_froms F_p0_stations_tos v_p0_persons_rowLength v_p0_persons_count v_p0_persons_distanceLimit F_p0_persons_homes F_p0_persons_distances v_p0_persons_duties_most F_p0_persons_duties_counts F_p0_persons_duties_froms F_p0_persons_duties_tos v_p0_persons_moves_most F_p0_persons_moves_counts F_p0_persons_moves_froms F_p0_persons_moves_tos F_p0_persons_moveStations F_p0_persons_row x1 x2) fun o1 =>
    (if o1.1 = 0 then
    (sr_bk 0 n_p3
    (some (0, o1.2.2.1, o1.2.2.2, (vp_updL F_p3 (0 : Int32).toNatClampNeg ((o1.2.1 : Int32).toInt64)))))
    else
    (if o1.1 = 1 then
    (some (1, o1.2.2.1, o1.2.2.2, F_p3))
    else
    (if o1.1 = 2 then
    (some (2, o1.2.2.1, o1.2.2.2, F_p3))
    else
    none)))) = some o := hf
  refine lv_aload_n hx hb d_L_on_0 rfl (lv_at hl 3 rfl) ?_
  refine lv_iconst (v := 0) hx hb d_L_on_1 (by decide) ?_
  refine lv_aload_n hx hb d_L_on_2 rfl (lv_at hl 0 rfl) ?_
  refine lv_iload_n hx hb d_L_on_3 rfl (lv_at hl 1 rfl) ?_
  refine lv_iload_n hx hb d_L_on_4 rfl (lv_at hl 2 rfl) ?_
  obtain ⟨o1, ho1, hf⟩ := sr_bd_e hf
  refine sr_callTV (ci := 7) (vc := ("StationRows", zf_S, 6)) (wr := [(r_p3, .inl (cJ, n_p3, .inr (.inl F_p3)))]) (ws1 := [(r_p0, .inr (7, [.ref q_p0_stations, .ref q_p0_vehicles, .ref q_p0_persons, .ref q_p0_needs, .ref q_p0_checks, .ref q_p0_keys])), (q_p0_stations, .inr (1, [.ref q_p0_stations_doors, .ref q_p0_stations_froms, .ref q_p0_stations_tos, .int v_p0_stations_count])), (q_p0_stations_froms, .inl (cI, n_p0_stations_froms, .inl F_p0_stations_froms)), (q_p0_stations_tos, .inl (cI, n_p0_stations_tos, .inl F_p0_stations_tos)), (q_p0_persons, .inr (3, [.ref q_p0_persons_homes, .ref q_p0_persons_distances, .ref q_p0_persons_duties, .ref q_p0_persons_moves, .ref q_p0_persons_moveStations, .ref q_p0_persons_row, .int o1.2.2.1, .int v_p0_persons_count, .int v_p0_persons_distanceLimit])), (q_p0_persons_homes, .inl (cI, n_p0_persons_homes, .inl F_p0_persons_homes)), (q_p0_persons_distances, .inl (cI, n_p0_persons_distances, .inl F_p0_persons_distances)), (q_p0_persons_duties, .inr (0, [.int v_p0_persons_duties_most, .ref q_p0_persons_duties_counts, .ref q_p0_persons_duties_froms, .ref q_p0_persons_duties_tos])), (q_p0_persons_duties_counts, .inl (cI, n_p0_persons_duties_counts, .inl F_p0_persons_duties_counts)), (q_p0_persons_duties_froms, .inl (cI, n_p0_persons_duties_froms, .inl F_p0_persons_duties_froms)), (q_p0_persons_duties_tos, .inl (cI, n_p0_persons_duties_tos, .inl F_p0_persons_duties_tos)), (q_p0_persons_moves, .inr (0, [.int v_p0_persons_moves_most, .ref q_p0_persons_moves_counts, .ref q_p0_persons_moves_froms, .ref q_p0_persons_moves_tos])), (q_p0_persons_moves_counts, .inl (cI, n_p0_persons_moves_counts, .inl F_p0_persons_moves_counts)), (q_p0_persons_moves_froms, .inl (cI, n_p0_persons_moves_froms, .inl F_p0_persons_moves_froms)), (q_p0_persons_moves_tos, .inl (cI, n_p0_persons_moves_tos, .inl F_p0_persons_moves_tos)), (q_p0_persons_moveStations, .inl (cI, n_p0_persons_moveStations, .inl F_p0_persons_moveStations)), (q_p0_persons_row, .inl (cI, n_p0_persons_row, .inl o1.2.2.2)), (r_p3, .inl (cJ, n_p3, .inr (.inl F_p3)))]) (rest := [.int 0, .ref r_p3]) (st1 := [.int o1.2.1, .int 0, .ref r_p3]) ⟨hx, hb, hml, hown, hts⟩ (c_S_on l hfl dC dI cI cJ cZ r_p0 q_p0_stations q_p0_vehicles q_p0_persons q_p0_needs q_p0_checks q_p0_keys q_p0_stations_doors q_p0_stations_froms q_p0_stations_tos q_p0_persons_homes q_p0_persons_distances q_p0_persons_duties q_p0_persons_moves q_p0_persons_moveStations q_p0_persons_row q_p0_persons_duties_counts q_p0_persons_duties_froms q_p0_persons_duties_tos q_p0_persons_moves_counts q_p0_persons_moves_froms q_p0_persons_moves_tos n_p0_stations_froms n_p0_stations_tos n_p0_persons_homes n_p0_persons_distances n_p0_persons_duties_counts n_p0_persons_duties_froms n_p0_persons_duties_tos n_p0_persons_moves_counts n_p0_persons_moves_froms n_p0_persons_moves_tos n_p0_persons_moveStations n_p0_persons_row v_p0_stations_count F_p0_stations_froms F_p0_stations_tos v_p0_persons_rowLength v_p0_persons_count v_p0_persons_distanceLimit F_p0_persons_homes F_p0_persons_distances v_p0_persons_duties_most F_p0_persons_duties_counts F_p0_persons_duties_froms F_p0_persons_duties_tos v_p0_persons_moves_most F_p0_persons_moves_counts F_p0_persons_moves_froms F_p0_persons_moves_tos F_p0_persons_moveStations F_p0_persons_row x1 x2 n o1 ho1) ⟨(sr_cB 2 hws k_510 k_26 k_507 (by decide +kernel) ⟨Nat.le_of_ble_eq_true rfl, Nat.le_of_ble_eq_true rfl⟩), hws _ k_508, hws _ k_509⟩ hK hz G hA [0, 1, 2, 3, 4, 5, 6, 7, 8, 9, 10, 11, 12, 13, 14, 15, 16] [17] [1, 2, 3, 4, 5, 6, 7, 8, 9, 10, 11, 12, 13, 14, 15, 16, 17, 0] rfl (by decide) rfl (by decide) (by decide) rfl (by decide) 0 rfl rfl rfl hl.1 rfl (Nat.le_of_ble_eq_true rfl) d_L_on_5 ⟨Nat.le_of_ble_eq_true rfl, Nat.le_of_ble_eq_true rfl⟩ rfl (fun C hC x H locs G hsz hxo => ?_) (fun hz0 H locs G => ?_)
  · replace hf := (if_neg (sr_nz hC)).symm.trans hf
    by_cases c2 : o1.1 = 1
    · replace hf := (if_pos c2).symm.trans hf
      have hC2 := sr_ocC c2 hC
      cases hC2
      refine sr_WT.catch (own := "StationRowsLaw") (hn := [(13, "java/lang/IllegalArgumentException"), (17, "java/lang/IndexOutOfBoundsException")]) (pcH := 13) hown hxo (hz.2.2.1 _ sr_c1) (by rw [hes]; exact ⟨⟨by decide, by decide, rfl, hws _ k_358, Or.inl rfl⟩, ⟨by decide, by decide, rfl, hws _ k_234, Or.inr (hz.2.2.2.2 ("java/lang/IllegalArgumentException", "java/lang/IndexOutOfBoundsException") (by decide))⟩, trivial⟩) rfl ?_
      refine lv_astore (lv' := [(4, .ref x), (0, .ref r_p0), (1, .int x1), (2, .int x2), (3, .ref r_p3)]) hx hb d_L_on_13 hl (by decide) rfl (fun ls hl => ?_)
      refine lv_iconst (v := 1) hx hb d_L_on_15 (by decide) ?_
      cases hf
      exact sr_retW (by decide) (by decide) (sr_iret hx hb hr hlocks hK G d_L_on_16)
    replace hf := (if_neg c2).symm.trans hf
    by_cases c3 : o1.1 = 2
    · replace hf := (if_pos c3).symm.trans hf
      have hC2 := sr_ocC c3 hC
      cases hC2
      refine sr_WT.catch (own := "StationRowsLaw") (hn := [(13, "java/lang/IllegalArgumentException"), (17, "java/lang/IndexOutOfBoundsException")]) (pcH := 17) hown hxo (hz.2.2.1 _ sr_c2) (by rw [hes]; exact ⟨⟨by decide, by decide, rfl, hws _ k_358, Or.inr (hz.2.2.2.2 ("java/lang/IndexOutOfBoundsException", "java/lang/IllegalArgumentException") (by decide))⟩, ⟨by decide, by decide, rfl, hws _ k_234, Or.inl rfl⟩, trivial⟩) rfl ?_
      refine lv_astore (lv' := [(4, .ref x), (0, .ref r_p0), (1, .int x1), (2, .int x2), (3, .ref r_p3)]) hx hb d_L_on_17 hl (by decide) rfl (fun ls hl => ?_)
      refine lv_iconst (v := 2) hx hb d_L_on_19 (by decide) ?_
      cases hf
      exact sr_retW (by decide) (by decide) (sr_iret hx hb hr hlocks hK G d_L_on_20)
    replace hf := (if_neg c3).symm.trans hf
    exact sr_no hf
  replace hf := (if_pos hz0).symm.trans hf
  refine lv_i2l hx hb d_L_on_8 rfl ?_
  obtain ⟨hi4, hf⟩ := sr_bk_e hf
  refine va_last hx hb hK G.1 G.2.1 G.2.2 17 1 rfl rfl hi4 d_L_on_9 (fun H locs hP hD hS => ?_)
  have G : sr_G (dC, dI) A [(r_p0, .inr (7, [.ref q_p0_stations, .ref q_p0_vehicles, .ref q_p0_persons, .ref q_p0_needs, .ref q_p0_checks, .ref q_p0_keys])), (q_p0_stations, .inr (1, [.ref q_p0_stations_doors, .ref q_p0_stations_froms, .ref q_p0_stations_tos, .int v_p0_stations_count])), (q_p0_stations_froms, .inl (cI, n_p0_stations_froms, .inl F_p0_stations_froms)), (q_p0_stations_tos, .inl (cI, n_p0_stations_tos, .inl F_p0_stations_tos)), (q_p0_persons, .inr (3, [.ref q_p0_persons_homes, .ref q_p0_persons_distances, .ref q_p0_persons_duties, .ref q_p0_persons_moves, .ref q_p0_persons_moveStations, .ref q_p0_persons_row, .int o1.2.2.1, .int v_p0_persons_count, .int v_p0_persons_distanceLimit])), (q_p0_persons_homes, .inl (cI, n_p0_persons_homes, .inl F_p0_persons_homes)), (q_p0_persons_distances, .inl (cI, n_p0_persons_distances, .inl F_p0_persons_distances)), (q_p0_persons_duties, .inr (0, [.int v_p0_persons_duties_most, .ref q_p0_persons_duties_counts, .ref q_p0_persons_duties_froms, .ref q_p0_persons_duties_tos])), (q_p0_persons_duties_counts, .inl (cI, n_p0_persons_duties_counts, .inl F_p0_persons_duties_counts)), (q_p0_persons_duties_froms, .inl (cI, n_p0_persons_duties_froms, .inl F_p0_persons_duties_froms)), (q_p0_persons_duties_tos, .inl (cI, n_p0_persons_duties_tos, .inl F_p0_persons_duties_tos)), (q_p0_persons_moves, .inr (0, [.int v_p0_persons_moves_most, .ref q_p0_persons_moves_counts, .ref q_p0_persons_moves_froms, .ref q_p0_persons_moves_tos])), (q_p0_persons_moves_counts, .inl (cI, n_p0_persons_moves_counts, .inl F_p0_persons_moves_counts)), (q_p0_persons_moves_froms, .inl (cI, n_p0_persons_moves_froms, .inl F_p0_persons_moves_froms)), (q_p0_persons_moves_tos, .inl (cI, n_p0_persons_moves_tos, .inl F_p0_persons_moves_tos)), (q_p0_persons_moveStations, .inl (cI, n_p0_persons_moveStations, .inl F_p0_persons_moveStations)), (q_p0_persons_row, .inl (cI, n_p0_persons_row, .inl o1.2.2.2)), (r_p3, .inl (cJ, n_p3, .inr (.inl (vp_updL F_p3 (0 : Int32).toNatClampNeg ((o1.2.1 : Int32).toInt64)))))] s H locs := ⟨hP, hD, hS⟩
  refine lv_goto (tgt := 21) hx hb d_L_on_10 (by decide) ?_
  refine lv_iconst (v := 0) hx hb d_L_on_21 (by decide) ?_
  cases hf
  exact sr_retW (by decide) (by decide) (sr_iret hx hb hr hlocks hK G d_L_on_22)
/-! StationRowsLaw.at(LStationRows;III[J)I -/
abbrev rm_L_at : Room := { frames := 9, cells := 1, slots := 6, locals := 147 }
def f_L_at (n : Nat) (n_p0_stations_froms n_p0_stations_tos n_p0_persons_homes n_p0_persons_distances n_p0_persons_duties_counts n_p0_persons_duties_froms n_p0_persons_duties_tos n_p0_persons_moves_counts n_p0_persons_moves_froms n_p0_persons_moves_tos n_p0_persons_moveStations n_p0_persons_row n_p4 : Nat) (v_p0_stations_count : Int32) (F_p0_stations_froms : Nat → Int32) (F_p0_stations_tos : Nat → Int32) (v_p0_persons_rowLength : Int32) (v_p0_persons_count : Int32) (v_p0_persons_distanceLimit : Int32) (F_p0_persons_homes : Nat → Int32) (F_p0_persons_distances : Nat → Int32) (v_p0_persons_duties_most : Int32) (F_p0_persons_duties_counts : Nat → Int32) (F_p0_persons_duties_froms : Nat → Int32) (F_p0_persons_duties_tos : Nat → Int32) (v_p0_persons_moves_most : Int32) (F_p0_persons_moves_counts : Nat → Int32) (F_p0_persons_moves_froms : Nat → Int32) (F_p0_persons_moves_tos : Nat → Int32) (F_p0_persons_moveStations : Nat → Int32) (F_p0_persons_row : Nat → Int32) (F_p4 : Nat → Int64) (x1 x2 x3 : Int32) : Option (Int32 × Int32 × (Nat → Int32) × (Nat → Int64)) :=
    (sr_bd (f_S_at n n_p0_stations_froms n_p0_stations_tos n_p0_persons_homes n_p0_persons_distances n_p0_persons_duties_counts n_p0_persons_duties_froms n_p0_persons_duties_tos n_p0_persons_moves_counts n_p0_persons_moves_froms n_p0_persons_moves_tos n_p0_persons_moveStations n_p0_persons_row v_p0_stations_count F_p0_stations_froms F_p0_stations_tos v_p0_persons_rowLength v_p0_persons_count v_p0_persons_distanceLimit F_p0_persons_homes F_p0_persons_distances v_p0_persons_duties_most F_p0_persons_duties_counts F_p0_persons_duties_froms F_p0_persons_duties_tos v_p0_persons_moves_most F_p0_persons_moves_counts F_p0_persons_moves_froms F_p0_persons_moves_tos F_p0_persons_moveStations F_p0_persons_row x1 x2 x3) fun o1 =>
    (if o1.1 = 0 then
    (sr_bk 0 n_p4
    (some (0, o1.2.2.1, o1.2.2.2, (vp_updL F_p4 (0 : Int32).toNatClampNeg ((o1.2.1 : Int32).toInt64)))))
    else
    (if o1.1 = 1 then
    (some (1, o1.2.2.1, o1.2.2.2, F_p4))
    else
    (if o1.1 = 2 then
    (some (2, o1.2.2.1, o1.2.2.2, F_p4))
    else
    none))))
set_option maxHeartbeats 4000000 in
set_option maxRecDepth 100000 in
theorem c_L_at (l : Launch) (hfl : l.flags = flags0) (dC : Nat → ClassId) (dI : Nat → Nat → Nat) (cI cJ cZ : ClassId) (r_p0 r_p4 q_p0_stations q_p0_vehicles q_p0_persons q_p0_needs q_p0_checks q_p0_keys q_p0_stations_doors q_p0_stations_froms q_p0_stations_tos q_p0_persons_homes q_p0_persons_distances q_p0_persons_duties q_p0_persons_moves q_p0_persons_moveStations q_p0_persons_row q_p0_persons_duties_counts q_p0_persons_duties_froms q_p0_persons_duties_tos q_p0_persons_moves_counts q_p0_persons_moves_froms q_p0_persons_moves_tos : Nat) (n_p0_stations_froms n_p0_stations_tos n_p0_persons_homes n_p0_persons_distances n_p0_persons_duties_counts n_p0_persons_duties_froms n_p0_persons_duties_tos n_p0_persons_moves_counts n_p0_persons_moves_froms n_p0_persons_moves_tos n_p0_persons_moveStations n_p0_persons_row n_p4 : Nat) (v_p0_stations_count : Int32) (F_p0_stations_froms : Nat → Int32) (F_p0_stations_tos : Nat → Int32) (v_p0_persons_rowLength : Int32) (v_p0_persons_count : Int32) (v_p0_persons_distanceLimit : Int32) (F_p0_persons_homes : Nat → Int32) (F_p0_persons_distances : Nat → Int32) (v_p0_persons_duties_most : Int32) (F_p0_persons_duties_counts : Nat → Int32) (F_p0_persons_duties_froms : Nat → Int32) (F_p0_persons_duties_tos : Nat → Int32) (v_p0_persons_moves_most : Int32) (F_p0_persons_moves_counts : Nat → Int32) (F_p0_persons_moves_froms : Nat → Int32) (F_p0_persons_moves_tos : Nat → Int32) (F_p0_persons_moveStations : Nat → Int32) (F_p0_persons_row : Nat → Int32) (F_p4 : Nat → Int64) (x1 x2 x3 : Int32) (n : Nat) (o : Int32 × Int32 × (Nat → Int32) × (Nat → Int64)) (hf : f_L_at n n_p0_stations_froms n_p0_stations_tos n_p0_persons_homes n_p0_persons_distances n_p0_persons_duties_counts n_p0_persons_duties_froms n_p0_persons_duties_tos n_p0_persons_moves_counts n_p0_persons_moves_froms n_p0_persons_moves_tos n_p0_persons_moveStations n_p0_persons_row n_p4 v_p0_stations_count F_p0_stations_froms F_p0_stations_tos v_p0_persons_rowLength v_p0_persons_count v_p0_persons_distanceLimit F_p0_persons_homes F_p0_persons_distances v_p0_persons_duties_most F_p0_persons_duties_counts F_p0_persons_duties_froms F_p0_persons_duties_tos v_p0_persons_moves_most F_p0_persons_moves_counts F_p0_persons_moves_froms F_p0_persons_moves_tos F_p0_persons_moveStations F_p0_persons_row F_p4 x1 x2 x3 = some o) : sr_Wt l y_L_at (sr_WH y_L_at b_L_at 6 (some .int) hs_L_at) rm_L_at (dC, dI) (sr_ty cI cJ cZ) [.ref r_p0, .int x1, .int x2, .int x3, .ref r_p4] [(r_p0, .inr (7, [.ref q_p0_stations, .ref q_p0_vehicles, .ref q_p0_persons, .ref q_p0_needs, .ref q_p0_checks, .ref q_p0_keys])), (q_p0_stations, .inr (1, [.ref q_p0_stations_doors, .ref q_p0_stations_froms, .ref q_p0_stations_tos, .int v_p0_stations_count])), (q_p0_stations_froms, .inl (cI, n_p0_stations_froms, .inl F_p0_stations_froms)), (q_p0_stations_tos, .inl (cI, n_p0_stations_tos, .inl F_p0_stations_tos)), (q_p0_persons, .inr (3, [.ref q_p0_persons_homes, .ref q_p0_persons_distances, .ref q_p0_persons_duties, .ref q_p0_persons_moves, .ref q_p0_persons_moveStations, .ref q_p0_persons_row, .int v_p0_persons_rowLength, .int v_p0_persons_count, .int v_p0_persons_distanceLimit])), (q_p0_persons_homes, .inl (cI, n_p0_persons_homes, .inl F_p0_persons_homes)), (q_p0_persons_distances, .inl (cI, n_p0_persons_distances, .inl F_p0_persons_distances)), (q_p0_persons_duties, .inr (0, [.int v_p0_persons_duties_most, .ref q_p0_persons_duties_counts, .ref q_p0_persons_duties_froms, .ref q_p0_persons_duties_tos])), (q_p0_persons_duties_counts, .inl (cI, n_p0_persons_duties_counts, .inl F_p0_persons_duties_counts)), (q_p0_persons_duties_froms, .inl (cI, n_p0_persons_duties_froms, .inl F_p0_persons_duties_froms)), (q_p0_persons_duties_tos, .inl (cI, n_p0_persons_duties_tos, .inl F_p0_persons_duties_tos)), (q_p0_persons_moves, .inr (0, [.int v_p0_persons_moves_most, .ref q_p0_persons_moves_counts, .ref q_p0_persons_moves_froms, .ref q_p0_persons_moves_tos])), (q_p0_persons_moves_counts, .inl (cI, n_p0_persons_moves_counts, .inl F_p0_persons_moves_counts)), (q_p0_persons_moves_froms, .inl (cI, n_p0_persons_moves_froms, .inl F_p0_persons_moves_froms)), (q_p0_persons_moves_tos, .inl (cI, n_p0_persons_moves_tos, .inl F_p0_persons_moves_tos)), (q_p0_persons_moveStations, .inl (cI, n_p0_persons_moveStations, .inl F_p0_persons_moveStations)), (q_p0_persons_row, .inl (cI, n_p0_persons_row, .inl F_p0_persons_row)), (r_p4, .inl (cJ, n_p4, .inr (.inl F_p4)))] (some (.int o.1)) [(r_p0, .inr (7, [.ref q_p0_stations, .ref q_p0_vehicles, .ref q_p0_persons, .ref q_p0_needs, .ref q_p0_checks, .ref q_p0_keys])), (q_p0_stations, .inr (1, [.ref q_p0_stations_doors, .ref q_p0_stations_froms, .ref q_p0_stations_tos, .int v_p0_stations_count])), (q_p0_stations_froms, .inl (cI, n_p0_stations_froms, .inl F_p0_stations_froms)), (q_p0_stations_tos, .inl (cI, n_p0_stations_tos, .inl F_p0_stations_tos)), (q_p0_persons, .inr (3, [.ref q_p0_persons_homes, .ref q_p0_persons_distances, .ref q_p0_persons_duties, .ref q_p0_persons_moves, .ref q_p0_persons_moveStations, .ref q_p0_persons_row, .int o.2.1, .int v_p0_persons_count, .int v_p0_persons_distanceLimit])), (q_p0_persons_homes, .inl (cI, n_p0_persons_homes, .inl F_p0_persons_homes)), (q_p0_persons_distances, .inl (cI, n_p0_persons_distances, .inl F_p0_persons_distances)), (q_p0_persons_duties, .inr (0, [.int v_p0_persons_duties_most, .ref q_p0_persons_duties_counts, .ref q_p0_persons_duties_froms, .ref q_p0_persons_duties_tos])), (q_p0_persons_duties_counts, .inl (cI, n_p0_persons_duties_counts, .inl F_p0_persons_duties_counts)), (q_p0_persons_duties_froms, .inl (cI, n_p0_persons_duties_froms, .inl F_p0_persons_duties_froms)), (q_p0_persons_duties_tos, .inl (cI, n_p0_persons_duties_tos, .inl F_p0_persons_duties_tos)), (q_p0_persons_moves, .inr (0, [.int v_p0_persons_moves_most, .ref q_p0_persons_moves_counts, .ref q_p0_persons_moves_froms, .ref q_p0_persons_moves_tos])), (q_p0_persons_moves_counts, .inl (cI, n_p0_persons_moves_counts, .inl F_p0_persons_moves_counts)), (q_p0_persons_moves_froms, .inl (cI, n_p0_persons_moves_froms, .inl F_p0_persons_moves_froms)), (q_p0_persons_moves_tos, .inl (cI, n_p0_persons_moves_tos, .inl F_p0_persons_moves_tos)), (q_p0_persons_moveStations, .inl (cI, n_p0_persons_moveStations, .inl F_p0_persons_moveStations)), (q_p0_persons_row, .inl (cI, n_p0_persons_row, .inl o.2.2.1)), (r_p4, .inl (cJ, n_p4, .inr (.inl o.2.2.2)))] := by
  refine sr_Wt.of (cc := b_L_at) (maxL := 6) (ret := (some .int)) (hs := hs_L_at) (by decide) rfl (Nat.le_of_ble_eq_true rfl) ?_
  intro p e s m below meth c A ls C0 hes hA hK hz G hl
  obtain ⟨hx, hb, hml, hr, hown, hts, hlocks, hnm⟩ := id C0
  generalize hargs : ([.ref r_p0, .int x1, .int x2, .int x3, .ref r_p4] : List Value).toArray = args at C0 hts ⊢
  have hws := sr_hwsH hts
  replace hl : lv_has ls 6 [(0, .ref r_p0), (1, .int x1), (2, .int x2), (3, .int x3), (4, .ref r_p4)] := hl
  replace hf : (sr_bd (f_S_at n n_p0_stations_froms n_p0_stations_tos n_p0_persons_homes n_p0_persons_distances n_p0_persons_duties_counts n_p0_persons_duties_froms n_p0_persons_duties_tos n_p0_persons_moves_counts n_p0_persons_moves_froms n_p0_persons_moves_tos n_p0_persons_moveStations n_p0_persons_row v_p0_stations_count F_p0_stations_froms F_p0_stations_tos v_p0_persons_rowLength v_p0_persons_count v_p0_persons_distanceLimit F_p0_persons_homes F_p0_persons_distances v_p0_persons_duties_most F_p0_persons_duties_counts F_p0_persons_duties_froms F_p0_persons_duties_tos v_p0_persons_moves_most F_p0_persons_moves_counts F_p0_persons_moves_froms F_p0_persons_moves_tos F_p0_persons_moveStations F_p0_persons_row x1 x2 x3) fun o1 =>
    (if o1.1 = 0 then
    (sr_bk 0 n_p4
    (some (0, o1.2.2.1, o1.2.2.2, (vp_updL F_p4 (0 : Int32).toNatClampNeg ((o1.2.1 : Int32).toInt64)))))
    else
    (if o1.1 = 1 then
    (some (1, o1.2.2.1, o1.2.2.2, F_p4))
    else
    (if o1.1 = 2 then
    (some (2, o1.2.2.1, o1.2.2.2, F_p4))
    else
    none)))) = some o := hf
  refine lv_aload hx hb d_L_at_0 (lv_at hl 4 rfl) ?_
  refine lv_iconst (v := 0) hx hb d_L_at_2 (by decide) ?_
  refine lv_aload_n hx hb d_L_at_3 rfl (lv_at hl 0 rfl) ?_
  refine lv_iload_n hx hb d_L_at_4 rfl (lv_at hl 1 rfl) ?_
  refine lv_iload_n hx hb d_L_at_5 rfl (lv_at hl 2 rfl) ?_
  refine lv_iload_n hx hb d_L_at_6 rfl (lv_at hl 3 rfl) ?_
  obtain ⟨o1, ho1, hf⟩ := sr_bd_e hf
  refine sr_callTV (ci := 7) (vc := ("StationRows", zf_S, 6)) (wr := [(r_p4, .inl (cJ, n_p4, .inr (.inl F_p4)))]) (ws1 := [(r_p0, .inr (7, [.ref q_p0_stations, .ref q_p0_vehicles, .ref q_p0_persons, .ref q_p0_needs, .ref q_p0_checks, .ref q_p0_keys])), (q_p0_stations, .inr (1, [.ref q_p0_stations_doors, .ref q_p0_stations_froms, .ref q_p0_stations_tos, .int v_p0_stations_count])), (q_p0_stations_froms, .inl (cI, n_p0_stations_froms, .inl F_p0_stations_froms)), (q_p0_stations_tos, .inl (cI, n_p0_stations_tos, .inl F_p0_stations_tos)), (q_p0_persons, .inr (3, [.ref q_p0_persons_homes, .ref q_p0_persons_distances, .ref q_p0_persons_duties, .ref q_p0_persons_moves, .ref q_p0_persons_moveStations, .ref q_p0_persons_row, .int o1.2.2.1, .int v_p0_persons_count, .int v_p0_persons_distanceLimit])), (q_p0_persons_homes, .inl (cI, n_p0_persons_homes, .inl F_p0_persons_homes)), (q_p0_persons_distances, .inl (cI, n_p0_persons_distances, .inl F_p0_persons_distances)), (q_p0_persons_duties, .inr (0, [.int v_p0_persons_duties_most, .ref q_p0_persons_duties_counts, .ref q_p0_persons_duties_froms, .ref q_p0_persons_duties_tos])), (q_p0_persons_duties_counts, .inl (cI, n_p0_persons_duties_counts, .inl F_p0_persons_duties_counts)), (q_p0_persons_duties_froms, .inl (cI, n_p0_persons_duties_froms, .inl F_p0_persons_duties_froms)), (q_p0_persons_duties_tos, .inl (cI, n_p0_persons_duties_tos, .inl F_p0_persons_duties_tos)), (q_p0_persons_moves, .inr (0, [.int v_p0_persons_moves_most, .ref q_p0_persons_moves_counts, .ref q_p0_persons_moves_froms, .ref q_p0_persons_moves_tos])), (q_p0_persons_moves_counts, .inl (cI, n_p0_persons_moves_counts, .inl F_p0_persons_moves_counts)), (q_p0_persons_moves_froms, .inl (cI, n_p0_persons_moves_froms, .inl F_p0_persons_moves_froms)), (q_p0_persons_moves_tos, .inl (cI, n_p0_persons_moves_tos, .inl F_p0_persons_moves_tos)), (q_p0_persons_moveStations, .inl (cI, n_p0_persons_moveStations, .inl F_p0_persons_moveStations)), (q_p0_persons_row, .inl (cI, n_p0_persons_row, .inl o1.2.2.2)), (r_p4, .inl (cJ, n_p4, .inr (.inl F_p4)))]) (rest := [.int 0, .ref r_p4]) (st1 := [.int o1.2.1, .int 0, .ref r_p4]) ⟨hx, hb, hml, hown, hts⟩ (c_S_at l hfl dC dI cI cJ cZ r_p0 q_p0_stations q_p0_vehicles q_p0_persons q_p0_needs q_p0_checks q_p0_keys q_p0_stations_doors q_p0_stations_froms q_p0_stations_tos q_p0_persons_homes q_p0_persons_distances q_p0_persons_duties q_p0_persons_moves q_p0_persons_moveStations q_p0_persons_row q_p0_persons_duties_counts q_p0_persons_duties_froms q_p0_persons_duties_tos q_p0_persons_moves_counts q_p0_persons_moves_froms q_p0_persons_moves_tos n_p0_stations_froms n_p0_stations_tos n_p0_persons_homes n_p0_persons_distances n_p0_persons_duties_counts n_p0_persons_duties_froms n_p0_persons_duties_tos n_p0_persons_moves_counts n_p0_persons_moves_froms n_p0_persons_moves_tos n_p0_persons_moveStations n_p0_persons_row v_p0_stations_count F_p0_stations_froms F_p0_stations_tos v_p0_persons_rowLength v_p0_persons_count v_p0_persons_distanceLimit F_p0_persons_homes F_p0_persons_distances v_p0_persons_duties_most F_p0_persons_duties_counts F_p0_persons_duties_froms F_p0_persons_duties_tos v_p0_persons_moves_most F_p0_persons_moves_counts F_p0_persons_moves_froms F_p0_persons_moves_tos F_p0_persons_moveStations F_p0_persons_row x1 x2 x3 n o1 ho1) ⟨(sr_cB 3 hws k_545 k_26 k_542 (by decide +kernel) ⟨Nat.le_of_ble_eq_true rfl, Nat.le_of_ble_eq_true rfl⟩), hws _ k_543, hws _ k_544⟩ hK hz G hA [0, 1, 2, 3, 4, 5, 6, 7, 8, 9, 10, 11, 12, 13, 14, 15, 16] [17] [1, 2, 3, 4, 5, 6, 7, 8, 9, 10, 11, 12, 13, 14, 15, 16, 17, 0] rfl (by decide) rfl (by decide) (by decide) rfl (by decide) 0 rfl rfl rfl hl.1 rfl (Nat.le_of_ble_eq_true rfl) d_L_at_7 ⟨Nat.le_of_ble_eq_true rfl, Nat.le_of_ble_eq_true rfl⟩ rfl (fun C hC x H locs G hsz hxo => ?_) (fun hz0 H locs G => ?_)
  · replace hf := (if_neg (sr_nz hC)).symm.trans hf
    by_cases c2 : o1.1 = 1
    · replace hf := (if_pos c2).symm.trans hf
      have hC2 := sr_ocC c2 hC
      cases hC2
      refine sr_WT.catch (own := "StationRowsLaw") (hn := [(15, "java/lang/IllegalArgumentException"), (19, "java/lang/IndexOutOfBoundsException")]) (pcH := 15) hown hxo (hz.2.2.1 _ sr_c1) (by rw [hes]; exact ⟨⟨by decide, by decide, rfl, hws _ k_358, Or.inl rfl⟩, ⟨by decide, by decide, rfl, hws _ k_234, Or.inr (hz.2.2.2.2 ("java/lang/IllegalArgumentException", "java/lang/IndexOutOfBoundsException") (by decide))⟩, trivial⟩) rfl ?_
      refine lv_astore (lv' := [(5, .ref x), (0, .ref r_p0), (1, .int x1), (2, .int x2), (3, .int x3), (4, .ref r_p4)]) hx hb d_L_at_15 hl (by decide) rfl (fun ls hl => ?_)
      refine lv_iconst (v := 1) hx hb d_L_at_17 (by decide) ?_
      cases hf
      exact sr_retW (by decide) (by decide) (sr_iret hx hb hr hlocks hK G d_L_at_18)
    replace hf := (if_neg c2).symm.trans hf
    by_cases c3 : o1.1 = 2
    · replace hf := (if_pos c3).symm.trans hf
      have hC2 := sr_ocC c3 hC
      cases hC2
      refine sr_WT.catch (own := "StationRowsLaw") (hn := [(15, "java/lang/IllegalArgumentException"), (19, "java/lang/IndexOutOfBoundsException")]) (pcH := 19) hown hxo (hz.2.2.1 _ sr_c2) (by rw [hes]; exact ⟨⟨by decide, by decide, rfl, hws _ k_358, Or.inr (hz.2.2.2.2 ("java/lang/IndexOutOfBoundsException", "java/lang/IllegalArgumentException") (by decide))⟩, ⟨by decide, by decide, rfl, hws _ k_234, Or.inl rfl⟩, trivial⟩) rfl ?_
      refine lv_astore (lv' := [(5, .ref x), (0, .ref r_p0), (1, .int x1), (2, .int x2), (3, .int x3), (4, .ref r_p4)]) hx hb d_L_at_19 hl (by decide) rfl (fun ls hl => ?_)
      refine lv_iconst (v := 2) hx hb d_L_at_21 (by decide) ?_
      cases hf
      exact sr_retW (by decide) (by decide) (sr_iret hx hb hr hlocks hK G d_L_at_22)
    replace hf := (if_neg c3).symm.trans hf
    exact sr_no hf
  replace hf := (if_pos hz0).symm.trans hf
  refine lv_i2l hx hb d_L_at_10 rfl ?_
  obtain ⟨hi4, hf⟩ := sr_bk_e hf
  refine va_last hx hb hK G.1 G.2.1 G.2.2 17 1 rfl rfl hi4 d_L_at_11 (fun H locs hP hD hS => ?_)
  have G : sr_G (dC, dI) A [(r_p0, .inr (7, [.ref q_p0_stations, .ref q_p0_vehicles, .ref q_p0_persons, .ref q_p0_needs, .ref q_p0_checks, .ref q_p0_keys])), (q_p0_stations, .inr (1, [.ref q_p0_stations_doors, .ref q_p0_stations_froms, .ref q_p0_stations_tos, .int v_p0_stations_count])), (q_p0_stations_froms, .inl (cI, n_p0_stations_froms, .inl F_p0_stations_froms)), (q_p0_stations_tos, .inl (cI, n_p0_stations_tos, .inl F_p0_stations_tos)), (q_p0_persons, .inr (3, [.ref q_p0_persons_homes, .ref q_p0_persons_distances, .ref q_p0_persons_duties, .ref q_p0_persons_moves, .ref q_p0_persons_moveStations, .ref q_p0_persons_row, .int o1.2.2.1, .int v_p0_persons_count, .int v_p0_persons_distanceLimit])), (q_p0_persons_homes, .inl (cI, n_p0_persons_homes, .inl F_p0_persons_homes)), (q_p0_persons_distances, .inl (cI, n_p0_persons_distances, .inl F_p0_persons_distances)), (q_p0_persons_duties, .inr (0, [.int v_p0_persons_duties_most, .ref q_p0_persons_duties_counts, .ref q_p0_persons_duties_froms, .ref q_p0_persons_duties_tos])), (q_p0_persons_duties_counts, .inl (cI, n_p0_persons_duties_counts, .inl F_p0_persons_duties_counts)), (q_p0_persons_duties_froms, .inl (cI, n_p0_persons_duties_froms, .inl F_p0_persons_duties_froms)), (q_p0_persons_duties_tos, .inl (cI, n_p0_persons_duties_tos, .inl F_p0_persons_duties_tos)), (q_p0_persons_moves, .inr (0, [.int v_p0_persons_moves_most, .ref q_p0_persons_moves_counts, .ref q_p0_persons_moves_froms, .ref q_p0_persons_moves_tos])), (q_p0_persons_moves_counts, .inl (cI, n_p0_persons_moves_counts, .inl F_p0_persons_moves_counts)), (q_p0_persons_moves_froms, .inl (cI, n_p0_persons_moves_froms, .inl F_p0_persons_moves_froms)), (q_p0_persons_moves_tos, .inl (cI, n_p0_persons_moves_tos, .inl F_p0_persons_moves_tos)), (q_p0_persons_moveStations, .inl (cI, n_p0_persons_moveStations, .inl F_p0_persons_moveStations)), (q_p0_persons_row, .inl (cI, n_p0_persons_row, .inl o1.2.2.2)), (r_p4, .inl (cJ, n_p4, .inr (.inl (vp_updL F_p4 (0 : Int32).toNatClampNeg ((o1.2.1 : Int32).toInt64)))))] s H locs := ⟨hP, hD, hS⟩
  refine lv_goto (tgt := 23) hx hb d_L_at_12 (by decide) ?_
  refine lv_iconst (v := 0) hx hb d_L_at_23 (by decide) ?_
  cases hf
  exact sr_retW (by decide) (by decide) (sr_iret hx hb hr hlocks hK G d_L_at_24)
/-! StationRowsLaw.vehicleAt(LStationRows;III[J)I -/
abbrev rm_L_vehicleAt : Room := { frames := 9, cells := 1, slots := 6, locals := 167 }
def f_L_vehicleAt (n : Nat) (n_p0_stations_froms n_p0_stations_tos n_p0_vehicles_stationRow n_p0_vehicles_kinds n_p0_vehicles_crews n_p0_vehicles_outs_counts n_p0_vehicles_outs_froms n_p0_vehicles_outs_tos n_p0_vehicles_standsFor n_p0_vehicles_spares n_p0_persons_homes n_p0_persons_distances n_p0_persons_duties_counts n_p0_persons_duties_froms n_p0_persons_duties_tos n_p0_persons_moves_counts n_p0_persons_moves_froms n_p0_persons_moves_tos n_p0_persons_moveStations n_p0_persons_row n_p4 : Nat) (F_p0_stations_froms : Nat → Int32) (F_p0_stations_tos : Nat → Int32) (v_p0_vehicles_count : Int32) (F_p0_vehicles_stationRow : Nat → Int32) (F_p0_vehicles_kinds : Nat → Int32) (F_p0_vehicles_crews : Nat → Int32) (v_p0_vehicles_outs_most : Int32) (F_p0_vehicles_outs_counts : Nat → Int32) (F_p0_vehicles_outs_froms : Nat → Int32) (F_p0_vehicles_outs_tos : Nat → Int32) (F_p0_vehicles_standsFor : Nat → Int32) (F_p0_vehicles_spares : Nat → Int32) (v_p0_persons_rowLength : Int32) (v_p0_persons_count : Int32) (v_p0_persons_distanceLimit : Int32) (F_p0_persons_homes : Nat → Int32) (F_p0_persons_distances : Nat → Int32) (v_p0_persons_duties_most : Int32) (F_p0_persons_duties_counts : Nat → Int32) (F_p0_persons_duties_froms : Nat → Int32) (F_p0_persons_duties_tos : Nat → Int32) (v_p0_persons_moves_most : Int32) (F_p0_persons_moves_counts : Nat → Int32) (F_p0_persons_moves_froms : Nat → Int32) (F_p0_persons_moves_tos : Nat → Int32) (F_p0_persons_moveStations : Nat → Int32) (F_p0_persons_row : Nat → Int32) (F_p4 : Nat → Int64) (x1 x2 x3 : Int32) : Option (Int32 × (Nat → Int32) × (Nat → Int32) × Int32 × (Nat → Int32) × (Nat → Int64)) :=
    (sr_bd (f_S_vehicleAt n n_p0_stations_froms n_p0_stations_tos n_p0_vehicles_stationRow n_p0_vehicles_kinds n_p0_vehicles_crews n_p0_vehicles_outs_counts n_p0_vehicles_outs_froms n_p0_vehicles_outs_tos n_p0_vehicles_standsFor n_p0_vehicles_spares n_p0_persons_homes n_p0_persons_distances n_p0_persons_duties_counts n_p0_persons_duties_froms n_p0_persons_duties_tos n_p0_persons_moves_counts n_p0_persons_moves_froms n_p0_persons_moves_tos n_p0_persons_moveStations n_p0_persons_row F_p0_stations_froms F_p0_stations_tos v_p0_vehicles_count F_p0_vehicles_stationRow F_p0_vehicles_kinds F_p0_vehicles_crews v_p0_vehicles_outs_most F_p0_vehicles_outs_counts F_p0_vehicles_outs_froms F_p0_vehicles_outs_tos F_p0_vehicles_standsFor F_p0_vehicles_spares v_p0_persons_rowLength v_p0_persons_count v_p0_persons_distanceLimit F_p0_persons_homes F_p0_persons_distances v_p0_persons_duties_most F_p0_persons_duties_counts F_p0_persons_duties_froms F_p0_persons_duties_tos v_p0_persons_moves_most F_p0_persons_moves_counts F_p0_persons_moves_froms F_p0_persons_moves_tos F_p0_persons_moveStations F_p0_persons_row x1 x2 x3) fun o1 =>
    (if o1.1 = 0 then
    (sr_bk 0 n_p4
    (some (0, o1.2.2.1, o1.2.2.2.1, o1.2.2.2.2.1, o1.2.2.2.2.2, (vp_updL F_p4 (0 : Int32).toNatClampNeg ((o1.2.1 : Int32).toInt64)))))
    else
    (if o1.1 = 1 then
    (some (1, o1.2.2.1, o1.2.2.2.1, o1.2.2.2.2.1, o1.2.2.2.2.2, F_p4))
    else
    (if o1.1 = 2 then
    (some (2, o1.2.2.1, o1.2.2.2.1, o1.2.2.2.2.1, o1.2.2.2.2.2, F_p4))
    else
    none))))
set_option maxHeartbeats 4000000 in
set_option maxRecDepth 100000 in
theorem c_L_vehicleAt (l : Launch) (hfl : l.flags = flags0) (dC : Nat → ClassId) (dI : Nat → Nat → Nat) (cI cJ cZ : ClassId) (r_p0 r_p4 q_p0_stations q_p0_vehicles q_p0_persons q_p0_needs q_p0_checks q_p0_keys q_p0_stations_doors q_p0_stations_froms q_p0_stations_tos q_p0_vehicles_stationRow q_p0_vehicles_kinds q_p0_vehicles_crews q_p0_vehicles_outs q_p0_vehicles_standsFor q_p0_vehicles_spares q_p0_vehicles_outs_counts q_p0_vehicles_outs_froms q_p0_vehicles_outs_tos q_p0_persons_homes q_p0_persons_distances q_p0_persons_duties q_p0_persons_moves q_p0_persons_moveStations q_p0_persons_row q_p0_persons_duties_counts q_p0_persons_duties_froms q_p0_persons_duties_tos q_p0_persons_moves_counts q_p0_persons_moves_froms q_p0_persons_moves_tos : Nat) (n_p0_stations_froms n_p0_stations_tos n_p0_vehicles_stationRow n_p0_vehicles_kinds n_p0_vehicles_crews n_p0_vehicles_outs_counts n_p0_vehicles_outs_froms n_p0_vehicles_outs_tos n_p0_vehicles_standsFor n_p0_vehicles_spares n_p0_persons_homes n_p0_persons_distances n_p0_persons_duties_counts n_p0_persons_duties_froms n_p0_persons_duties_tos n_p0_persons_moves_counts n_p0_persons_moves_froms n_p0_persons_moves_tos n_p0_persons_moveStations n_p0_persons_row n_p4 : Nat) (v_p0_stations_count : Int32) (F_p0_stations_froms : Nat → Int32) (F_p0_stations_tos : Nat → Int32) (v_p0_vehicles_count : Int32) (F_p0_vehicles_stationRow : Nat → Int32) (F_p0_vehicles_kinds : Nat → Int32) (F_p0_vehicles_crews : Nat → Int32) (v_p0_vehicles_outs_most : Int32) (F_p0_vehicles_outs_counts : Nat → Int32) (F_p0_vehicles_outs_froms : Nat → Int32) (F_p0_vehicles_outs_tos : Nat → Int32) (F_p0_vehicles_standsFor : Nat → Int32) (F_p0_vehicles_spares : Nat → Int32) (v_p0_persons_rowLength : Int32) (v_p0_persons_count : Int32) (v_p0_persons_distanceLimit : Int32) (F_p0_persons_homes : Nat → Int32) (F_p0_persons_distances : Nat → Int32) (v_p0_persons_duties_most : Int32) (F_p0_persons_duties_counts : Nat → Int32) (F_p0_persons_duties_froms : Nat → Int32) (F_p0_persons_duties_tos : Nat → Int32) (v_p0_persons_moves_most : Int32) (F_p0_persons_moves_counts : Nat → Int32) (F_p0_persons_moves_froms : Nat → Int32) (F_p0_persons_moves_tos : Nat → Int32) (F_p0_persons_moveStations : Nat → Int32) (F_p0_persons_row : Nat → Int32) (F_p4 : Nat → Int64) (x1 x2 x3 : Int32) (n : Nat) (o : Int32 × (Nat → Int32) × (Nat → Int32) × Int32 × (Nat → Int32) × (Nat → Int64)) (hf : f_L_vehicleAt n n_p0_stations_froms n_p0_stations_tos n_p0_vehicles_stationRow n_p0_vehicles_kinds n_p0_vehicles_crews n_p0_vehicles_outs_counts n_p0_vehicles_outs_froms n_p0_vehicles_outs_tos n_p0_vehicles_standsFor n_p0_vehicles_spares n_p0_persons_homes n_p0_persons_distances n_p0_persons_duties_counts n_p0_persons_duties_froms n_p0_persons_duties_tos n_p0_persons_moves_counts n_p0_persons_moves_froms n_p0_persons_moves_tos n_p0_persons_moveStations n_p0_persons_row n_p4 F_p0_stations_froms F_p0_stations_tos v_p0_vehicles_count F_p0_vehicles_stationRow F_p0_vehicles_kinds F_p0_vehicles_crews v_p0_vehicles_outs_most F_p0_vehicles_outs_counts F_p0_vehicles_outs_froms F_p0_vehicles_outs_tos F_p0_vehicles_standsFor F_p0_vehicles_spares v_p0_persons_rowLength v_p0_persons_count v_p0_persons_distanceLimit F_p0_persons_homes F_p0_persons_distances v_p0_persons_duties_most F_p0_persons_duties_counts F_p0_persons_duties_froms F_p0_persons_duties_tos v_p0_persons_moves_most F_p0_persons_moves_counts F_p0_persons_moves_froms F_p0_persons_moves_tos F_p0_persons_moveStations F_p0_persons_row F_p4 x1 x2 x3 = some o) : sr_Wt l y_L_vehicleAt (sr_WH y_L_vehicleAt b_L_vehicleAt 6 (some .int) hs_L_vehicleAt) rm_L_vehicleAt (dC, dI) (sr_ty cI cJ cZ) [.ref r_p0, .int x1, .int x2, .int x3, .ref r_p4] [(r_p0, .inr (7, [.ref q_p0_stations, .ref q_p0_vehicles, .ref q_p0_persons, .ref q_p0_needs, .ref q_p0_checks, .ref q_p0_keys])), (q_p0_stations, .inr (1, [.ref q_p0_stations_doors, .ref q_p0_stations_froms, .ref q_p0_stations_tos, .int v_p0_stations_count])), (q_p0_stations_froms, .inl (cI, n_p0_stations_froms, .inl F_p0_stations_froms)), (q_p0_stations_tos, .inl (cI, n_p0_stations_tos, .inl F_p0_stations_tos)), (q_p0_vehicles, .inr (2, [.ref q_p0_vehicles_stationRow, .ref q_p0_vehicles_kinds, .ref q_p0_vehicles_crews, .ref q_p0_vehicles_outs, .ref q_p0_vehicles_standsFor, .ref q_p0_vehicles_spares, .int v_p0_vehicles_count])), (q_p0_vehicles_stationRow, .inl (cI, n_p0_vehicles_stationRow, .inl F_p0_vehicles_stationRow)), (q_p0_vehicles_kinds, .inl (cI, n_p0_vehicles_kinds, .inl F_p0_vehicles_kinds)), (q_p0_vehicles_crews, .inl (cI, n_p0_vehicles_crews, .inl F_p0_vehicles_crews)), (q_p0_vehicles_outs, .inr (0, [.int v_p0_vehicles_outs_most, .ref q_p0_vehicles_outs_counts, .ref q_p0_vehicles_outs_froms, .ref q_p0_vehicles_outs_tos])), (q_p0_vehicles_outs_counts, .inl (cI, n_p0_vehicles_outs_counts, .inl F_p0_vehicles_outs_counts)), (q_p0_vehicles_outs_froms, .inl (cI, n_p0_vehicles_outs_froms, .inl F_p0_vehicles_outs_froms)), (q_p0_vehicles_outs_tos, .inl (cI, n_p0_vehicles_outs_tos, .inl F_p0_vehicles_outs_tos)), (q_p0_vehicles_standsFor, .inl (cI, n_p0_vehicles_standsFor, .inl F_p0_vehicles_standsFor)), (q_p0_vehicles_spares, .inl (cI, n_p0_vehicles_spares, .inl F_p0_vehicles_spares)), (q_p0_persons, .inr (3, [.ref q_p0_persons_homes, .ref q_p0_persons_distances, .ref q_p0_persons_duties, .ref q_p0_persons_moves, .ref q_p0_persons_moveStations, .ref q_p0_persons_row, .int v_p0_persons_rowLength, .int v_p0_persons_count, .int v_p0_persons_distanceLimit])), (q_p0_persons_homes, .inl (cI, n_p0_persons_homes, .inl F_p0_persons_homes)), (q_p0_persons_distances, .inl (cI, n_p0_persons_distances, .inl F_p0_persons_distances)), (q_p0_persons_duties, .inr (0, [.int v_p0_persons_duties_most, .ref q_p0_persons_duties_counts, .ref q_p0_persons_duties_froms, .ref q_p0_persons_duties_tos])), (q_p0_persons_duties_counts, .inl (cI, n_p0_persons_duties_counts, .inl F_p0_persons_duties_counts)), (q_p0_persons_duties_froms, .inl (cI, n_p0_persons_duties_froms, .inl F_p0_persons_duties_froms)), (q_p0_persons_duties_tos, .inl (cI, n_p0_persons_duties_tos, .inl F_p0_persons_duties_tos)), (q_p0_persons_moves, .inr (0, [.int v_p0_persons_moves_most, .ref q_p0_persons_moves_counts, .ref q_p0_persons_moves_froms, .ref q_p0_persons_moves_tos])), (q_p0_persons_moves_counts, .inl (cI, n_p0_persons_moves_counts, .inl F_p0_persons_moves_counts)), (q_p0_persons_moves_froms, .inl (cI, n_p0_persons_moves_froms, .inl F_p0_persons_moves_froms)), (q_p0_persons_moves_tos, .inl (cI, n_p0_persons_moves_tos, .inl F_p0_persons_moves_tos)), (q_p0_persons_moveStations, .inl (cI, n_p0_persons_moveStations, .inl F_p0_persons_moveStations)), (q_p0_persons_row, .inl (cI, n_p0_persons_row, .inl F_p0_persons_row)), (r_p4, .inl (cJ, n_p4, .inr (.inl F_p4)))] (some (.int o.1)) [(r_p0, .inr (7, [.ref q_p0_stations, .ref q_p0_vehicles, .ref q_p0_persons, .ref q_p0_needs, .ref q_p0_checks, .ref q_p0_keys])), (q_p0_stations, .inr (1, [.ref q_p0_stations_doors, .ref q_p0_stations_froms, .ref q_p0_stations_tos, .int v_p0_stations_count])), (q_p0_stations_froms, .inl (cI, n_p0_stations_froms, .inl F_p0_stations_froms)), (q_p0_stations_tos, .inl (cI, n_p0_stations_tos, .inl F_p0_stations_tos)), (q_p0_vehicles, .inr (2, [.ref q_p0_vehicles_stationRow, .ref q_p0_vehicles_kinds, .ref q_p0_vehicles_crews, .ref q_p0_vehicles_outs, .ref q_p0_vehicles_standsFor, .ref q_p0_vehicles_spares, .int v_p0_vehicles_count])), (q_p0_vehicles_stationRow, .inl (cI, n_p0_vehicles_stationRow, .inl F_p0_vehicles_stationRow)), (q_p0_vehicles_kinds, .inl (cI, n_p0_vehicles_kinds, .inl F_p0_vehicles_kinds)), (q_p0_vehicles_crews, .inl (cI, n_p0_vehicles_crews, .inl F_p0_vehicles_crews)), (q_p0_vehicles_outs, .inr (0, [.int v_p0_vehicles_outs_most, .ref q_p0_vehicles_outs_counts, .ref q_p0_vehicles_outs_froms, .ref q_p0_vehicles_outs_tos])), (q_p0_vehicles_outs_counts, .inl (cI, n_p0_vehicles_outs_counts, .inl F_p0_vehicles_outs_counts)), (q_p0_vehicles_outs_froms, .inl (cI, n_p0_vehicles_outs_froms, .inl F_p0_vehicles_outs_froms)), (q_p0_vehicles_outs_tos, .inl (cI, n_p0_vehicles_outs_tos, .inl F_p0_vehicles_outs_tos)), (q_p0_vehicles_standsFor, .inl (cI, n_p0_vehicles_standsFor, .inl o.2.1)), (q_p0_vehicles_spares, .inl (cI, n_p0_vehicles_spares, .inl o.2.2.1)), (q_p0_persons, .inr (3, [.ref q_p0_persons_homes, .ref q_p0_persons_distances, .ref q_p0_persons_duties, .ref q_p0_persons_moves, .ref q_p0_persons_moveStations, .ref q_p0_persons_row, .int o.2.2.2.1, .int v_p0_persons_count, .int v_p0_persons_distanceLimit])), (q_p0_persons_homes, .inl (cI, n_p0_persons_homes, .inl F_p0_persons_homes)), (q_p0_persons_distances, .inl (cI, n_p0_persons_distances, .inl F_p0_persons_distances)), (q_p0_persons_duties, .inr (0, [.int v_p0_persons_duties_most, .ref q_p0_persons_duties_counts, .ref q_p0_persons_duties_froms, .ref q_p0_persons_duties_tos])), (q_p0_persons_duties_counts, .inl (cI, n_p0_persons_duties_counts, .inl F_p0_persons_duties_counts)), (q_p0_persons_duties_froms, .inl (cI, n_p0_persons_duties_froms, .inl F_p0_persons_duties_froms)), (q_p0_persons_duties_tos, .inl (cI, n_p0_persons_duties_tos, .inl F_p0_persons_duties_tos)), (q_p0_persons_moves, .inr (0, [.int v_p0_persons_moves_most, .ref q_p0_persons_moves_counts, .ref q_p0_persons_moves_froms, .ref q_p0_persons_moves_tos])), (q_p0_persons_moves_counts, .inl (cI, n_p0_persons_moves_counts, .inl F_p0_persons_moves_counts)), (q_p0_persons_moves_froms, .inl (cI, n_p0_persons_moves_froms, .inl F_p0_persons_moves_froms)), (q_p0_persons_moves_tos, .inl (cI, n_p0_persons_moves_tos, .inl F_p0_persons_moves_tos)), (q_p0_persons_moveStations, .inl (cI, n_p0_persons_moveStations, .inl F_p0_persons_moveStations)), (q_p0_persons_row, .inl (cI, n_p0_persons_row, .inl o.2.2.2.2.1)), (r_p4, .inl (cJ, n_p4, .inr (.inl o.2.2.2.2.2)))] := by
  refine sr_Wt.of (cc := b_L_vehicleAt) (maxL := 6) (ret := (some .int)) (hs := hs_L_vehicleAt) (by decide) rfl (Nat.le_of_ble_eq_true rfl) ?_
  intro p e s m below meth c A ls C0 hes hA hK hz G hl
  obtain ⟨hx, hb, hml, hr, hown, hts, hlocks, hnm⟩ := id C0
  generalize hargs : ([.ref r_p0, .int x1, .int x2, .int x3, .ref r_p4] : List Value).toArray = args at C0 hts ⊢
  have hws := sr_hwsH hts
  replace hl : lv_has ls 6 [(0, .ref r_p0), (1, .int x1), (2, .int x2), (3, .int x3), (4, .ref r_p4)] := hl
  replace hf : (sr_bd (f_S_vehicleAt n n_p0_stations_froms n_p0_stations_tos n_p0_vehicles_stationRow n_p0_vehicles_kinds n_p0_vehicles_crews n_p0_vehicles_outs_counts n_p0_vehicles_outs_froms n_p0_vehicles_outs_tos n_p0_vehicles_standsFor n_p0_vehicles_spares n_p0_persons_homes n_p0_persons_distances n_p0_persons_duties_counts n_p0_persons_duties_froms n_p0_persons_duties_tos n_p0_persons_moves_counts n_p0_persons_moves_froms n_p0_persons_moves_tos n_p0_persons_moveStations n_p0_persons_row F_p0_stations_froms F_p0_stations_tos v_p0_vehicles_count F_p0_vehicles_stationRow F_p0_vehicles_kinds F_p0_vehicles_crews v_p0_vehicles_outs_most F_p0_vehicles_outs_counts F_p0_vehicles_outs_froms F_p0_vehicles_outs_tos F_p0_vehicles_standsFor F_p0_vehicles_spares v_p0_persons_rowLength v_p0_persons_count v_p0_persons_distanceLimit F_p0_persons_homes F_p0_persons_distances v_p0_persons_duties_most F_p0_persons_duties_counts F_p0_persons_duties_froms F_p0_persons_duties_tos v_p0_persons_moves_most F_p0_persons_moves_counts F_p0_persons_moves_froms F_p0_persons_moves_tos F_p0_persons_moveStations F_p0_persons_row x1 x2 x3) fun o1 =>
    (if o1.1 = 0 then
    (sr_bk 0 n_p4
    (some (0, o1.2.2.1, o1.2.2.2.1, o1.2.2.2.2.1, o1.2.2.2.2.2, (vp_updL F_p4 (0 : Int32).toNatClampNeg ((o1.2.1 : Int32).toInt64)))))
    else
    (if o1.1 = 1 then
    (some (1, o1.2.2.1, o1.2.2.2.1, o1.2.2.2.2.1, o1.2.2.2.2.2, F_p4))
    else
    (if o1.1 = 2 then
    (some (2, o1.2.2.1, o1.2.2.2.1, o1.2.2.2.2.1, o1.2.2.2.2.2, F_p4))
    else
    none)))) = some o := hf
  refine lv_aload hx hb d_L_vehicleAt_0 (lv_at hl 4 rfl) ?_
  refine lv_iconst (v := 0) hx hb d_L_vehicleAt_2 (by decide) ?_
  refine lv_aload_n hx hb d_L_vehicleAt_3 rfl (lv_at hl 0 rfl) ?_
  refine lv_iload_n hx hb d_L_vehicleAt_4 rfl (lv_at hl 1 rfl) ?_
  refine lv_iload_n hx hb d_L_vehicleAt_5 rfl (lv_at hl 2 rfl) ?_
  refine lv_iload_n hx hb d_L_vehicleAt_6 rfl (lv_at hl 3 rfl) ?_
  obtain ⟨o1, ho1, hf⟩ := sr_bd_e hf
  refine sr_callTV (ci := 7) (vc := ("StationRows", zf_S, 6)) (wr := [(r_p4, .inl (cJ, n_p4, .inr (.inl F_p4)))]) (ws1 := [(r_p0, .inr (7, [.ref q_p0_stations, .ref q_p0_vehicles, .ref q_p0_persons, .ref q_p0_needs, .ref q_p0_checks, .ref q_p0_keys])), (q_p0_stations, .inr (1, [.ref q_p0_stations_doors, .ref q_p0_stations_froms, .ref q_p0_stations_tos, .int v_p0_stations_count])), (q_p0_stations_froms, .inl (cI, n_p0_stations_froms, .inl F_p0_stations_froms)), (q_p0_stations_tos, .inl (cI, n_p0_stations_tos, .inl F_p0_stations_tos)), (q_p0_vehicles, .inr (2, [.ref q_p0_vehicles_stationRow, .ref q_p0_vehicles_kinds, .ref q_p0_vehicles_crews, .ref q_p0_vehicles_outs, .ref q_p0_vehicles_standsFor, .ref q_p0_vehicles_spares, .int v_p0_vehicles_count])), (q_p0_vehicles_stationRow, .inl (cI, n_p0_vehicles_stationRow, .inl F_p0_vehicles_stationRow)), (q_p0_vehicles_kinds, .inl (cI, n_p0_vehicles_kinds, .inl F_p0_vehicles_kinds)), (q_p0_vehicles_crews, .inl (cI, n_p0_vehicles_crews, .inl F_p0_vehicles_crews)), (q_p0_vehicles_outs, .inr (0, [.int v_p0_vehicles_outs_most, .ref q_p0_vehicles_outs_counts, .ref q_p0_vehicles_outs_froms, .ref q_p0_vehicles_outs_tos])), (q_p0_vehicles_outs_counts, .inl (cI, n_p0_vehicles_outs_counts, .inl F_p0_vehicles_outs_counts)), (q_p0_vehicles_outs_froms, .inl (cI, n_p0_vehicles_outs_froms, .inl F_p0_vehicles_outs_froms)), (q_p0_vehicles_outs_tos, .inl (cI, n_p0_vehicles_outs_tos, .inl F_p0_vehicles_outs_tos)), (q_p0_vehicles_standsFor, .inl (cI, n_p0_vehicles_standsFor, .inl o1.2.2.1)), (q_p0_vehicles_spares, .inl (cI, n_p0_vehicles_spares, .inl o1.2.2.2.1)), (q_p0_persons, .inr (3, [.ref q_p0_persons_homes, .ref q_p0_persons_distances, .ref q_p0_persons_duties, .ref q_p0_persons_moves, .ref q_p0_persons_moveStations, .ref q_p0_persons_row, .int o1.2.2.2.2.1, .int v_p0_persons_count, .int v_p0_persons_distanceLimit])), (q_p0_persons_homes, .inl (cI, n_p0_persons_homes, .inl F_p0_persons_homes)), (q_p0_persons_distances, .inl (cI, n_p0_persons_distances, .inl F_p0_persons_distances)), (q_p0_persons_duties, .inr (0, [.int v_p0_persons_duties_most, .ref q_p0_persons_duties_counts, .ref q_p0_persons_duties_froms, .ref q_p0_persons_duties_tos])), (q_p0_persons_duties_counts, .inl (cI, n_p0_persons_duties_counts, .inl F_p0_persons_duties_counts)), (q_p0_persons_duties_froms, .inl (cI, n_p0_persons_duties_froms, .inl F_p0_persons_duties_froms)), (q_p0_persons_duties_tos, .inl (cI, n_p0_persons_duties_tos, .inl F_p0_persons_duties_tos)), (q_p0_persons_moves, .inr (0, [.int v_p0_persons_moves_most, .ref q_p0_persons_moves_counts, .ref q_p0_persons_moves_froms, .ref q_p0_persons_moves_tos])), (q_p0_persons_moves_counts, .inl (cI, n_p0_persons_moves_counts, .inl F_p0_persons_moves_counts)), (q_p0_persons_moves_froms, .inl (cI, n_p0_persons_moves_froms, .inl F_p0_persons_moves_froms)), (q_p0_persons_moves_tos, .inl (cI, n_p0_persons_moves_tos, .inl F_p0_persons_moves_tos)), (q_p0_persons_moveStations, .inl (cI, n_p0_persons_moveStations, .inl F_p0_persons_moveStations)), (q_p0_persons_row, .inl (cI, n_p0_persons_row, .inl o1.2.2.2.2.2)), (r_p4, .inl (cJ, n_p4, .inr (.inl F_p4)))]) (rest := [.int 0, .ref r_p4]) (st1 := [.int o1.2.1, .int 0, .ref r_p4]) ⟨hx, hb, hml, hown, hts⟩ (c_S_vehicleAt l hfl dC dI cI cJ cZ r_p0 q_p0_stations q_p0_vehicles q_p0_persons q_p0_needs q_p0_checks q_p0_keys q_p0_stations_doors q_p0_stations_froms q_p0_stations_tos q_p0_vehicles_stationRow q_p0_vehicles_kinds q_p0_vehicles_crews q_p0_vehicles_outs q_p0_vehicles_standsFor q_p0_vehicles_spares q_p0_vehicles_outs_counts q_p0_vehicles_outs_froms q_p0_vehicles_outs_tos q_p0_persons_homes q_p0_persons_distances q_p0_persons_duties q_p0_persons_moves q_p0_persons_moveStations q_p0_persons_row q_p0_persons_duties_counts q_p0_persons_duties_froms q_p0_persons_duties_tos q_p0_persons_moves_counts q_p0_persons_moves_froms q_p0_persons_moves_tos n_p0_stations_froms n_p0_stations_tos n_p0_vehicles_stationRow n_p0_vehicles_kinds n_p0_vehicles_crews n_p0_vehicles_outs_counts n_p0_vehicles_outs_froms n_p0_vehicles_outs_tos n_p0_vehicles_standsFor n_p0_vehicles_spares n_p0_persons_homes n_p0_persons_distances n_p0_persons_duties_counts n_p0_persons_duties_froms n_p0_persons_duties_tos n_p0_persons_moves_counts n_p0_persons_moves_froms n_p0_persons_moves_tos n_p0_persons_moveStations n_p0_persons_row v_p0_stations_count F_p0_stations_froms F_p0_stations_tos v_p0_vehicles_count F_p0_vehicles_stationRow F_p0_vehicles_kinds F_p0_vehicles_crews v_p0_vehicles_outs_most F_p0_vehicles_outs_counts F_p0_vehicles_outs_froms F_p0_vehicles_outs_tos F_p0_vehicles_standsFor F_p0_vehicles_spares v_p0_persons_rowLength v_p0_persons_count v_p0_persons_distanceLimit F_p0_persons_homes F_p0_persons_distances v_p0_persons_duties_most F_p0_persons_duties_counts F_p0_persons_duties_froms F_p0_persons_duties_tos v_p0_persons_moves_most F_p0_persons_moves_counts F_p0_persons_moves_froms F_p0_persons_moves_tos F_p0_persons_moveStations F_p0_persons_row x1 x2 x3 n o1 ho1) ⟨(sr_cB 3 hws k_560 k_26 k_557 (by decide +kernel) ⟨Nat.le_of_ble_eq_true rfl, Nat.le_of_ble_eq_true rfl⟩), hws _ k_558, hws _ k_559⟩ hK hz G hA [0, 1, 2, 3, 4, 5, 6, 7, 8, 9, 10, 11, 12, 13, 14, 15, 16, 17, 18, 19, 20, 21, 22, 23, 24, 25, 26] [27] [1, 2, 3, 4, 5, 6, 7, 8, 9, 10, 11, 12, 13, 14, 15, 16, 17, 18, 19, 20, 21, 22, 23, 24, 25, 26, 27, 0] rfl (by decide) rfl (by decide) (by decide) rfl (by decide) 0 rfl rfl rfl hl.1 rfl (Nat.le_of_ble_eq_true rfl) d_L_vehicleAt_7 ⟨Nat.le_of_ble_eq_true rfl, Nat.le_of_ble_eq_true rfl⟩ rfl (fun C hC x H locs G hsz hxo => ?_) (fun hz0 H locs G => ?_)
  · replace hf := (if_neg (sr_nz hC)).symm.trans hf
    by_cases c2 : o1.1 = 1
    · replace hf := (if_pos c2).symm.trans hf
      have hC2 := sr_ocC c2 hC
      cases hC2
      refine sr_WT.catch (own := "StationRowsLaw") (hn := [(15, "java/lang/IllegalArgumentException"), (19, "java/lang/IndexOutOfBoundsException")]) (pcH := 15) hown hxo (hz.2.2.1 _ sr_c1) (by rw [hes]; exact ⟨⟨by decide, by decide, rfl, hws _ k_358, Or.inl rfl⟩, ⟨by decide, by decide, rfl, hws _ k_234, Or.inr (hz.2.2.2.2 ("java/lang/IllegalArgumentException", "java/lang/IndexOutOfBoundsException") (by decide))⟩, trivial⟩) rfl ?_
      refine lv_astore (lv' := [(5, .ref x), (0, .ref r_p0), (1, .int x1), (2, .int x2), (3, .int x3), (4, .ref r_p4)]) hx hb d_L_vehicleAt_15 hl (by decide) rfl (fun ls hl => ?_)
      refine lv_iconst (v := 1) hx hb d_L_vehicleAt_17 (by decide) ?_
      cases hf
      exact sr_retW (by decide) (by decide) (sr_iret hx hb hr hlocks hK G d_L_vehicleAt_18)
    replace hf := (if_neg c2).symm.trans hf
    by_cases c3 : o1.1 = 2
    · replace hf := (if_pos c3).symm.trans hf
      have hC2 := sr_ocC c3 hC
      cases hC2
      refine sr_WT.catch (own := "StationRowsLaw") (hn := [(15, "java/lang/IllegalArgumentException"), (19, "java/lang/IndexOutOfBoundsException")]) (pcH := 19) hown hxo (hz.2.2.1 _ sr_c2) (by rw [hes]; exact ⟨⟨by decide, by decide, rfl, hws _ k_358, Or.inr (hz.2.2.2.2 ("java/lang/IndexOutOfBoundsException", "java/lang/IllegalArgumentException") (by decide))⟩, ⟨by decide, by decide, rfl, hws _ k_234, Or.inl rfl⟩, trivial⟩) rfl ?_
      refine lv_astore (lv' := [(5, .ref x), (0, .ref r_p0), (1, .int x1), (2, .int x2), (3, .int x3), (4, .ref r_p4)]) hx hb d_L_vehicleAt_19 hl (by decide) rfl (fun ls hl => ?_)
      refine lv_iconst (v := 2) hx hb d_L_vehicleAt_21 (by decide) ?_
      cases hf
      exact sr_retW (by decide) (by decide) (sr_iret hx hb hr hlocks hK G d_L_vehicleAt_22)
    replace hf := (if_neg c3).symm.trans hf
    exact sr_no hf
  replace hf := (if_pos hz0).symm.trans hf
  refine lv_i2l hx hb d_L_vehicleAt_10 rfl ?_
  obtain ⟨hi4, hf⟩ := sr_bk_e hf
  refine va_last hx hb hK G.1 G.2.1 G.2.2 27 1 rfl rfl hi4 d_L_vehicleAt_11 (fun H locs hP hD hS => ?_)
  have G : sr_G (dC, dI) A [(r_p0, .inr (7, [.ref q_p0_stations, .ref q_p0_vehicles, .ref q_p0_persons, .ref q_p0_needs, .ref q_p0_checks, .ref q_p0_keys])), (q_p0_stations, .inr (1, [.ref q_p0_stations_doors, .ref q_p0_stations_froms, .ref q_p0_stations_tos, .int v_p0_stations_count])), (q_p0_stations_froms, .inl (cI, n_p0_stations_froms, .inl F_p0_stations_froms)), (q_p0_stations_tos, .inl (cI, n_p0_stations_tos, .inl F_p0_stations_tos)), (q_p0_vehicles, .inr (2, [.ref q_p0_vehicles_stationRow, .ref q_p0_vehicles_kinds, .ref q_p0_vehicles_crews, .ref q_p0_vehicles_outs, .ref q_p0_vehicles_standsFor, .ref q_p0_vehicles_spares, .int v_p0_vehicles_count])), (q_p0_vehicles_stationRow, .inl (cI, n_p0_vehicles_stationRow, .inl F_p0_vehicles_stationRow)), (q_p0_vehicles_kinds, .inl (cI, n_p0_vehicles_kinds, .inl F_p0_vehicles_kinds)), (q_p0_vehicles_crews, .inl (cI, n_p0_vehicles_crews, .inl F_p0_vehicles_crews)), (q_p0_vehicles_outs, .inr (0, [.int v_p0_vehicles_outs_most, .ref q_p0_vehicles_outs_counts, .ref q_p0_vehicles_outs_froms, .ref q_p0_vehicles_outs_tos])), (q_p0_vehicles_outs_counts, .inl (cI, n_p0_vehicles_outs_counts, .inl F_p0_vehicles_outs_counts)), (q_p0_vehicles_outs_froms, .inl (cI, n_p0_vehicles_outs_froms, .inl F_p0_vehicles_outs_froms)), (q_p0_vehicles_outs_tos, .inl (cI, n_p0_vehicles_outs_tos, .inl F_p0_vehicles_outs_tos)), (q_p0_vehicles_standsFor, .inl (cI, n_p0_vehicles_standsFor, .inl o1.2.2.1)), (q_p0_vehicles_spares, .inl (cI, n_p0_vehicles_spares, .inl o1.2.2.2.1)), (q_p0_persons, .inr (3, [.ref q_p0_persons_homes, .ref q_p0_persons_distances, .ref q_p0_persons_duties, .ref q_p0_persons_moves, .ref q_p0_persons_moveStations, .ref q_p0_persons_row, .int o1.2.2.2.2.1, .int v_p0_persons_count, .int v_p0_persons_distanceLimit])), (q_p0_persons_homes, .inl (cI, n_p0_persons_homes, .inl F_p0_persons_homes)), (q_p0_persons_distances, .inl (cI, n_p0_persons_distances, .inl F_p0_persons_distances)), (q_p0_persons_duties, .inr (0, [.int v_p0_persons_duties_most, .ref q_p0_persons_duties_counts, .ref q_p0_persons_duties_froms, .ref q_p0_persons_duties_tos])), (q_p0_persons_duties_counts, .inl (cI, n_p0_persons_duties_counts, .inl F_p0_persons_duties_counts)), (q_p0_persons_duties_froms, .inl (cI, n_p0_persons_duties_froms, .inl F_p0_persons_duties_froms)), (q_p0_persons_duties_tos, .inl (cI, n_p0_persons_duties_tos, .inl F_p0_persons_duties_tos)), (q_p0_persons_moves, .inr (0, [.int v_p0_persons_moves_most, .ref q_p0_persons_moves_counts, .ref q_p0_persons_moves_froms, .ref q_p0_persons_moves_tos])), (q_p0_persons_moves_counts, .inl (cI, n_p0_persons_moves_counts, .inl F_p0_persons_moves_counts)), (q_p0_persons_moves_froms, .inl (cI, n_p0_persons_moves_froms, .inl F_p0_persons_moves_froms)), (q_p0_persons_moves_tos, .inl (cI, n_p0_persons_moves_tos, .inl F_p0_persons_moves_tos)), (q_p0_persons_moveStations, .inl (cI, n_p0_persons_moveStations, .inl F_p0_persons_moveStations)), (q_p0_persons_row, .inl (cI, n_p0_persons_row, .inl o1.2.2.2.2.2)), (r_p4, .inl (cJ, n_p4, .inr (.inl (vp_updL F_p4 (0 : Int32).toNatClampNeg ((o1.2.1 : Int32).toInt64)))))] s H locs := ⟨hP, hD, hS⟩
  refine lv_goto (tgt := 23) hx hb d_L_vehicleAt_12 (by decide) ?_
  refine lv_iconst (v := 0) hx hb d_L_vehicleAt_23 (by decide) ?_
  cases hf
  exact sr_retW (by decide) (by decide) (sr_iret hx hb hr hlocks hK G d_L_vehicleAt_24)
/-! StationRowsLaw.need(LStationRows;III)I -/
abbrev rm_L_need : Room := { frames := 8, cells := 1, slots := 6, locals := 127 }
def f_L_need (n_p0_needs_needed : Nat) (v_p0_stations_count : Int32) (F_p0_needs_needed : Nat → Int32) (x1 x2 x3 : Int32) : Option (Int32 × (Nat → Int32)) :=
    (sr_bd (f_S_need n_p0_needs_needed v_p0_stations_count F_p0_needs_needed x1 x2 x3) fun o1 =>
    (if o1.1 = 0 then
    (some (0, o1.2))
    else
    (if o1.1 = 1 then
    (some (1, o1.2))
    else
    (if o1.1 = 2 then
    (some (2, o1.2))
    else
    none))))
set_option maxHeartbeats 4000000 in
set_option maxRecDepth 100000 in
theorem c_L_need (l : Launch) (hfl : l.flags = flags0) (dC : Nat → ClassId) (dI : Nat → Nat → Nat) (cI cJ cZ : ClassId) (r_p0 q_p0_stations q_p0_vehicles q_p0_persons q_p0_needs q_p0_checks q_p0_keys q_p0_stations_doors q_p0_stations_froms q_p0_stations_tos q_p0_needs_needed : Nat) (n_p0_needs_needed : Nat) (v_p0_stations_count : Int32) (F_p0_needs_needed : Nat → Int32) (x1 x2 x3 : Int32)  (o : Int32 × (Nat → Int32)) (hf : f_L_need n_p0_needs_needed v_p0_stations_count F_p0_needs_needed x1 x2 x3 = some o) : sr_Wt l y_L_need (sr_WH y_L_need b_L_need 5 (some .int) hs_L_need) rm_L_need (dC, dI) (sr_ty cI cJ cZ) [.ref r_p0, .int x1, .int x2, .int x3] [(r_p0, .inr (7, [.ref q_p0_stations, .ref q_p0_vehicles, .ref q_p0_persons, .ref q_p0_needs, .ref q_p0_checks, .ref q_p0_keys])), (q_p0_stations, .inr (1, [.ref q_p0_stations_doors, .ref q_p0_stations_froms, .ref q_p0_stations_tos, .int v_p0_stations_count])), (q_p0_needs, .inr (4, [.ref q_p0_needs_needed])), (q_p0_needs_needed, .inl (cI, n_p0_needs_needed, .inl F_p0_needs_needed))] (some (.int o.1)) [(r_p0, .inr (7, [.ref q_p0_stations, .ref q_p0_vehicles, .ref q_p0_persons, .ref q_p0_needs, .ref q_p0_checks, .ref q_p0_keys])), (q_p0_stations, .inr (1, [.ref q_p0_stations_doors, .ref q_p0_stations_froms, .ref q_p0_stations_tos, .int v_p0_stations_count])), (q_p0_needs, .inr (4, [.ref q_p0_needs_needed])), (q_p0_needs_needed, .inl (cI, n_p0_needs_needed, .inl o.2))] := by
  refine sr_Wt.of (cc := b_L_need) (maxL := 5) (ret := (some .int)) (hs := hs_L_need) (by decide) rfl (Nat.le_of_ble_eq_true rfl) ?_
  intro p e s m below meth c A ls C0 hes hA hK hz G hl
  obtain ⟨hx, hb, hml, hr, hown, hts, hlocks, hnm⟩ := id C0
  generalize hargs : ([.ref r_p0, .int x1, .int x2, .int x3] : List Value).toArray = args at C0 hts ⊢
  have hws := sr_hwsH hts
  replace hl : lv_has ls 5 [(0, .ref r_p0), (1, .int x1), (2, .int x2), (3, .int x3)] := hl
  replace hf : (sr_bd (f_S_need n_p0_needs_needed v_p0_stations_count F_p0_needs_needed x1 x2 x3) fun o1 =>
    (if o1.1 = 0 then
    (some (0, o1.2))
    else
    (if o1.1 = 1 then
    (some (1, o1.2))
    else
    (if o1.1 = 2 then
    (some (2, o1.2))
    else
    none)))) = some o := hf
  refine lv_aload_n hx hb d_L_need_0 rfl (lv_at hl 0 rfl) ?_
  refine lv_iload_n hx hb d_L_need_1 rfl (lv_at hl 1 rfl) ?_
  refine lv_iload_n hx hb d_L_need_2 rfl (lv_at hl 2 rfl) ?_
  refine lv_iload_n hx hb d_L_need_3 rfl (lv_at hl 3 rfl) ?_
  obtain ⟨o1, ho1, hf⟩ := sr_bd_e hf
  refine sr_callTV (ci := 7) (vc := ("StationRows", zf_S, 6)) (wr := []) (ws1 := [(r_p0, .inr (7, [.ref q_p0_stations, .ref q_p0_vehicles, .ref q_p0_persons, .ref q_p0_needs, .ref q_p0_checks, .ref q_p0_keys])), (q_p0_stations, .inr (1, [.ref q_p0_stations_doors, .ref q_p0_stations_froms, .ref q_p0_stations_tos, .int v_p0_stations_count])), (q_p0_needs, .inr (4, [.ref q_p0_needs_needed])), (q_p0_needs_needed, .inl (cI, n_p0_needs_needed, .inl o1.2))]) (rest := []) (st1 := []) ⟨hx, hb, hml, hown, hts⟩ (c_S_need l hfl dC dI cI cJ cZ r_p0 q_p0_stations q_p0_vehicles q_p0_persons q_p0_needs q_p0_checks q_p0_keys q_p0_stations_doors q_p0_stations_froms q_p0_stations_tos q_p0_needs_needed n_p0_needs_needed v_p0_stations_count F_p0_needs_needed x1 x2 x3 o1 ho1) ⟨(sr_cB 3 hws k_629 k_26 k_626 (by decide +kernel) ⟨Nat.le_of_ble_eq_true rfl, Nat.le_of_ble_eq_true rfl⟩), hws _ k_627, hws _ k_628⟩ hK hz G hA [0, 1, 2, 3] [] [0, 1, 2, 3] rfl (by decide) rfl (by decide) (by decide) rfl (by decide) 0 rfl rfl rfl hl.1 rfl (Nat.le_of_ble_eq_true rfl) d_L_need_4 ⟨Nat.le_of_ble_eq_true rfl, Nat.le_of_ble_eq_true rfl⟩ rfl (fun C hC x H locs G hsz hxo => ?_) (fun hz0 H locs G => ?_)
  · replace hf := (if_neg (sr_nz hC)).symm.trans hf
    by_cases c2 : o1.1 = 1
    · replace hf := (if_pos c2).symm.trans hf
      have hC2 := sr_ocC c2 hC
      cases hC2
      refine sr_WT.catch (own := "StationRowsLaw") (hn := [(10, "java/lang/IllegalArgumentException"), (14, "java/lang/IndexOutOfBoundsException")]) (pcH := 10) hown hxo (hz.2.2.1 _ sr_c1) (by rw [hes]; exact ⟨⟨by decide, by decide, rfl, hws _ k_358, Or.inl rfl⟩, ⟨by decide, by decide, rfl, hws _ k_234, Or.inr (hz.2.2.2.2 ("java/lang/IllegalArgumentException", "java/lang/IndexOutOfBoundsException") (by decide))⟩, trivial⟩) rfl ?_
      refine lv_astore (lv' := [(4, .ref x), (0, .ref r_p0), (1, .int x1), (2, .int x2), (3, .int x3)]) hx hb d_L_need_10 hl (by decide) rfl (fun ls hl => ?_)
      refine lv_iconst (v := 1) hx hb d_L_need_12 (by decide) ?_
      cases hf
      exact sr_retW (by decide) (by decide) (sr_iret hx hb hr hlocks hK G d_L_need_13)
    replace hf := (if_neg c2).symm.trans hf
    by_cases c3 : o1.1 = 2
    · replace hf := (if_pos c3).symm.trans hf
      have hC2 := sr_ocC c3 hC
      cases hC2
      refine sr_WT.catch (own := "StationRowsLaw") (hn := [(10, "java/lang/IllegalArgumentException"), (14, "java/lang/IndexOutOfBoundsException")]) (pcH := 14) hown hxo (hz.2.2.1 _ sr_c2) (by rw [hes]; exact ⟨⟨by decide, by decide, rfl, hws _ k_358, Or.inr (hz.2.2.2.2 ("java/lang/IndexOutOfBoundsException", "java/lang/IllegalArgumentException") (by decide))⟩, ⟨by decide, by decide, rfl, hws _ k_234, Or.inl rfl⟩, trivial⟩) rfl ?_
      refine lv_astore (lv' := [(4, .ref x), (0, .ref r_p0), (1, .int x1), (2, .int x2), (3, .int x3)]) hx hb d_L_need_14 hl (by decide) rfl (fun ls hl => ?_)
      refine lv_iconst (v := 2) hx hb d_L_need_16 (by decide) ?_
      cases hf
      exact sr_retW (by decide) (by decide) (sr_iret hx hb hr hlocks hK G d_L_need_17)
    replace hf := (if_neg c3).symm.trans hf
    exact sr_no hf
  replace hf := (if_pos hz0).symm.trans hf
  refine lv_goto (tgt := 18) hx hb d_L_need_7 (by decide) ?_
  refine lv_iconst (v := 0) hx hb d_L_need_18 (by decide) ?_
  cases hf
  exact sr_retW (by decide) (by decide) (sr_iret hx hb hr hlocks hK G d_L_need_19)
/-! StationRowsLaw.lacks(LStationRows;II[J)I -/
abbrev rm_L_lacks : Room := { frames := 9, cells := 1, slots := 6, locals := 146 }
def f_L_lacks (n : Nat) (n_p0_stations_froms n_p0_stations_tos n_p0_persons_homes n_p0_persons_distances n_p0_persons_duties_counts n_p0_persons_duties_froms n_p0_persons_duties_tos n_p0_persons_moves_counts n_p0_persons_moves_froms n_p0_persons_moves_tos n_p0_persons_moveStations n_p0_persons_row n_p0_needs_needed n_p3 : Nat) (v_p0_stations_count : Int32) (F_p0_stations_froms : Nat → Int32) (F_p0_stations_tos : Nat → Int32) (v_p0_persons_rowLength : Int32) (v_p0_persons_count : Int32) (v_p0_persons_distanceLimit : Int32) (F_p0_persons_homes : Nat → Int32) (F_p0_persons_distances : Nat → Int32) (v_p0_persons_duties_most : Int32) (F_p0_persons_duties_counts : Nat → Int32) (F_p0_persons_duties_froms : Nat → Int32) (F_p0_persons_duties_tos : Nat → Int32) (v_p0_persons_moves_most : Int32) (F_p0_persons_moves_counts : Nat → Int32) (F_p0_persons_moves_froms : Nat → Int32) (F_p0_persons_moves_tos : Nat → Int32) (F_p0_persons_moveStations : Nat → Int32) (F_p0_persons_row : Nat → Int32) (F_p0_needs_needed : Nat → Int32) (F_p3 : Nat → Int64) (x1 x2 : Int32) : Option (Int32 × Int32 × (Nat → Int32) × (Nat → Int64)) :=
    (sr_bd (f_S_lacks n n_p0_stations_froms n_p0_stations_tos n_p0_persons_homes n_p0_persons_distances n_p0_persons_duties_counts n_p0_persons_duties_froms n_p0_persons_duties_tos n_p0_persons_moves_counts n_p0_persons_moves_froms n_p0_persons_moves_tos n_p0_persons_moveStations n_p0_persons_row n_p0_needs_needed v_p0_stations_count F_p0_stations_froms F_p0_stations_tos v_p0_persons_rowLength v_p0_persons_count v_p0_persons_distanceLimit F_p0_persons_homes F_p0_persons_distances v_p0_persons_duties_most F_p0_persons_duties_counts F_p0_persons_duties_froms F_p0_persons_duties_tos v_p0_persons_moves_most F_p0_persons_moves_counts F_p0_persons_moves_froms F_p0_persons_moves_tos F_p0_persons_moveStations F_p0_persons_row F_p0_needs_needed x1 x2) fun o1 =>
    (if o1.1 = 0 then
    (sr_bk 0 n_p3
    (some (0, o1.2.2.1, o1.2.2.2, (vp_updL F_p3 (0 : Int32).toNatClampNeg ((o1.2.1 : Int32).toInt64)))))
    else
    (if o1.1 = 1 then
    (some (1, o1.2.2.1, o1.2.2.2, F_p3))
    else
    (if o1.1 = 2 then
    (some (2, o1.2.2.1, o1.2.2.2, F_p3))
    else
    none))))
set_option maxHeartbeats 4000000 in
set_option maxRecDepth 100000 in
theorem c_L_lacks (l : Launch) (hfl : l.flags = flags0) (dC : Nat → ClassId) (dI : Nat → Nat → Nat) (cI cJ cZ : ClassId) (r_p0 r_p3 q_p0_stations q_p0_vehicles q_p0_persons q_p0_needs q_p0_checks q_p0_keys q_p0_stations_doors q_p0_stations_froms q_p0_stations_tos q_p0_persons_homes q_p0_persons_distances q_p0_persons_duties q_p0_persons_moves q_p0_persons_moveStations q_p0_persons_row q_p0_persons_duties_counts q_p0_persons_duties_froms q_p0_persons_duties_tos q_p0_persons_moves_counts q_p0_persons_moves_froms q_p0_persons_moves_tos q_p0_needs_needed : Nat) (n_p0_stations_froms n_p0_stations_tos n_p0_persons_homes n_p0_persons_distances n_p0_persons_duties_counts n_p0_persons_duties_froms n_p0_persons_duties_tos n_p0_persons_moves_counts n_p0_persons_moves_froms n_p0_persons_moves_tos n_p0_persons_moveStations n_p0_persons_row n_p0_needs_needed n_p3 : Nat) (v_p0_stations_count : Int32) (F_p0_stations_froms : Nat → Int32) (F_p0_stations_tos : Nat → Int32) (v_p0_persons_rowLength : Int32) (v_p0_persons_count : Int32) (v_p0_persons_distanceLimit : Int32) (F_p0_persons_homes : Nat → Int32) (F_p0_persons_distances : Nat → Int32) (v_p0_persons_duties_most : Int32) (F_p0_persons_duties_counts : Nat → Int32) (F_p0_persons_duties_froms : Nat → Int32) (F_p0_persons_duties_tos : Nat → Int32) (v_p0_persons_moves_most : Int32) (F_p0_persons_moves_counts : Nat → Int32) (F_p0_persons_moves_froms : Nat → Int32) (F_p0_persons_moves_tos : Nat → Int32) (F_p0_persons_moveStations : Nat → Int32) (F_p0_persons_row : Nat → Int32) (F_p0_needs_needed : Nat → Int32) (F_p3 : Nat → Int64) (x1 x2 : Int32) (n : Nat) (o : Int32 × Int32 × (Nat → Int32) × (Nat → Int64)) (hf : f_L_lacks n n_p0_stations_froms n_p0_stations_tos n_p0_persons_homes n_p0_persons_distances n_p0_persons_duties_counts n_p0_persons_duties_froms n_p0_persons_duties_tos n_p0_persons_moves_counts n_p0_persons_moves_froms n_p0_persons_moves_tos n_p0_persons_moveStations n_p0_persons_row n_p0_needs_needed n_p3 v_p0_stations_count F_p0_stations_froms F_p0_stations_tos v_p0_persons_rowLength v_p0_persons_count v_p0_persons_distanceLimit F_p0_persons_homes F_p0_persons_distances v_p0_persons_duties_most F_p0_persons_duties_counts F_p0_persons_duties_froms F_p0_persons_duties_tos v_p0_persons_moves_most F_p0_persons_moves_counts F_p0_persons_moves_froms F_p0_persons_moves_tos F_p0_persons_moveStations F_p0_persons_row F_p0_needs_needed F_p3 x1 x2 = some o) : sr_Wt l y_L_lacks (sr_WH y_L_lacks b_L_lacks 5 (some .int) hs_L_lacks) rm_L_lacks (dC, dI) (sr_ty cI cJ cZ) [.ref r_p0, .int x1, .int x2, .ref r_p3] [(r_p0, .inr (7, [.ref q_p0_stations, .ref q_p0_vehicles, .ref q_p0_persons, .ref q_p0_needs, .ref q_p0_checks, .ref q_p0_keys])), (q_p0_stations, .inr (1, [.ref q_p0_stations_doors, .ref q_p0_stations_froms, .ref q_p0_stations_tos, .int v_p0_stations_count])), (q_p0_stations_froms, .inl (cI, n_p0_stations_froms, .inl F_p0_stations_froms)), (q_p0_stations_tos, .inl (cI, n_p0_stations_tos, .inl F_p0_stations_tos)), (q_p0_persons, .inr (3, [.ref q_p0_persons_homes, .ref q_p0_persons_distances, .ref q_p0_persons_duties, .ref q_p0_persons_moves, .ref q_p0_persons_moveStations, .ref q_p0_persons_row, .int v_p0_persons_rowLength, .int v_p0_persons_count, .int v_p0_persons_distanceLimit])), (q_p0_persons_homes, .inl (cI, n_p0_persons_homes, .inl F_p0_persons_homes)), (q_p0_persons_distances, .inl (cI, n_p0_persons_distances, .inl F_p0_persons_distances)), (q_p0_persons_duties, .inr (0, [.int v_p0_persons_duties_most, .ref q_p0_persons_duties_counts, .ref q_p0_persons_duties_froms, .ref q_p0_persons_duties_tos])), (q_p0_persons_duties_counts, .inl (cI, n_p0_persons_duties_counts, .inl F_p0_persons_duties_counts)), (q_p0_persons_duties_froms, .inl (cI, n_p0_persons_duties_froms, .inl F_p0_persons_duties_froms)), (q_p0_persons_duties_tos, .inl (cI, n_p0_persons_duties_tos, .inl F_p0_persons_duties_tos)), (q_p0_persons_moves, .inr (0, [.int v_p0_persons_moves_most, .ref q_p0_persons_moves_counts, .ref q_p0_persons_moves_froms, .ref q_p0_persons_moves_tos])), (q_p0_persons_moves_counts, .inl (cI, n_p0_persons_moves_counts, .inl F_p0_persons_moves_counts)), (q_p0_persons_moves_froms, .inl (cI, n_p0_persons_moves_froms, .inl F_p0_persons_moves_froms)), (q_p0_persons_moves_tos, .inl (cI, n_p0_persons_moves_tos, .inl F_p0_persons_moves_tos)), (q_p0_persons_moveStations, .inl (cI, n_p0_persons_moveStations, .inl F_p0_persons_moveStations)), (q_p0_persons_row, .inl (cI, n_p0_persons_row, .inl F_p0_persons_row)), (q_p0_needs, .inr (4, [.ref q_p0_needs_needed])), (q_p0_needs_needed, .inl (cI, n_p0_needs_needed, .inl F_p0_needs_needed)), (r_p3, .inl (cJ, n_p3, .inr (.inl F_p3)))] (some (.int o.1)) [(r_p0, .inr (7, [.ref q_p0_stations, .ref q_p0_vehicles, .ref q_p0_persons, .ref q_p0_needs, .ref q_p0_checks, .ref q_p0_keys])), (q_p0_stations, .inr (1, [.ref q_p0_stations_doors, .ref q_p0_stations_froms, .ref q_p0_stations_tos, .int v_p0_stations_count])), (q_p0_stations_froms, .inl (cI, n_p0_stations_froms, .inl F_p0_stations_froms)), (q_p0_stations_tos, .inl (cI, n_p0_stations_tos, .inl F_p0_stations_tos)), (q_p0_persons, .inr (3, [.ref q_p0_persons_homes, .ref q_p0_persons_distances, .ref q_p0_persons_duties, .ref q_p0_persons_moves, .ref q_p0_persons_moveStations, .ref q_p0_persons_row, .int o.2.1, .int v_p0_persons_count, .int v_p0_persons_distanceLimit])), (q_p0_persons_homes, .inl (cI, n_p0_persons_homes, .inl F_p0_persons_homes)), (q_p0_persons_distances, .inl (cI, n_p0_persons_distances, .inl F_p0_persons_distances)), (q_p0_persons_duties, .inr (0, [.int v_p0_persons_duties_most, .ref q_p0_persons_duties_counts, .ref q_p0_persons_duties_froms, .ref q_p0_persons_duties_tos])), (q_p0_persons_duties_counts, .inl (cI, n_p0_persons_duties_counts, .inl F_p0_persons_duties_counts)), (q_p0_persons_duties_froms, .inl (cI, n_p0_persons_duties_froms, .inl F_p0_persons_duties_froms)), (q_p0_persons_duties_tos, .inl (cI, n_p0_persons_duties_tos, .inl F_p0_persons_duties_tos)), (q_p0_persons_moves, .inr (0, [.int v_p0_persons_moves_most, .ref q_p0_persons_moves_counts, .ref q_p0_persons_moves_froms, .ref q_p0_persons_moves_tos])), (q_p0_persons_moves_counts, .inl (cI, n_p0_persons_moves_counts, .inl F_p0_persons_moves_counts)), (q_p0_persons_moves_froms, .inl (cI, n_p0_persons_moves_froms, .inl F_p0_persons_moves_froms)), (q_p0_persons_moves_tos, .inl (cI, n_p0_persons_moves_tos, .inl F_p0_persons_moves_tos)), (q_p0_persons_moveStations, .inl (cI, n_p0_persons_moveStations, .inl F_p0_persons_moveStations)), (q_p0_persons_row, .inl (cI, n_p0_persons_row, .inl o.2.2.1)), (q_p0_needs, .inr (4, [.ref q_p0_needs_needed])), (q_p0_needs_needed, .inl (cI, n_p0_needs_needed, .inl F_p0_needs_needed)), (r_p3, .inl (cJ, n_p3, .inr (.inl o.2.2.2)))] := by
  refine sr_Wt.of (cc := b_L_lacks) (maxL := 5) (ret := (some .int)) (hs := hs_L_lacks) (by decide) rfl (Nat.le_of_ble_eq_true rfl) ?_
  intro p e s m below meth c A ls C0 hes hA hK hz G hl
  obtain ⟨hx, hb, hml, hr, hown, hts, hlocks, hnm⟩ := id C0
  generalize hargs : ([.ref r_p0, .int x1, .int x2, .ref r_p3] : List Value).toArray = args at C0 hts ⊢
  have hws := sr_hwsH hts
  replace hl : lv_has ls 5 [(0, .ref r_p0), (1, .int x1), (2, .int x2), (3, .ref r_p3)] := hl
  replace hf : (sr_bd (f_S_lacks n n_p0_stations_froms n_p0_stations_tos n_p0_persons_homes n_p0_persons_distances n_p0_persons_duties_counts n_p0_persons_duties_froms n_p0_persons_duties_tos n_p0_persons_moves_counts n_p0_persons_moves_froms n_p0_persons_moves_tos n_p0_persons_moveStations n_p0_persons_row n_p0_needs_needed v_p0_stations_count F_p0_stations_froms F_p0_stations_tos v_p0_persons_rowLength v_p0_persons_count v_p0_persons_distanceLimit F_p0_persons_homes F_p0_persons_distances v_p0_persons_duties_most F_p0_persons_duties_counts F_p0_persons_duties_froms F_p0_persons_duties_tos v_p0_persons_moves_most F_p0_persons_moves_counts F_p0_persons_moves_froms F_p0_persons_moves_tos F_p0_persons_moveStations F_p0_persons_row F_p0_needs_needed x1 x2) fun o1 =>
    (if o1.1 = 0 then
    (sr_bk 0 n_p3
    (some (0, o1.2.2.1, o1.2.2.2, (vp_updL F_p3 (0 : Int32).toNatClampNeg ((o1.2.1 : Int32).toInt64)))))
    else
    (if o1.1 = 1 then
    (some (1, o1.2.2.1, o1.2.2.2, F_p3))
    else
    (if o1.1 = 2 then
    (some (2, o1.2.2.1, o1.2.2.2, F_p3))
    else
    none)))) = some o := hf
  refine lv_aload_n hx hb d_L_lacks_0 rfl (lv_at hl 3 rfl) ?_
  refine lv_iconst (v := 0) hx hb d_L_lacks_1 (by decide) ?_
  refine lv_aload_n hx hb d_L_lacks_2 rfl (lv_at hl 0 rfl) ?_
  refine lv_iload_n hx hb d_L_lacks_3 rfl (lv_at hl 1 rfl) ?_
  refine lv_iload_n hx hb d_L_lacks_4 rfl (lv_at hl 2 rfl) ?_
  obtain ⟨o1, ho1, hf⟩ := sr_bd_e hf
  refine sr_callTV (ci := 7) (vc := ("StationRows", zf_S, 6)) (wr := [(r_p3, .inl (cJ, n_p3, .inr (.inl F_p3)))]) (ws1 := [(r_p0, .inr (7, [.ref q_p0_stations, .ref q_p0_vehicles, .ref q_p0_persons, .ref q_p0_needs, .ref q_p0_checks, .ref q_p0_keys])), (q_p0_stations, .inr (1, [.ref q_p0_stations_doors, .ref q_p0_stations_froms, .ref q_p0_stations_tos, .int v_p0_stations_count])), (q_p0_stations_froms, .inl (cI, n_p0_stations_froms, .inl F_p0_stations_froms)), (q_p0_stations_tos, .inl (cI, n_p0_stations_tos, .inl F_p0_stations_tos)), (q_p0_persons, .inr (3, [.ref q_p0_persons_homes, .ref q_p0_persons_distances, .ref q_p0_persons_duties, .ref q_p0_persons_moves, .ref q_p0_persons_moveStations, .ref q_p0_persons_row, .int o1.2.2.1, .int v_p0_persons_count, .int v_p0_persons_distanceLimit])), (q_p0_persons_homes, .inl (cI, n_p0_persons_homes, .inl F_p0_persons_homes)), (q_p0_persons_distances, .inl (cI, n_p0_persons_distances, .inl F_p0_persons_distances)), (q_p0_persons_duties, .inr (0, [.int v_p0_persons_duties_most, .ref q_p0_persons_duties_counts, .ref q_p0_persons_duties_froms, .ref q_p0_persons_duties_tos])), (q_p0_persons_duties_counts, .inl (cI, n_p0_persons_duties_counts, .inl F_p0_persons_duties_counts)), (q_p0_persons_duties_froms, .inl (cI, n_p0_persons_duties_froms, .inl F_p0_persons_duties_froms)), (q_p0_persons_duties_tos, .inl (cI, n_p0_persons_duties_tos, .inl F_p0_persons_duties_tos)), (q_p0_persons_moves, .inr (0, [.int v_p0_persons_moves_most, .ref q_p0_persons_moves_counts, .ref q_p0_persons_moves_froms, .ref q_p0_persons_moves_tos])), (q_p0_persons_moves_counts, .inl (cI, n_p0_persons_moves_counts, .inl F_p0_persons_moves_counts)), (q_p0_persons_moves_froms, .inl (cI, n_p0_persons_moves_froms, .inl F_p0_persons_moves_froms)), (q_p0_persons_moves_tos, .inl (cI, n_p0_persons_moves_tos, .inl F_p0_persons_moves_tos)), (q_p0_persons_moveStations, .inl (cI, n_p0_persons_moveStations, .inl F_p0_persons_moveStations)), (q_p0_persons_row, .inl (cI, n_p0_persons_row, .inl o1.2.2.2)), (q_p0_needs, .inr (4, [.ref q_p0_needs_needed])), (q_p0_needs_needed, .inl (cI, n_p0_needs_needed, .inl F_p0_needs_needed)), (r_p3, .inl (cJ, n_p3, .inr (.inl F_p3)))]) (rest := [.int 0, .ref r_p3]) (st1 := [.int o1.2.1, .int 0, .ref r_p3]) ⟨hx, hb, hml, hown, hts⟩ (c_S_lacks l hfl dC dI cI cJ cZ r_p0 q_p0_stations q_p0_vehicles q_p0_persons q_p0_needs q_p0_checks q_p0_keys q_p0_stations_doors q_p0_stations_froms q_p0_stations_tos q_p0_persons_homes q_p0_persons_distances q_p0_persons_duties q_p0_persons_moves q_p0_persons_moveStations q_p0_persons_row q_p0_persons_duties_counts q_p0_persons_duties_froms q_p0_persons_duties_tos q_p0_persons_moves_counts q_p0_persons_moves_froms q_p0_persons_moves_tos q_p0_needs_needed n_p0_stations_froms n_p0_stations_tos n_p0_persons_homes n_p0_persons_distances n_p0_persons_duties_counts n_p0_persons_duties_froms n_p0_persons_duties_tos n_p0_persons_moves_counts n_p0_persons_moves_froms n_p0_persons_moves_tos n_p0_persons_moveStations n_p0_persons_row n_p0_needs_needed v_p0_stations_count F_p0_stations_froms F_p0_stations_tos v_p0_persons_rowLength v_p0_persons_count v_p0_persons_distanceLimit F_p0_persons_homes F_p0_persons_distances v_p0_persons_duties_most F_p0_persons_duties_counts F_p0_persons_duties_froms F_p0_persons_duties_tos v_p0_persons_moves_most F_p0_persons_moves_counts F_p0_persons_moves_froms F_p0_persons_moves_tos F_p0_persons_moveStations F_p0_persons_row F_p0_needs_needed x1 x2 n o1 ho1) ⟨(sr_cB 2 hws k_643 k_26 k_640 (by decide +kernel) ⟨Nat.le_of_ble_eq_true rfl, Nat.le_of_ble_eq_true rfl⟩), hws _ k_641, hws _ k_642⟩ hK hz G hA [0, 1, 2, 3, 4, 5, 6, 7, 8, 9, 10, 11, 12, 13, 14, 15, 16, 17, 18] [19] [1, 2, 3, 4, 5, 6, 7, 8, 9, 10, 11, 12, 13, 14, 15, 16, 17, 18, 19, 0] rfl (by decide) rfl (by decide) (by decide) rfl (by decide) 0 rfl rfl rfl hl.1 rfl (Nat.le_of_ble_eq_true rfl) d_L_lacks_5 ⟨Nat.le_of_ble_eq_true rfl, Nat.le_of_ble_eq_true rfl⟩ rfl (fun C hC x H locs G hsz hxo => ?_) (fun hz0 H locs G => ?_)
  · replace hf := (if_neg (sr_nz hC)).symm.trans hf
    by_cases c2 : o1.1 = 1
    · replace hf := (if_pos c2).symm.trans hf
      have hC2 := sr_ocC c2 hC
      cases hC2
      refine sr_WT.catch (own := "StationRowsLaw") (hn := [(13, "java/lang/IllegalArgumentException"), (17, "java/lang/IndexOutOfBoundsException")]) (pcH := 13) hown hxo (hz.2.2.1 _ sr_c1) (by rw [hes]; exact ⟨⟨by decide, by decide, rfl, hws _ k_358, Or.inl rfl⟩, ⟨by decide, by decide, rfl, hws _ k_234, Or.inr (hz.2.2.2.2 ("java/lang/IllegalArgumentException", "java/lang/IndexOutOfBoundsException") (by decide))⟩, trivial⟩) rfl ?_
      refine lv_astore (lv' := [(4, .ref x), (0, .ref r_p0), (1, .int x1), (2, .int x2), (3, .ref r_p3)]) hx hb d_L_lacks_13 hl (by decide) rfl (fun ls hl => ?_)
      refine lv_iconst (v := 1) hx hb d_L_lacks_15 (by decide) ?_
      cases hf
      exact sr_retW (by decide) (by decide) (sr_iret hx hb hr hlocks hK G d_L_lacks_16)
    replace hf := (if_neg c2).symm.trans hf
    by_cases c3 : o1.1 = 2
    · replace hf := (if_pos c3).symm.trans hf
      have hC2 := sr_ocC c3 hC
      cases hC2
      refine sr_WT.catch (own := "StationRowsLaw") (hn := [(13, "java/lang/IllegalArgumentException"), (17, "java/lang/IndexOutOfBoundsException")]) (pcH := 17) hown hxo (hz.2.2.1 _ sr_c2) (by rw [hes]; exact ⟨⟨by decide, by decide, rfl, hws _ k_358, Or.inr (hz.2.2.2.2 ("java/lang/IndexOutOfBoundsException", "java/lang/IllegalArgumentException") (by decide))⟩, ⟨by decide, by decide, rfl, hws _ k_234, Or.inl rfl⟩, trivial⟩) rfl ?_
      refine lv_astore (lv' := [(4, .ref x), (0, .ref r_p0), (1, .int x1), (2, .int x2), (3, .ref r_p3)]) hx hb d_L_lacks_17 hl (by decide) rfl (fun ls hl => ?_)
      refine lv_iconst (v := 2) hx hb d_L_lacks_19 (by decide) ?_
      cases hf
      exact sr_retW (by decide) (by decide) (sr_iret hx hb hr hlocks hK G d_L_lacks_20)
    replace hf := (if_neg c3).symm.trans hf
    exact sr_no hf
  replace hf := (if_pos hz0).symm.trans hf
  refine lv_i2l hx hb d_L_lacks_8 rfl ?_
  obtain ⟨hi4, hf⟩ := sr_bk_e hf
  refine va_last hx hb hK G.1 G.2.1 G.2.2 19 1 rfl rfl hi4 d_L_lacks_9 (fun H locs hP hD hS => ?_)
  have G : sr_G (dC, dI) A [(r_p0, .inr (7, [.ref q_p0_stations, .ref q_p0_vehicles, .ref q_p0_persons, .ref q_p0_needs, .ref q_p0_checks, .ref q_p0_keys])), (q_p0_stations, .inr (1, [.ref q_p0_stations_doors, .ref q_p0_stations_froms, .ref q_p0_stations_tos, .int v_p0_stations_count])), (q_p0_stations_froms, .inl (cI, n_p0_stations_froms, .inl F_p0_stations_froms)), (q_p0_stations_tos, .inl (cI, n_p0_stations_tos, .inl F_p0_stations_tos)), (q_p0_persons, .inr (3, [.ref q_p0_persons_homes, .ref q_p0_persons_distances, .ref q_p0_persons_duties, .ref q_p0_persons_moves, .ref q_p0_persons_moveStations, .ref q_p0_persons_row, .int o1.2.2.1, .int v_p0_persons_count, .int v_p0_persons_distanceLimit])), (q_p0_persons_homes, .inl (cI, n_p0_persons_homes, .inl F_p0_persons_homes)), (q_p0_persons_distances, .inl (cI, n_p0_persons_distances, .inl F_p0_persons_distances)), (q_p0_persons_duties, .inr (0, [.int v_p0_persons_duties_most, .ref q_p0_persons_duties_counts, .ref q_p0_persons_duties_froms, .ref q_p0_persons_duties_tos])), (q_p0_persons_duties_counts, .inl (cI, n_p0_persons_duties_counts, .inl F_p0_persons_duties_counts)), (q_p0_persons_duties_froms, .inl (cI, n_p0_persons_duties_froms, .inl F_p0_persons_duties_froms)), (q_p0_persons_duties_tos, .inl (cI, n_p0_persons_duties_tos, .inl F_p0_persons_duties_tos)), (q_p0_persons_moves, .inr (0, [.int v_p0_persons_moves_most, .ref q_p0_persons_moves_counts, .ref q_p0_persons_moves_froms, .ref q_p0_persons_moves_tos])), (q_p0_persons_moves_counts, .inl (cI, n_p0_persons_moves_counts, .inl F_p0_persons_moves_counts)), (q_p0_persons_moves_froms, .inl (cI, n_p0_persons_moves_froms, .inl F_p0_persons_moves_froms)), (q_p0_persons_moves_tos, .inl (cI, n_p0_persons_moves_tos, .inl F_p0_persons_moves_tos)), (q_p0_persons_moveStations, .inl (cI, n_p0_persons_moveStations, .inl F_p0_persons_moveStations)), (q_p0_persons_row, .inl (cI, n_p0_persons_row, .inl o1.2.2.2)), (q_p0_needs, .inr (4, [.ref q_p0_needs_needed])), (q_p0_needs_needed, .inl (cI, n_p0_needs_needed, .inl F_p0_needs_needed)), (r_p3, .inl (cJ, n_p3, .inr (.inl (vp_updL F_p3 (0 : Int32).toNatClampNeg ((o1.2.1 : Int32).toInt64)))))] s H locs := ⟨hP, hD, hS⟩
  refine lv_goto (tgt := 21) hx hb d_L_lacks_10 (by decide) ?_
  refine lv_iconst (v := 0) hx hb d_L_lacks_21 (by decide) ?_
  cases hf
  exact sr_retW (by decide) (by decide) (sr_iret hx hb hr hlocks hK G d_L_lacks_22)
/-! StationRowsLaw.period(LStationRows;III)I -/
abbrev rm_L_period : Room := { frames := 8, cells := 1, slots := 6, locals := 127 }
def f_L_period (n_p0_checks_periods : Nat) (v_p0_stations_count : Int32) (F_p0_checks_periods : Nat → Int32) (x1 x2 x3 : Int32) : Option (Int32 × (Nat → Int32)) :=
    (sr_bd (f_S_period n_p0_checks_periods v_p0_stations_count F_p0_checks_periods x1 x2 x3) fun o1 =>
    (if o1.1 = 0 then
    (some (0, o1.2))
    else
    (if o1.1 = 1 then
    (some (1, o1.2))
    else
    (if o1.1 = 2 then
    (some (2, o1.2))
    else
    none))))
set_option maxHeartbeats 4000000 in
set_option maxRecDepth 100000 in
theorem c_L_period (l : Launch) (hfl : l.flags = flags0) (dC : Nat → ClassId) (dI : Nat → Nat → Nat) (cI cJ cZ : ClassId) (r_p0 q_p0_stations q_p0_vehicles q_p0_persons q_p0_needs q_p0_checks q_p0_keys q_p0_stations_doors q_p0_stations_froms q_p0_stations_tos q_p0_checks_periods q_p0_checks_latest q_p0_checks_donePlaces q_p0_checks_doneMinutes : Nat) (n_p0_checks_periods : Nat) (v_p0_stations_count : Int32) (v_p0_checks_doneCount : Int32) (F_p0_checks_periods : Nat → Int32) (x1 x2 x3 : Int32)  (o : Int32 × (Nat → Int32)) (hf : f_L_period n_p0_checks_periods v_p0_stations_count F_p0_checks_periods x1 x2 x3 = some o) : sr_Wt l y_L_period (sr_WH y_L_period b_L_period 5 (some .int) hs_L_period) rm_L_period (dC, dI) (sr_ty cI cJ cZ) [.ref r_p0, .int x1, .int x2, .int x3] [(r_p0, .inr (7, [.ref q_p0_stations, .ref q_p0_vehicles, .ref q_p0_persons, .ref q_p0_needs, .ref q_p0_checks, .ref q_p0_keys])), (q_p0_stations, .inr (1, [.ref q_p0_stations_doors, .ref q_p0_stations_froms, .ref q_p0_stations_tos, .int v_p0_stations_count])), (q_p0_checks, .inr (5, [.ref q_p0_checks_periods, .ref q_p0_checks_latest, .ref q_p0_checks_donePlaces, .ref q_p0_checks_doneMinutes, .int v_p0_checks_doneCount])), (q_p0_checks_periods, .inl (cI, n_p0_checks_periods, .inl F_p0_checks_periods))] (some (.int o.1)) [(r_p0, .inr (7, [.ref q_p0_stations, .ref q_p0_vehicles, .ref q_p0_persons, .ref q_p0_needs, .ref q_p0_checks, .ref q_p0_keys])), (q_p0_stations, .inr (1, [.ref q_p0_stations_doors, .ref q_p0_stations_froms, .ref q_p0_stations_tos, .int v_p0_stations_count])), (q_p0_checks, .inr (5, [.ref q_p0_checks_periods, .ref q_p0_checks_latest, .ref q_p0_checks_donePlaces, .ref q_p0_checks_doneMinutes, .int v_p0_checks_doneCount])), (q_p0_checks_periods, .inl (cI, n_p0_checks_periods, .inl o.2))] := by
  refine sr_Wt.of (cc := b_L_period) (maxL := 5) (ret := (some .int)) (hs := hs_L_period) (by decide) rfl (Nat.le_of_ble_eq_true rfl) ?_
  intro p e s m below meth c A ls C0 hes hA hK hz G hl
  obtain ⟨hx, hb, hml, hr, hown, hts, hlocks, hnm⟩ := id C0
  generalize hargs : ([.ref r_p0, .int x1, .int x2, .int x3] : List Value).toArray = args at C0 hts ⊢
  have hws := sr_hwsH hts
  replace hl : lv_has ls 5 [(0, .ref r_p0), (1, .int x1), (2, .int x2), (3, .int x3)] := hl
  replace hf : (sr_bd (f_S_period n_p0_checks_periods v_p0_stations_count F_p0_checks_periods x1 x2 x3) fun o1 =>
    (if o1.1 = 0 then
    (some (0, o1.2))
    else
    (if o1.1 = 1 then
    (some (1, o1.2))
    else
    (if o1.1 = 2 then
    (some (2, o1.2))
    else
    none)))) = some o := hf
  refine lv_aload_n hx hb d_L_period_0 rfl (lv_at hl 0 rfl) ?_
  refine lv_iload_n hx hb d_L_period_1 rfl (lv_at hl 1 rfl) ?_
  refine lv_iload_n hx hb d_L_period_2 rfl (lv_at hl 2 rfl) ?_
  refine lv_iload_n hx hb d_L_period_3 rfl (lv_at hl 3 rfl) ?_
  obtain ⟨o1, ho1, hf⟩ := sr_bd_e hf
  refine sr_callTV (ci := 7) (vc := ("StationRows", zf_S, 6)) (wr := []) (ws1 := [(r_p0, .inr (7, [.ref q_p0_stations, .ref q_p0_vehicles, .ref q_p0_persons, .ref q_p0_needs, .ref q_p0_checks, .ref q_p0_keys])), (q_p0_stations, .inr (1, [.ref q_p0_stations_doors, .ref q_p0_stations_froms, .ref q_p0_stations_tos, .int v_p0_stations_count])), (q_p0_checks, .inr (5, [.ref q_p0_checks_periods, .ref q_p0_checks_latest, .ref q_p0_checks_donePlaces, .ref q_p0_checks_doneMinutes, .int v_p0_checks_doneCount])), (q_p0_checks_periods, .inl (cI, n_p0_checks_periods, .inl o1.2))]) (rest := []) (st1 := []) ⟨hx, hb, hml, hown, hts⟩ (c_S_period l hfl dC dI cI cJ cZ r_p0 q_p0_stations q_p0_vehicles q_p0_persons q_p0_needs q_p0_checks q_p0_keys q_p0_stations_doors q_p0_stations_froms q_p0_stations_tos q_p0_checks_periods q_p0_checks_latest q_p0_checks_donePlaces q_p0_checks_doneMinutes n_p0_checks_periods v_p0_stations_count v_p0_checks_doneCount F_p0_checks_periods x1 x2 x3 o1 ho1) ⟨(sr_cB 3 hws k_655 k_26 k_652 (by decide +kernel) ⟨Nat.le_of_ble_eq_true rfl, Nat.le_of_ble_eq_true rfl⟩), hws _ k_653, hws _ k_654⟩ hK hz G hA [0, 1, 2, 3] [] [0, 1, 2, 3] rfl (by decide) rfl (by decide) (by decide) rfl (by decide) 0 rfl rfl rfl hl.1 rfl (Nat.le_of_ble_eq_true rfl) d_L_period_4 ⟨Nat.le_of_ble_eq_true rfl, Nat.le_of_ble_eq_true rfl⟩ rfl (fun C hC x H locs G hsz hxo => ?_) (fun hz0 H locs G => ?_)
  · replace hf := (if_neg (sr_nz hC)).symm.trans hf
    by_cases c2 : o1.1 = 1
    · replace hf := (if_pos c2).symm.trans hf
      have hC2 := sr_ocC c2 hC
      cases hC2
      refine sr_WT.catch (own := "StationRowsLaw") (hn := [(10, "java/lang/IllegalArgumentException"), (14, "java/lang/IndexOutOfBoundsException")]) (pcH := 10) hown hxo (hz.2.2.1 _ sr_c1) (by rw [hes]; exact ⟨⟨by decide, by decide, rfl, hws _ k_358, Or.inl rfl⟩, ⟨by decide, by decide, rfl, hws _ k_234, Or.inr (hz.2.2.2.2 ("java/lang/IllegalArgumentException", "java/lang/IndexOutOfBoundsException") (by decide))⟩, trivial⟩) rfl ?_
      refine lv_astore (lv' := [(4, .ref x), (0, .ref r_p0), (1, .int x1), (2, .int x2), (3, .int x3)]) hx hb d_L_period_10 hl (by decide) rfl (fun ls hl => ?_)
      refine lv_iconst (v := 1) hx hb d_L_period_12 (by decide) ?_
      cases hf
      exact sr_retW (by decide) (by decide) (sr_iret hx hb hr hlocks hK G d_L_period_13)
    replace hf := (if_neg c2).symm.trans hf
    by_cases c3 : o1.1 = 2
    · replace hf := (if_pos c3).symm.trans hf
      have hC2 := sr_ocC c3 hC
      cases hC2
      refine sr_WT.catch (own := "StationRowsLaw") (hn := [(10, "java/lang/IllegalArgumentException"), (14, "java/lang/IndexOutOfBoundsException")]) (pcH := 14) hown hxo (hz.2.2.1 _ sr_c2) (by rw [hes]; exact ⟨⟨by decide, by decide, rfl, hws _ k_358, Or.inr (hz.2.2.2.2 ("java/lang/IndexOutOfBoundsException", "java/lang/IllegalArgumentException") (by decide))⟩, ⟨by decide, by decide, rfl, hws _ k_234, Or.inl rfl⟩, trivial⟩) rfl ?_
      refine lv_astore (lv' := [(4, .ref x), (0, .ref r_p0), (1, .int x1), (2, .int x2), (3, .int x3)]) hx hb d_L_period_14 hl (by decide) rfl (fun ls hl => ?_)
      refine lv_iconst (v := 2) hx hb d_L_period_16 (by decide) ?_
      cases hf
      exact sr_retW (by decide) (by decide) (sr_iret hx hb hr hlocks hK G d_L_period_17)
    replace hf := (if_neg c3).symm.trans hf
    exact sr_no hf
  replace hf := (if_pos hz0).symm.trans hf
  refine lv_goto (tgt := 18) hx hb d_L_period_7 (by decide) ?_
  refine lv_iconst (v := 0) hx hb d_L_period_18 (by decide) ?_
  cases hf
  exact sr_retW (by decide) (by decide) (sr_iret hx hb hr hlocks hK G d_L_period_19)
/-! StationRowsLaw.check(LStationRows;III)I -/
abbrev rm_L_check : Room := { frames := 9, cells := 1, slots := 6, locals := 147 }
def f_L_check (n_p0_checks_donePlaces n_p0_checks_doneMinutes : Nat) (v_p0_stations_count : Int32) (v_p0_checks_doneCount : Int32) (F_p0_checks_donePlaces : Nat → Int32) (F_p0_checks_doneMinutes : Nat → Int32) (x1 x2 x3 : Int32) : Option (Int32 × Int32 × (Nat → Int32) × (Nat → Int32)) :=
    (sr_bd (f_S_check n_p0_checks_donePlaces n_p0_checks_doneMinutes v_p0_stations_count v_p0_checks_doneCount F_p0_checks_donePlaces F_p0_checks_doneMinutes x1 x2 x3) fun o1 =>
    (if o1.1 = 0 then
    (some (0, o1.2.1, o1.2.2.1, o1.2.2.2))
    else
    (if o1.1 = 1 then
    (some (1, o1.2.1, o1.2.2.1, o1.2.2.2))
    else
    (if o1.1 = 2 then
    (some (2, o1.2.1, o1.2.2.1, o1.2.2.2))
    else
    (if o1.1 = 4 then
    (some (3, o1.2.1, o1.2.2.1, o1.2.2.2))
    else
    none)))))
set_option maxHeartbeats 4000000 in
set_option maxRecDepth 100000 in
theorem c_L_check (l : Launch) (hfl : l.flags = flags0) (dC : Nat → ClassId) (dI : Nat → Nat → Nat) (cI cJ cZ : ClassId) (r_p0 q_p0_stations q_p0_vehicles q_p0_persons q_p0_needs q_p0_checks q_p0_keys q_p0_stations_doors q_p0_stations_froms q_p0_stations_tos q_p0_checks_periods q_p0_checks_latest q_p0_checks_donePlaces q_p0_checks_doneMinutes : Nat) (n_p0_checks_donePlaces n_p0_checks_doneMinutes : Nat) (v_p0_stations_count : Int32) (v_p0_checks_doneCount : Int32) (F_p0_checks_donePlaces : Nat → Int32) (F_p0_checks_doneMinutes : Nat → Int32) (x1 x2 x3 : Int32)  (o : Int32 × Int32 × (Nat → Int32) × (Nat → Int32)) (hf : f_L_check n_p0_checks_donePlaces n_p0_checks_doneMinutes v_p0_stations_count v_p0_checks_doneCount F_p0_checks_donePlaces F_p0_checks_doneMinutes x1 x2 x3 = some o) : sr_Wt l y_L_check (sr_WH y_L_check b_L_check 5 (some .int) hs_L_check) rm_L_check (dC, dI) (sr_ty cI cJ cZ) [.ref r_p0, .int x1, .int x2, .int x3] [(r_p0, .inr (7, [.ref q_p0_stations, .ref q_p0_vehicles, .ref q_p0_persons, .ref q_p0_needs, .ref q_p0_checks, .ref q_p0_keys])), (q_p0_stations, .inr (1, [.ref q_p0_stations_doors, .ref q_p0_stations_froms, .ref q_p0_stations_tos, .int v_p0_stations_count])), (q_p0_checks, .inr (5, [.ref q_p0_checks_periods, .ref q_p0_checks_latest, .ref q_p0_checks_donePlaces, .ref q_p0_checks_doneMinutes, .int v_p0_checks_doneCount])), (q_p0_checks_donePlaces, .inl (cI, n_p0_checks_donePlaces, .inl F_p0_checks_donePlaces)), (q_p0_checks_doneMinutes, .inl (cI, n_p0_checks_doneMinutes, .inl F_p0_checks_doneMinutes))] (some (.int o.1)) [(r_p0, .inr (7, [.ref q_p0_stations, .ref q_p0_vehicles, .ref q_p0_persons, .ref q_p0_needs, .ref q_p0_checks, .ref q_p0_keys])), (q_p0_stations, .inr (1, [.ref q_p0_stations_doors, .ref q_p0_stations_froms, .ref q_p0_stations_tos, .int v_p0_stations_count])), (q_p0_checks, .inr (5, [.ref q_p0_checks_periods, .ref q_p0_checks_latest, .ref q_p0_checks_donePlaces, .ref q_p0_checks_doneMinutes, .int o.2.1])), (q_p0_checks_donePlaces, .inl (cI, n_p0_checks_donePlaces, .inl o.2.2.1)), (q_p0_checks_doneMinutes, .inl (cI, n_p0_checks_doneMinutes, .inl o.2.2.2))] := by
  refine sr_Wt.of (cc := b_L_check) (maxL := 5) (ret := (some .int)) (hs := hs_L_check) (by decide) rfl (Nat.le_of_ble_eq_true rfl) ?_
  intro p e s m below meth c A ls C0 hes hA hK hz G hl
  obtain ⟨hx, hb, hml, hr, hown, hts, hlocks, hnm⟩ := id C0
  generalize hargs : ([.ref r_p0, .int x1, .int x2, .int x3] : List Value).toArray = args at C0 hts ⊢
  have hws := sr_hwsH hts
  replace hl : lv_has ls 5 [(0, .ref r_p0), (1, .int x1), (2, .int x2), (3, .int x3)] := hl
  replace hf : (sr_bd (f_S_check n_p0_checks_donePlaces n_p0_checks_doneMinutes v_p0_stations_count v_p0_checks_doneCount F_p0_checks_donePlaces F_p0_checks_doneMinutes x1 x2 x3) fun o1 =>
    (if o1.1 = 0 then
    (some (0, o1.2.1, o1.2.2.1, o1.2.2.2))
    else
    (if o1.1 = 1 then
    (some (1, o1.2.1, o1.2.2.1, o1.2.2.2))
    else
    (if o1.1 = 2 then
    (some (2, o1.2.1, o1.2.2.1, o1.2.2.2))
    else
    (if o1.1 = 4 then
    (some (3, o1.2.1, o1.2.2.1, o1.2.2.2))
    else
    none))))) = some o := hf
  refine lv_aload_n hx hb d_L_check_0 rfl (lv_at hl 0 rfl) ?_
  refine lv_iload_n hx hb d_L_check_1 rfl (lv_at hl 1 rfl) ?_
  refine lv_iload_n hx hb d_L_check_2 rfl (lv_at hl 2 rfl) ?_
  refine lv_iload_n hx hb d_L_check_3 rfl (lv_at hl 3 rfl) ?_
  obtain ⟨o1, ho1, hf⟩ := sr_bd_e hf
  refine sr_callTV (ci := 7) (vc := ("StationRows", zf_S, 6)) (wr := []) (ws1 := [(r_p0, .inr (7, [.ref q_p0_stations, .ref q_p0_vehicles, .ref q_p0_persons, .ref q_p0_needs, .ref q_p0_checks, .ref q_p0_keys])), (q_p0_stations, .inr (1, [.ref q_p0_stations_doors, .ref q_p0_stations_froms, .ref q_p0_stations_tos, .int v_p0_stations_count])), (q_p0_checks, .inr (5, [.ref q_p0_checks_periods, .ref q_p0_checks_latest, .ref q_p0_checks_donePlaces, .ref q_p0_checks_doneMinutes, .int o1.2.1])), (q_p0_checks_donePlaces, .inl (cI, n_p0_checks_donePlaces, .inl o1.2.2.1)), (q_p0_checks_doneMinutes, .inl (cI, n_p0_checks_doneMinutes, .inl o1.2.2.2))]) (rest := []) (st1 := []) ⟨hx, hb, hml, hown, hts⟩ (c_S_check l hfl dC dI cI cJ cZ r_p0 q_p0_stations q_p0_vehicles q_p0_persons q_p0_needs q_p0_checks q_p0_keys q_p0_stations_doors q_p0_stations_froms q_p0_stations_tos q_p0_checks_periods q_p0_checks_latest q_p0_checks_donePlaces q_p0_checks_doneMinutes n_p0_checks_donePlaces n_p0_checks_doneMinutes v_p0_stations_count v_p0_checks_doneCount F_p0_checks_donePlaces F_p0_checks_doneMinutes x1 x2 x3 o1 ho1) ⟨(sr_cB 3 hws k_669 k_26 k_666 (by decide +kernel) ⟨Nat.le_of_ble_eq_true rfl, Nat.le_of_ble_eq_true rfl⟩), hws _ k_667, hws _ k_668⟩ hK hz G hA [0, 1, 2, 3, 4] [] [0, 1, 2, 3, 4] rfl (by decide) rfl (by decide) (by decide) rfl (by decide) 0 rfl rfl rfl hl.1 rfl (Nat.le_of_ble_eq_true rfl) d_L_check_4 ⟨Nat.le_of_ble_eq_true rfl, Nat.le_of_ble_eq_true rfl⟩ rfl (fun C hC x H locs G hsz hxo => ?_) (fun hz0 H locs G => ?_)
  · replace hf := (if_neg (sr_nz hC)).symm.trans hf
    by_cases c2 : o1.1 = 1
    · replace hf := (if_pos c2).symm.trans hf
      have hC2 := sr_ocC c2 hC
      cases hC2
      refine sr_WT.catch (own := "StationRowsLaw") (hn := [(10, "java/lang/IllegalArgumentException"), (14, "java/lang/IndexOutOfBoundsException"), (18, "java/lang/UnsupportedOperationException")]) (pcH := 10) hown hxo (hz.2.2.1 _ sr_c1) (by rw [hes]; exact ⟨⟨by decide, by decide, rfl, hws _ k_358, Or.inl rfl⟩, ⟨by decide, by decide, rfl, hws _ k_234, Or.inr (hz.2.2.2.2 ("java/lang/IllegalArgumentException", "java/lang/IndexOutOfBoundsException") (by decide))⟩, ⟨by decide, by decide, rfl, hws _ k_235, Or.inr (hz.2.2.2.2 ("java/lang/IllegalArgumentException", "java/lang/UnsupportedOperationException") (by decide))⟩, trivial⟩) rfl ?_
      refine lv_astore (lv' := [(4, .ref x), (0, .ref r_p0), (1, .int x1), (2, .int x2), (3, .int x3)]) hx hb d_L_check_10 hl (by decide) rfl (fun ls hl => ?_)
      refine lv_iconst (v := 1) hx hb d_L_check_12 (by decide) ?_
      cases hf
      exact sr_retW (by decide) (by decide) (sr_iret hx hb hr hlocks hK G d_L_check_13)
    replace hf := (if_neg c2).symm.trans hf
    by_cases c3 : o1.1 = 2
    · replace hf := (if_pos c3).symm.trans hf
      have hC2 := sr_ocC c3 hC
      cases hC2
      refine sr_WT.catch (own := "StationRowsLaw") (hn := [(10, "java/lang/IllegalArgumentException"), (14, "java/lang/IndexOutOfBoundsException"), (18, "java/lang/UnsupportedOperationException")]) (pcH := 14) hown hxo (hz.2.2.1 _ sr_c2) (by rw [hes]; exact ⟨⟨by decide, by decide, rfl, hws _ k_358, Or.inr (hz.2.2.2.2 ("java/lang/IndexOutOfBoundsException", "java/lang/IllegalArgumentException") (by decide))⟩, ⟨by decide, by decide, rfl, hws _ k_234, Or.inl rfl⟩, ⟨by decide, by decide, rfl, hws _ k_235, Or.inr (hz.2.2.2.2 ("java/lang/IndexOutOfBoundsException", "java/lang/UnsupportedOperationException") (by decide))⟩, trivial⟩) rfl ?_
      refine lv_astore (lv' := [(4, .ref x), (0, .ref r_p0), (1, .int x1), (2, .int x2), (3, .int x3)]) hx hb d_L_check_14 hl (by decide) rfl (fun ls hl => ?_)
      refine lv_iconst (v := 2) hx hb d_L_check_16 (by decide) ?_
      cases hf
      exact sr_retW (by decide) (by decide) (sr_iret hx hb hr hlocks hK G d_L_check_17)
    replace hf := (if_neg c3).symm.trans hf
    by_cases c4 : o1.1 = 4
    · replace hf := (if_pos c4).symm.trans hf
      have hC2 := sr_ocC c4 hC
      cases hC2
      refine sr_WT.catch (own := "StationRowsLaw") (hn := [(10, "java/lang/IllegalArgumentException"), (14, "java/lang/IndexOutOfBoundsException"), (18, "java/lang/UnsupportedOperationException")]) (pcH := 18) hown hxo (hz.2.2.1 _ sr_c4) (by rw [hes]; exact ⟨⟨by decide, by decide, rfl, hws _ k_358, Or.inr (hz.2.2.2.2 ("java/lang/UnsupportedOperationException", "java/lang/IllegalArgumentException") (by decide))⟩, ⟨by decide, by decide, rfl, hws _ k_234, Or.inr (hz.2.2.2.2 ("java/lang/UnsupportedOperationException", "java/lang/IndexOutOfBoundsException") (by decide))⟩, ⟨by decide, by decide, rfl, hws _ k_235, Or.inl rfl⟩, trivial⟩) rfl ?_
      refine lv_astore (lv' := [(4, .ref x), (0, .ref r_p0), (1, .int x1), (2, .int x2), (3, .int x3)]) hx hb d_L_check_18 hl (by decide) rfl (fun ls hl => ?_)
      refine lv_iconst (v := 3) hx hb d_L_check_20 (by decide) ?_
      cases hf
      exact sr_retW (by decide) (by decide) (sr_iret hx hb hr hlocks hK G d_L_check_21)
    replace hf := (if_neg c4).symm.trans hf
    exact sr_no hf
  replace hf := (if_pos hz0).symm.trans hf
  refine lv_goto (tgt := 22) hx hb d_L_check_7 (by decide) ?_
  refine lv_iconst (v := 0) hx hb d_L_check_22 (by decide) ?_
  cases hf
  exact sr_retW (by decide) (by decide) (sr_iret hx hb hr hlocks hK G d_L_check_23)
/-! StationRowsLaw.missing(LStationRows;II[J)I -/
abbrev rm_L_missing : Room := { frames := 9, cells := 1, slots := 6, locals := 149 }
def f_L_missing (n : Nat) (n_p0_stations_froms n_p0_stations_tos n_p0_checks_periods n_p0_checks_latest n_p0_checks_donePlaces n_p0_checks_doneMinutes n_p3 : Nat) (v_p0_stations_count : Int32) (F_p0_stations_froms : Nat → Int32) (F_p0_stations_tos : Nat → Int32) (v_p0_checks_doneCount : Int32) (F_p0_checks_periods : Nat → Int32) (F_p0_checks_latest : Nat → Int32) (F_p0_checks_donePlaces : Nat → Int32) (F_p0_checks_doneMinutes : Nat → Int32) (F_p3 : Nat → Int64) (x1 x2 : Int32) : Option (Int32 × (Nat → Int32) × (Nat → Int64)) :=
    (sr_bd (f_S_missing n n_p0_stations_froms n_p0_stations_tos n_p0_checks_periods n_p0_checks_latest n_p0_checks_donePlaces n_p0_checks_doneMinutes v_p0_stations_count F_p0_stations_froms F_p0_stations_tos v_p0_checks_doneCount F_p0_checks_periods F_p0_checks_latest F_p0_checks_donePlaces F_p0_checks_doneMinutes x1 x2) fun o1 =>
    (if o1.1 = 0 then
    (sr_bk 0 n_p3
    (some (0, o1.2.2, (vp_updL F_p3 (0 : Int32).toNatClampNeg ((o1.2.1 : Int32).toInt64)))))
    else
    (if o1.1 = 2 then
    (some (1, o1.2.2, F_p3))
    else
    none)))
set_option maxHeartbeats 4000000 in
set_option maxRecDepth 100000 in
theorem c_L_missing (l : Launch) (hfl : l.flags = flags0) (dC : Nat → ClassId) (dI : Nat → Nat → Nat) (cI cJ cZ : ClassId) (r_p0 r_p3 q_p0_stations q_p0_vehicles q_p0_persons q_p0_needs q_p0_checks q_p0_keys q_p0_stations_doors q_p0_stations_froms q_p0_stations_tos q_p0_checks_periods q_p0_checks_latest q_p0_checks_donePlaces q_p0_checks_doneMinutes : Nat) (n_p0_stations_froms n_p0_stations_tos n_p0_checks_periods n_p0_checks_latest n_p0_checks_donePlaces n_p0_checks_doneMinutes n_p3 : Nat) (v_p0_stations_count : Int32) (F_p0_stations_froms : Nat → Int32) (F_p0_stations_tos : Nat → Int32) (v_p0_checks_doneCount : Int32) (F_p0_checks_periods : Nat → Int32) (F_p0_checks_latest : Nat → Int32) (F_p0_checks_donePlaces : Nat → Int32) (F_p0_checks_doneMinutes : Nat → Int32) (F_p3 : Nat → Int64) (x1 x2 : Int32) (n : Nat) (o : Int32 × (Nat → Int32) × (Nat → Int64)) (hf : f_L_missing n n_p0_stations_froms n_p0_stations_tos n_p0_checks_periods n_p0_checks_latest n_p0_checks_donePlaces n_p0_checks_doneMinutes n_p3 v_p0_stations_count F_p0_stations_froms F_p0_stations_tos v_p0_checks_doneCount F_p0_checks_periods F_p0_checks_latest F_p0_checks_donePlaces F_p0_checks_doneMinutes F_p3 x1 x2 = some o) : sr_Wt l y_L_missing (sr_WH y_L_missing b_L_missing 5 (some .int) hs_L_missing) rm_L_missing (dC, dI) (sr_ty cI cJ cZ) [.ref r_p0, .int x1, .int x2, .ref r_p3] [(r_p0, .inr (7, [.ref q_p0_stations, .ref q_p0_vehicles, .ref q_p0_persons, .ref q_p0_needs, .ref q_p0_checks, .ref q_p0_keys])), (q_p0_stations, .inr (1, [.ref q_p0_stations_doors, .ref q_p0_stations_froms, .ref q_p0_stations_tos, .int v_p0_stations_count])), (q_p0_stations_froms, .inl (cI, n_p0_stations_froms, .inl F_p0_stations_froms)), (q_p0_stations_tos, .inl (cI, n_p0_stations_tos, .inl F_p0_stations_tos)), (q_p0_checks, .inr (5, [.ref q_p0_checks_periods, .ref q_p0_checks_latest, .ref q_p0_checks_donePlaces, .ref q_p0_checks_doneMinutes, .int v_p0_checks_doneCount])), (q_p0_checks_periods, .inl (cI, n_p0_checks_periods, .inl F_p0_checks_periods)), (q_p0_checks_latest, .inl (cI, n_p0_checks_latest, .inl F_p0_checks_latest)), (q_p0_checks_donePlaces, .inl (cI, n_p0_checks_donePlaces, .inl F_p0_checks_donePlaces)), (q_p0_checks_doneMinutes, .inl (cI, n_p0_checks_doneMinutes, .inl F_p0_checks_doneMinutes)), (r_p3, .inl (cJ, n_p3, .inr (.inl F_p3)))] (some (.int o.1)) [(r_p0, .inr (7, [.ref q_p0_stations, .ref q_p0_vehicles, .ref q_p0_persons, .ref q_p0_needs, .ref q_p0_checks, .ref q_p0_keys])), (q_p0_stations, .inr (1, [.ref q_p0_stations_doors, .ref q_p0_stations_froms, .ref q_p0_stations_tos, .int v_p0_stations_count])), (q_p0_stations_froms, .inl (cI, n_p0_stations_froms, .inl F_p0_stations_froms)), (q_p0_stations_tos, .inl (cI, n_p0_stations_tos, .inl F_p0_stations_tos)), (q_p0_checks, .inr (5, [.ref q_p0_checks_periods, .ref q_p0_checks_latest, .ref q_p0_checks_donePlaces, .ref q_p0_checks_doneMinutes, .int v_p0_checks_doneCount])), (q_p0_checks_periods, .inl (cI, n_p0_checks_periods, .inl F_p0_checks_periods)), (q_p0_checks_latest, .inl (cI, n_p0_checks_latest, .inl o.2.1)), (q_p0_checks_donePlaces, .inl (cI, n_p0_checks_donePlaces, .inl F_p0_checks_donePlaces)), (q_p0_checks_doneMinutes, .inl (cI, n_p0_checks_doneMinutes, .inl F_p0_checks_doneMinutes)), (r_p3, .inl (cJ, n_p3, .inr (.inl o.2.2)))] := by
  refine sr_Wt.of (cc := b_L_missing) (maxL := 5) (ret := (some .int)) (hs := hs_L_missing) (by decide) rfl (Nat.le_of_ble_eq_true rfl) ?_
  intro p e s m below meth c A ls C0 hes hA hK hz G hl
  obtain ⟨hx, hb, hml, hr, hown, hts, hlocks, hnm⟩ := id C0
  generalize hargs : ([.ref r_p0, .int x1, .int x2, .ref r_p3] : List Value).toArray = args at C0 hts ⊢
  have hws := sr_hwsH hts
  replace hl : lv_has ls 5 [(0, .ref r_p0), (1, .int x1), (2, .int x2), (3, .ref r_p3)] := hl
  replace hf : (sr_bd (f_S_missing n n_p0_stations_froms n_p0_stations_tos n_p0_checks_periods n_p0_checks_latest n_p0_checks_donePlaces n_p0_checks_doneMinutes v_p0_stations_count F_p0_stations_froms F_p0_stations_tos v_p0_checks_doneCount F_p0_checks_periods F_p0_checks_latest F_p0_checks_donePlaces F_p0_checks_doneMinutes x1 x2) fun o1 =>
    (if o1.1 = 0 then
    (sr_bk 0 n_p3
    (some (0, o1.2.2, (vp_updL F_p3 (0 : Int32).toNatClampNeg ((o1.2.1 : Int32).toInt64)))))
    else
    (if o1.1 = 2 then
    (some (1, o1.2.2, F_p3))
    else
    none))) = some o := hf
  refine lv_aload_n hx hb d_L_missing_0 rfl (lv_at hl 3 rfl) ?_
  refine lv_iconst (v := 0) hx hb d_L_missing_1 (by decide) ?_
  refine lv_aload_n hx hb d_L_missing_2 rfl (lv_at hl 0 rfl) ?_
  refine lv_iload_n hx hb d_L_missing_3 rfl (lv_at hl 1 rfl) ?_
  refine lv_iload_n hx hb d_L_missing_4 rfl (lv_at hl 2 rfl) ?_
  obtain ⟨o1, ho1, hf⟩ := sr_bd_e hf
  refine sr_callTV (ci := 7) (vc := ("StationRows", zf_S, 6)) (wr := [(r_p3, .inl (cJ, n_p3, .inr (.inl F_p3)))]) (ws1 := [(r_p0, .inr (7, [.ref q_p0_stations, .ref q_p0_vehicles, .ref q_p0_persons, .ref q_p0_needs, .ref q_p0_checks, .ref q_p0_keys])), (q_p0_stations, .inr (1, [.ref q_p0_stations_doors, .ref q_p0_stations_froms, .ref q_p0_stations_tos, .int v_p0_stations_count])), (q_p0_stations_froms, .inl (cI, n_p0_stations_froms, .inl F_p0_stations_froms)), (q_p0_stations_tos, .inl (cI, n_p0_stations_tos, .inl F_p0_stations_tos)), (q_p0_checks, .inr (5, [.ref q_p0_checks_periods, .ref q_p0_checks_latest, .ref q_p0_checks_donePlaces, .ref q_p0_checks_doneMinutes, .int v_p0_checks_doneCount])), (q_p0_checks_periods, .inl (cI, n_p0_checks_periods, .inl F_p0_checks_periods)), (q_p0_checks_latest, .inl (cI, n_p0_checks_latest, .inl o1.2.2)), (q_p0_checks_donePlaces, .inl (cI, n_p0_checks_donePlaces, .inl F_p0_checks_donePlaces)), (q_p0_checks_doneMinutes, .inl (cI, n_p0_checks_doneMinutes, .inl F_p0_checks_doneMinutes)), (r_p3, .inl (cJ, n_p3, .inr (.inl F_p3)))]) (rest := [.int 0, .ref r_p3]) (st1 := [.int o1.2.1, .int 0, .ref r_p3]) ⟨hx, hb, hml, hown, hts⟩ (c_S_missing l hfl dC dI cI cJ cZ r_p0 q_p0_stations q_p0_vehicles q_p0_persons q_p0_needs q_p0_checks q_p0_keys q_p0_stations_doors q_p0_stations_froms q_p0_stations_tos q_p0_checks_periods q_p0_checks_latest q_p0_checks_donePlaces q_p0_checks_doneMinutes n_p0_stations_froms n_p0_stations_tos n_p0_checks_periods n_p0_checks_latest n_p0_checks_donePlaces n_p0_checks_doneMinutes v_p0_stations_count F_p0_stations_froms F_p0_stations_tos v_p0_checks_doneCount F_p0_checks_periods F_p0_checks_latest F_p0_checks_donePlaces F_p0_checks_doneMinutes x1 x2 n o1 ho1) ⟨(sr_cB 2 hws k_684 k_26 k_681 (by decide +kernel) ⟨Nat.le_of_ble_eq_true rfl, Nat.le_of_ble_eq_true rfl⟩), hws _ k_682, hws _ k_683⟩ hK hz G hA [0, 1, 2, 3, 4, 5, 6, 7, 8] [9] [1, 2, 3, 4, 5, 6, 7, 8, 9, 0] rfl (by decide) rfl (by decide) (by decide) rfl (by decide) 0 rfl rfl rfl hl.1 rfl (Nat.le_of_ble_eq_true rfl) d_L_missing_5 ⟨Nat.le_of_ble_eq_true rfl, Nat.le_of_ble_eq_true rfl⟩ rfl (fun C hC x H locs G hsz hxo => ?_) (fun hz0 H locs G => ?_)
  · replace hf := (if_neg (sr_nz hC)).symm.trans hf
    by_cases c2 : o1.1 = 2
    · replace hf := (if_pos c2).symm.trans hf
      have hC2 := sr_ocC c2 hC
      cases hC2
      refine sr_WT.catch (own := "StationRowsLaw") (hn := [(13, "java/lang/IndexOutOfBoundsException")]) (pcH := 13) hown hxo (hz.2.2.1 _ sr_c2) (by rw [hes]; exact ⟨⟨by decide, by decide, rfl, hws _ k_234, Or.inl rfl⟩, trivial⟩) rfl ?_
      refine lv_astore (lv' := [(4, .ref x), (0, .ref r_p0), (1, .int x1), (2, .int x2), (3, .ref r_p3)]) hx hb d_L_missing_13 hl (by decide) rfl (fun ls hl => ?_)
      refine lv_iconst (v := 1) hx hb d_L_missing_15 (by decide) ?_
      cases hf
      exact sr_retW (by decide) (by decide) (sr_iret hx hb hr hlocks hK G d_L_missing_16)
    replace hf := (if_neg c2).symm.trans hf
    exact sr_no hf
  replace hf := (if_pos hz0).symm.trans hf
  refine lv_i2l hx hb d_L_missing_8 rfl ?_
  obtain ⟨hi3, hf⟩ := sr_bk_e hf
  refine va_last hx hb hK G.1 G.2.1 G.2.2 9 1 rfl rfl hi3 d_L_missing_9 (fun H locs hP hD hS => ?_)
  have G : sr_G (dC, dI) A [(r_p0, .inr (7, [.ref q_p0_stations, .ref q_p0_vehicles, .ref q_p0_persons, .ref q_p0_needs, .ref q_p0_checks, .ref q_p0_keys])), (q_p0_stations, .inr (1, [.ref q_p0_stations_doors, .ref q_p0_stations_froms, .ref q_p0_stations_tos, .int v_p0_stations_count])), (q_p0_stations_froms, .inl (cI, n_p0_stations_froms, .inl F_p0_stations_froms)), (q_p0_stations_tos, .inl (cI, n_p0_stations_tos, .inl F_p0_stations_tos)), (q_p0_checks, .inr (5, [.ref q_p0_checks_periods, .ref q_p0_checks_latest, .ref q_p0_checks_donePlaces, .ref q_p0_checks_doneMinutes, .int v_p0_checks_doneCount])), (q_p0_checks_periods, .inl (cI, n_p0_checks_periods, .inl F_p0_checks_periods)), (q_p0_checks_latest, .inl (cI, n_p0_checks_latest, .inl o1.2.2)), (q_p0_checks_donePlaces, .inl (cI, n_p0_checks_donePlaces, .inl F_p0_checks_donePlaces)), (q_p0_checks_doneMinutes, .inl (cI, n_p0_checks_doneMinutes, .inl F_p0_checks_doneMinutes)), (r_p3, .inl (cJ, n_p3, .inr (.inl (vp_updL F_p3 (0 : Int32).toNatClampNeg ((o1.2.1 : Int32).toInt64)))))] s H locs := ⟨hP, hD, hS⟩
  refine lv_goto (tgt := 17) hx hb d_L_missing_10 (by decide) ?_
  refine lv_iconst (v := 0) hx hb d_L_missing_17 (by decide) ?_
  cases hf
  exact sr_retW (by decide) (by decide) (sr_iret hx hb hr hlocks hK G d_L_missing_18)
/-! StationRowsLaw.key(LStationRows;IIZ)I -/
abbrev rm_L_key : Room := { frames := 8, cells := 1, slots := 6, locals := 127 }
def f_L_key (n_p0_keys_holders : Nat) (v_p0_stations_count : Int32) (F_p0_keys_holders : Nat → Int32) (x1 x2 x3 : Int32) : Option (Int32 × (Nat → Int32)) :=
    (sr_bd (f_S_key n_p0_keys_holders v_p0_stations_count F_p0_keys_holders x1 x2 x3) fun o1 =>
    (if o1.1 = 0 then
    (some (0, o1.2))
    else
    (if o1.1 = 1 then
    (some (1, o1.2))
    else
    (if o1.1 = 2 then
    (some (2, o1.2))
    else
    (if o1.1 = 3 then
    (some (3, o1.2))
    else
    none)))))
set_option maxHeartbeats 4000000 in
set_option maxRecDepth 100000 in
theorem c_L_key (l : Launch) (hfl : l.flags = flags0) (dC : Nat → ClassId) (dI : Nat → Nat → Nat) (cI cJ cZ : ClassId) (r_p0 q_p0_stations q_p0_vehicles q_p0_persons q_p0_needs q_p0_checks q_p0_keys q_p0_stations_doors q_p0_stations_froms q_p0_stations_tos q_p0_keys_holders : Nat) (n_p0_keys_holders : Nat) (v_p0_stations_count : Int32) (F_p0_keys_holders : Nat → Int32) (x1 x2 x3 : Int32)  (o : Int32 × (Nat → Int32)) (hf : f_L_key n_p0_keys_holders v_p0_stations_count F_p0_keys_holders x1 x2 x3 = some o) : sr_Wt l y_L_key (sr_WH y_L_key b_L_key 5 (some .int) hs_L_key) rm_L_key (dC, dI) (sr_ty cI cJ cZ) [.ref r_p0, .int x1, .int x2, .int x3] [(r_p0, .inr (7, [.ref q_p0_stations, .ref q_p0_vehicles, .ref q_p0_persons, .ref q_p0_needs, .ref q_p0_checks, .ref q_p0_keys])), (q_p0_stations, .inr (1, [.ref q_p0_stations_doors, .ref q_p0_stations_froms, .ref q_p0_stations_tos, .int v_p0_stations_count])), (q_p0_keys, .inr (6, [.ref q_p0_keys_holders])), (q_p0_keys_holders, .inl (cI, n_p0_keys_holders, .inl F_p0_keys_holders))] (some (.int o.1)) [(r_p0, .inr (7, [.ref q_p0_stations, .ref q_p0_vehicles, .ref q_p0_persons, .ref q_p0_needs, .ref q_p0_checks, .ref q_p0_keys])), (q_p0_stations, .inr (1, [.ref q_p0_stations_doors, .ref q_p0_stations_froms, .ref q_p0_stations_tos, .int v_p0_stations_count])), (q_p0_keys, .inr (6, [.ref q_p0_keys_holders])), (q_p0_keys_holders, .inl (cI, n_p0_keys_holders, .inl o.2))] := by
  refine sr_Wt.of (cc := b_L_key) (maxL := 5) (ret := (some .int)) (hs := hs_L_key) (by decide) rfl (Nat.le_of_ble_eq_true rfl) ?_
  intro p e s m below meth c A ls C0 hes hA hK hz G hl
  obtain ⟨hx, hb, hml, hr, hown, hts, hlocks, hnm⟩ := id C0
  generalize hargs : ([.ref r_p0, .int x1, .int x2, .int x3] : List Value).toArray = args at C0 hts ⊢
  have hws := sr_hwsH hts
  replace hl : lv_has ls 5 [(0, .ref r_p0), (1, .int x1), (2, .int x2), (3, .int x3)] := hl
  replace hf : (sr_bd (f_S_key n_p0_keys_holders v_p0_stations_count F_p0_keys_holders x1 x2 x3) fun o1 =>
    (if o1.1 = 0 then
    (some (0, o1.2))
    else
    (if o1.1 = 1 then
    (some (1, o1.2))
    else
    (if o1.1 = 2 then
    (some (2, o1.2))
    else
    (if o1.1 = 3 then
    (some (3, o1.2))
    else
    none))))) = some o := hf
  refine lv_aload_n hx hb d_L_key_0 rfl (lv_at hl 0 rfl) ?_
  refine lv_iload_n hx hb d_L_key_1 rfl (lv_at hl 1 rfl) ?_
  refine lv_iload_n hx hb d_L_key_2 rfl (lv_at hl 2 rfl) ?_
  refine lv_iload_n hx hb d_L_key_3 rfl (lv_at hl 3 rfl) ?_
  obtain ⟨o1, ho1, hf⟩ := sr_bd_e hf
  refine sr_callTV (ci := 7) (vc := ("StationRows", zf_S, 6)) (wr := []) (ws1 := [(r_p0, .inr (7, [.ref q_p0_stations, .ref q_p0_vehicles, .ref q_p0_persons, .ref q_p0_needs, .ref q_p0_checks, .ref q_p0_keys])), (q_p0_stations, .inr (1, [.ref q_p0_stations_doors, .ref q_p0_stations_froms, .ref q_p0_stations_tos, .int v_p0_stations_count])), (q_p0_keys, .inr (6, [.ref q_p0_keys_holders])), (q_p0_keys_holders, .inl (cI, n_p0_keys_holders, .inl o1.2))]) (rest := []) (st1 := []) ⟨hx, hb, hml, hown, hts⟩ (c_S_key l hfl dC dI cI cJ cZ r_p0 q_p0_stations q_p0_vehicles q_p0_persons q_p0_needs q_p0_checks q_p0_keys q_p0_stations_doors q_p0_stations_froms q_p0_stations_tos q_p0_keys_holders n_p0_keys_holders v_p0_stations_count F_p0_keys_holders x1 x2 x3 o1 ho1) ⟨(sr_cB 3 hws k_700 k_26 k_697 (by decide +kernel) ⟨Nat.le_of_ble_eq_true rfl, Nat.le_of_ble_eq_true rfl⟩), hws _ k_698, hws _ k_699⟩ hK hz G hA [0, 1, 2, 3] [] [0, 1, 2, 3] rfl (by decide) rfl (by decide) (by decide) rfl (by decide) 0 rfl rfl rfl hl.1 rfl (Nat.le_of_ble_eq_true rfl) d_L_key_4 ⟨Nat.le_of_ble_eq_true rfl, Nat.le_of_ble_eq_true rfl⟩ rfl (fun C hC x H locs G hsz hxo => ?_) (fun hz0 H locs G => ?_)
  · replace hf := (if_neg (sr_nz hC)).symm.trans hf
    by_cases c2 : o1.1 = 1
    · replace hf := (if_pos c2).symm.trans hf
      have hC2 := sr_ocC c2 hC
      cases hC2
      refine sr_WT.catch (own := "StationRowsLaw") (hn := [(10, "java/lang/IllegalArgumentException"), (14, "java/lang/IndexOutOfBoundsException"), (18, "java/lang/IllegalStateException")]) (pcH := 10) hown hxo (hz.2.2.1 _ sr_c1) (by rw [hes]; exact ⟨⟨by decide, by decide, rfl, hws _ k_358, Or.inl rfl⟩, ⟨by decide, by decide, rfl, hws _ k_234, Or.inr (hz.2.2.2.2 ("java/lang/IllegalArgumentException", "java/lang/IndexOutOfBoundsException") (by decide))⟩, ⟨by decide, by decide, rfl, hws _ k_401, Or.inr (hz.2.2.2.2 ("java/lang/IllegalArgumentException", "java/lang/IllegalStateException") (by decide))⟩, trivial⟩) rfl ?_
      refine lv_astore (lv' := [(4, .ref x), (0, .ref r_p0), (1, .int x1), (2, .int x2), (3, .int x3)]) hx hb d_L_key_10 hl (by decide) rfl (fun ls hl => ?_)
      refine lv_iconst (v := 1) hx hb d_L_key_12 (by decide) ?_
      cases hf
      exact sr_retW (by decide) (by decide) (sr_iret hx hb hr hlocks hK G d_L_key_13)
    replace hf := (if_neg c2).symm.trans hf
    by_cases c3 : o1.1 = 2
    · replace hf := (if_pos c3).symm.trans hf
      have hC2 := sr_ocC c3 hC
      cases hC2
      refine sr_WT.catch (own := "StationRowsLaw") (hn := [(10, "java/lang/IllegalArgumentException"), (14, "java/lang/IndexOutOfBoundsException"), (18, "java/lang/IllegalStateException")]) (pcH := 14) hown hxo (hz.2.2.1 _ sr_c2) (by rw [hes]; exact ⟨⟨by decide, by decide, rfl, hws _ k_358, Or.inr (hz.2.2.2.2 ("java/lang/IndexOutOfBoundsException", "java/lang/IllegalArgumentException") (by decide))⟩, ⟨by decide, by decide, rfl, hws _ k_234, Or.inl rfl⟩, ⟨by decide, by decide, rfl, hws _ k_401, Or.inr (hz.2.2.2.2 ("java/lang/IndexOutOfBoundsException", "java/lang/IllegalStateException") (by decide))⟩, trivial⟩) rfl ?_
      refine lv_astore (lv' := [(4, .ref x), (0, .ref r_p0), (1, .int x1), (2, .int x2), (3, .int x3)]) hx hb d_L_key_14 hl (by decide) rfl (fun ls hl => ?_)
      refine lv_iconst (v := 2) hx hb d_L_key_16 (by decide) ?_
      cases hf
      exact sr_retW (by decide) (by decide) (sr_iret hx hb hr hlocks hK G d_L_key_17)
    replace hf := (if_neg c3).symm.trans hf
    by_cases c4 : o1.1 = 3
    · replace hf := (if_pos c4).symm.trans hf
      have hC2 := sr_ocC c4 hC
      cases hC2
      refine sr_WT.catch (own := "StationRowsLaw") (hn := [(10, "java/lang/IllegalArgumentException"), (14, "java/lang/IndexOutOfBoundsException"), (18, "java/lang/IllegalStateException")]) (pcH := 18) hown hxo (hz.2.2.1 _ sr_c3) (by rw [hes]; exact ⟨⟨by decide, by decide, rfl, hws _ k_358, Or.inr (hz.2.2.2.2 ("java/lang/IllegalStateException", "java/lang/IllegalArgumentException") (by decide))⟩, ⟨by decide, by decide, rfl, hws _ k_234, Or.inr (hz.2.2.2.2 ("java/lang/IllegalStateException", "java/lang/IndexOutOfBoundsException") (by decide))⟩, ⟨by decide, by decide, rfl, hws _ k_401, Or.inl rfl⟩, trivial⟩) rfl ?_
      refine lv_astore (lv' := [(4, .ref x), (0, .ref r_p0), (1, .int x1), (2, .int x2), (3, .int x3)]) hx hb d_L_key_18 hl (by decide) rfl (fun ls hl => ?_)
      refine lv_iconst (v := 3) hx hb d_L_key_20 (by decide) ?_
      cases hf
      exact sr_retW (by decide) (by decide) (sr_iret hx hb hr hlocks hK G d_L_key_21)
    replace hf := (if_neg c4).symm.trans hf
    exact sr_no hf
  replace hf := (if_pos hz0).symm.trans hf
  refine lv_goto (tgt := 22) hx hb d_L_key_7 (by decide) ?_
  refine lv_iconst (v := 0) hx hb d_L_key_22 (by decide) ?_
  cases hf
  exact sr_retW (by decide) (by decide) (sr_iret hx hb hr hlocks hK G d_L_key_23)
/-! StationRowsLaw.holder(LStationRows;II[J)I -/
abbrev rm_L_holder : Room := { frames := 8, cells := 1, slots := 6, locals := 126 }
def f_L_holder (n : Nat) (n_p0_keys_holders n_p3 : Nat) (F_p0_keys_holders : Nat → Int32) (F_p3 : Nat → Int64) (x1 x2 : Int32) : Option (Int32 × (Nat → Int64)) :=
    (sr_bd (f_S_holder n n_p0_keys_holders F_p0_keys_holders x1 x2) fun o1 =>
    (if o1.1 = 0 then
    (sr_bk 0 n_p3
    (some (0, (vp_updL F_p3 (0 : Int32).toNatClampNeg ((o1.2 : Int32).toInt64)))))
    else
    (if o1.1 = 2 then
    (some (1, F_p3))
    else
    none)))
set_option maxHeartbeats 4000000 in
set_option maxRecDepth 100000 in
theorem c_L_holder (l : Launch) (hfl : l.flags = flags0) (dC : Nat → ClassId) (dI : Nat → Nat → Nat) (cI cJ cZ : ClassId) (r_p0 r_p3 q_p0_stations q_p0_vehicles q_p0_persons q_p0_needs q_p0_checks q_p0_keys q_p0_keys_holders : Nat) (n_p0_keys_holders n_p3 : Nat) (F_p0_keys_holders : Nat → Int32) (F_p3 : Nat → Int64) (x1 x2 : Int32) (n : Nat) (o : Int32 × (Nat → Int64)) (hf : f_L_holder n n_p0_keys_holders n_p3 F_p0_keys_holders F_p3 x1 x2 = some o) : sr_Wt l y_L_holder (sr_WH y_L_holder b_L_holder 5 (some .int) hs_L_holder) rm_L_holder (dC, dI) (sr_ty cI cJ cZ) [.ref r_p0, .int x1, .int x2, .ref r_p3] [(r_p0, .inr (7, [.ref q_p0_stations, .ref q_p0_vehicles, .ref q_p0_persons, .ref q_p0_needs, .ref q_p0_checks, .ref q_p0_keys])), (q_p0_keys, .inr (6, [.ref q_p0_keys_holders])), (q_p0_keys_holders, .inl (cI, n_p0_keys_holders, .inl F_p0_keys_holders)), (r_p3, .inl (cJ, n_p3, .inr (.inl F_p3)))] (some (.int o.1)) [(r_p0, .inr (7, [.ref q_p0_stations, .ref q_p0_vehicles, .ref q_p0_persons, .ref q_p0_needs, .ref q_p0_checks, .ref q_p0_keys])), (q_p0_keys, .inr (6, [.ref q_p0_keys_holders])), (q_p0_keys_holders, .inl (cI, n_p0_keys_holders, .inl F_p0_keys_holders)), (r_p3, .inl (cJ, n_p3, .inr (.inl o.2)))] := by
  refine sr_Wt.of (cc := b_L_holder) (maxL := 5) (ret := (some .int)) (hs := hs_L_holder) (by decide) rfl (Nat.le_of_ble_eq_true rfl) ?_
  intro p e s m below meth c A ls C0 hes hA hK hz G hl
  obtain ⟨hx, hb, hml, hr, hown, hts, hlocks, hnm⟩ := id C0
  generalize hargs : ([.ref r_p0, .int x1, .int x2, .ref r_p3] : List Value).toArray = args at C0 hts ⊢
  have hws := sr_hwsH hts
  replace hl : lv_has ls 5 [(0, .ref r_p0), (1, .int x1), (2, .int x2), (3, .ref r_p3)] := hl
  replace hf : (sr_bd (f_S_holder n n_p0_keys_holders F_p0_keys_holders x1 x2) fun o1 =>
    (if o1.1 = 0 then
    (sr_bk 0 n_p3
    (some (0, (vp_updL F_p3 (0 : Int32).toNatClampNeg ((o1.2 : Int32).toInt64)))))
    else
    (if o1.1 = 2 then
    (some (1, F_p3))
    else
    none))) = some o := hf
  refine lv_aload_n hx hb d_L_holder_0 rfl (lv_at hl 3 rfl) ?_
  refine lv_iconst (v := 0) hx hb d_L_holder_1 (by decide) ?_
  refine lv_aload_n hx hb d_L_holder_2 rfl (lv_at hl 0 rfl) ?_
  refine lv_iload_n hx hb d_L_holder_3 rfl (lv_at hl 1 rfl) ?_
  refine lv_iload_n hx hb d_L_holder_4 rfl (lv_at hl 2 rfl) ?_
  obtain ⟨o1, ho1, hf⟩ := sr_bd_e hf
  refine sr_callTV (ci := 7) (vc := ("StationRows", zf_S, 6)) (wr := [(r_p3, .inl (cJ, n_p3, .inr (.inl F_p3)))]) (ws1 := [(r_p0, .inr (7, [.ref q_p0_stations, .ref q_p0_vehicles, .ref q_p0_persons, .ref q_p0_needs, .ref q_p0_checks, .ref q_p0_keys])), (q_p0_keys, .inr (6, [.ref q_p0_keys_holders])), (q_p0_keys_holders, .inl (cI, n_p0_keys_holders, .inl F_p0_keys_holders)), (r_p3, .inl (cJ, n_p3, .inr (.inl F_p3)))]) (rest := [.int 0, .ref r_p3]) (st1 := [.int o1.2, .int 0, .ref r_p3]) ⟨hx, hb, hml, hown, hts⟩ (c_S_holder l hfl dC dI cI cJ cZ r_p0 q_p0_stations q_p0_vehicles q_p0_persons q_p0_needs q_p0_checks q_p0_keys q_p0_keys_holders n_p0_keys_holders F_p0_keys_holders x1 x2 n o1 ho1) ⟨(sr_cB 2 hws k_715 k_26 k_712 (by decide +kernel) ⟨Nat.le_of_ble_eq_true rfl, Nat.le_of_ble_eq_true rfl⟩), hws _ k_713, hws _ k_714⟩ hK hz G hA [0, 1, 2] [3] [1, 2, 3, 0] rfl (by decide) rfl (by decide) (by decide) rfl (by decide) 0 rfl rfl rfl hl.1 rfl (Nat.le_of_ble_eq_true rfl) d_L_holder_5 ⟨Nat.le_of_ble_eq_true rfl, Nat.le_of_ble_eq_true rfl⟩ rfl (fun C hC x H locs G hsz hxo => ?_) (fun hz0 H locs G => ?_)
  · replace hf := (if_neg (sr_nz hC)).symm.trans hf
    by_cases c2 : o1.1 = 2
    · replace hf := (if_pos c2).symm.trans hf
      have hC2 := sr_ocC c2 hC
      cases hC2
      refine sr_WT.catch (own := "StationRowsLaw") (hn := [(13, "java/lang/IndexOutOfBoundsException")]) (pcH := 13) hown hxo (hz.2.2.1 _ sr_c2) (by rw [hes]; exact ⟨⟨by decide, by decide, rfl, hws _ k_234, Or.inl rfl⟩, trivial⟩) rfl ?_
      refine lv_astore (lv' := [(4, .ref x), (0, .ref r_p0), (1, .int x1), (2, .int x2), (3, .ref r_p3)]) hx hb d_L_holder_13 hl (by decide) rfl (fun ls hl => ?_)
      refine lv_iconst (v := 1) hx hb d_L_holder_15 (by decide) ?_
      cases hf
      exact sr_retW (by decide) (by decide) (sr_iret hx hb hr hlocks hK G d_L_holder_16)
    replace hf := (if_neg c2).symm.trans hf
    exact sr_no hf
  replace hf := (if_pos hz0).symm.trans hf
  refine lv_i2l hx hb d_L_holder_8 rfl ?_
  obtain ⟨hi3, hf⟩ := sr_bk_e hf
  refine va_last hx hb hK G.1 G.2.1 G.2.2 3 1 rfl rfl hi3 d_L_holder_9 (fun H locs hP hD hS => ?_)
  have G : sr_G (dC, dI) A [(r_p0, .inr (7, [.ref q_p0_stations, .ref q_p0_vehicles, .ref q_p0_persons, .ref q_p0_needs, .ref q_p0_checks, .ref q_p0_keys])), (q_p0_keys, .inr (6, [.ref q_p0_keys_holders])), (q_p0_keys_holders, .inl (cI, n_p0_keys_holders, .inl F_p0_keys_holders)), (r_p3, .inl (cJ, n_p3, .inr (.inl (vp_updL F_p3 (0 : Int32).toNatClampNeg ((o1.2 : Int32).toInt64)))))] s H locs := ⟨hP, hD, hS⟩
  refine lv_goto (tgt := 17) hx hb d_L_holder_10 (by decide) ?_
  refine lv_iconst (v := 0) hx hb d_L_holder_17 (by decide) ?_
  cases hf
  exact sr_retW (by decide) (by decide) (sr_iret hx hb hr hlocks hK G d_L_holder_18)