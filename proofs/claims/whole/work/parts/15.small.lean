/-! StationRows$Checks.doneCount()I -/
abbrev rm_Ch_doneCount : Room := { frames := 0, cells := 0, slots := 0, locals := 0 }
def f_Ch_doneCount (v_doneCount : Int32) : Option (Int32) :=
    (some v_doneCount)
set_option maxHeartbeats 4000000 in
set_option maxRecDepth 100000 in
theorem c_Ch_doneCount (l : Launch) (dC : Nat → ClassId) (dI : Nat → Nat → Nat) (cI cJ cZ : ClassId) (h0 q_periods q_latest q_donePlaces q_doneMinutes : Nat)  (v_doneCount : Int32)   (o : Int32) (hf : f_Ch_doneCount v_doneCount = some o) : sr_Ct l y_Ch_doneCount (sr_W y_Ch_doneCount b_Ch_doneCount 1 (some .int)) rm_Ch_doneCount (dC, dI) (sr_ty cI cJ cZ) [.ref h0] [(h0, .inr (5, [.ref q_periods, .ref q_latest, .ref q_donePlaces, .ref q_doneMinutes, .int v_doneCount]))] (some (.int o)) [(h0, .inr (5, [.ref q_periods, .ref q_latest, .ref q_donePlaces, .ref q_doneMinutes, .int v_doneCount]))] := by
  refine sr_Ct.of (cc := b_Ch_doneCount) (maxL := 1) (ret := (some .int)) (by decide) rfl (Nat.le_of_ble_eq_true rfl) ?_
  intro p e s m below meth c A ls C0 hA hK G hl
  obtain ⟨hx, hb, hml, hr, hown, hts, hlocks, hnm⟩ := id C0
  generalize hargs : ([.ref h0] : List Value).toArray = args at C0 hts ⊢
  have hws := sr_hws hts
  replace hl : lv_has ls 1 [(0, .ref h0)] := hl
  replace hf : (some v_doneCount) = some o := hf
  refine lv_aload_n hx hb d_Ch_doneCount_0 rfl (lv_at hl 0 rfl) ?_
  refine va_get (D := (dC, dI)) (ci := 5) (v := .int v_doneCount) (C := "StationRows$Checks") (T := zf_Ch) (N := 5) hx hb hws zi_Ch hown hK G.1 0 rfl rfl 4 (by decide) (hws _ k_176) (fun _ h9 => h9) rfl d_Ch_doneCount_1 ?_
  cases hf
  exact sr_iret hx hb hr hlocks hK G d_Ch_doneCount_4
/-! StationRows$Checks.placeOf(II)I -/
abbrev rm_Ch_placeOf : Room := { frames := 0, cells := 0, slots := 0, locals := 0 }
def f_Ch_placeOf (x0 x1 : Int32) : Option (Int32) :=
    (some ((x0 * 5) + x1))
set_option maxHeartbeats 4000000 in
set_option maxRecDepth 100000 in
theorem c_Ch_placeOf (l : Launch) (dC : Nat → ClassId) (dI : Nat → Nat → Nat) (cI cJ cZ : ClassId)    (x0 x1 : Int32)  (o : Int32) (hf : f_Ch_placeOf x0 x1 = some o) : sr_Ct l y_Ch_placeOf (sr_W y_Ch_placeOf b_Ch_placeOf 2 (some .int)) rm_Ch_placeOf (dC, dI) (sr_ty cI cJ cZ) [.int x0, .int x1] [] (some (.int o)) [] := by
  refine sr_Ct.of (cc := b_Ch_placeOf) (maxL := 2) (ret := (some .int)) (by decide) rfl (Nat.le_of_ble_eq_true rfl) ?_
  intro p e s m below meth c A ls C0 hA hK G hl
  obtain ⟨hx, hb, hml, hr, hown, hts, hlocks, hnm⟩ := id C0
  generalize hargs : ([.int x0, .int x1] : List Value).toArray = args at C0 hts ⊢
  have hws := sr_hws hts
  replace hl : lv_has ls 2 [(0, .int x0), (1, .int x1)] := hl
  replace hf : (some ((x0 * 5) + x1)) = some o := hf
  refine lv_iload_n hx hb d_Ch_placeOf_0 rfl (lv_at hl 0 rfl) ?_
  refine lv_iconst (v := 5) hx hb d_Ch_placeOf_1 (by decide) ?_
  refine lv_imul hx hb d_Ch_placeOf_2 ?_
  refine lv_iload_n hx hb d_Ch_placeOf_3 rfl (lv_at hl 1 rfl) ?_
  refine lv_iadd hx hb d_Ch_placeOf_4 ?_
  cases hf
  exact sr_iret hx hb hr hlocks hK G d_Ch_placeOf_5
/-! StationRows$Checks.changePeriod(III)V -/
abbrev rm_Ch_changePeriod : Room := { frames := 1, cells := 0, slots := 0, locals := 21 }
def f_Ch_changePeriod (n_periods : Nat) (F_periods : Nat → Int32) (x1 x2 x3 : Int32) : Option (Nat → Int32) :=
    (sr_bd (f_Ch_placeOf x1 x2) fun o1 =>
    (sr_bk o1 n_periods
    (some (upd F_periods (o1 : Int32).toNatClampNeg x3))))
set_option maxHeartbeats 4000000 in
set_option maxRecDepth 100000 in
theorem c_Ch_changePeriod (l : Launch) (dC : Nat → ClassId) (dI : Nat → Nat → Nat) (cI cJ cZ : ClassId) (h0 q_periods q_latest q_donePlaces q_doneMinutes : Nat) (n_periods : Nat) (v_doneCount : Int32) (F_periods : Nat → Int32) (x1 x2 x3 : Int32)  (o : Nat → Int32) (hf : f_Ch_changePeriod n_periods F_periods x1 x2 x3 = some o) : sr_Ct l y_Ch_changePeriod (sr_W y_Ch_changePeriod b_Ch_changePeriod 4 none) rm_Ch_changePeriod (dC, dI) (sr_ty cI cJ cZ) [.ref h0, .int x1, .int x2, .int x3] [(h0, .inr (5, [.ref q_periods, .ref q_latest, .ref q_donePlaces, .ref q_doneMinutes, .int v_doneCount])), (q_periods, .inl (cI, n_periods, .inl F_periods))] (none) [(h0, .inr (5, [.ref q_periods, .ref q_latest, .ref q_donePlaces, .ref q_doneMinutes, .int v_doneCount])), (q_periods, .inl (cI, n_periods, .inl o))] := by
  refine sr_Ct.of (cc := b_Ch_changePeriod) (maxL := 4) (ret := none) (by decide) rfl (Nat.le_of_ble_eq_true rfl) ?_
  intro p e s m below meth c A ls C0 hA hK G hl
  obtain ⟨hx, hb, hml, hr, hown, hts, hlocks, hnm⟩ := id C0
  generalize hargs : ([.ref h0, .int x1, .int x2, .int x3] : List Value).toArray = args at C0 hts ⊢
  have hws := sr_hws hts
  replace hl : lv_has ls 4 [(0, .ref h0), (1, .int x1), (2, .int x2), (3, .int x3)] := hl
  replace hf : (sr_bd (f_Ch_placeOf x1 x2) fun o1 =>
    (sr_bk o1 n_periods
    (some (upd F_periods (o1 : Int32).toNatClampNeg x3)))) = some o := hf
  refine lv_aload_n hx hb d_Ch_changePeriod_0 rfl (lv_at hl 0 rfl) ?_
  refine va_get (D := (dC, dI)) (ci := 5) (v := .ref q_periods) (C := "StationRows$Checks") (T := zf_Ch) (N := 5) hx hb hws zi_Ch hown hK G.1 0 rfl rfl 0 (by decide) (hws _ k_172) (fun _ h9 => h9) rfl d_Ch_changePeriod_1 ?_
  refine lv_iload_n hx hb d_Ch_changePeriod_4 rfl (lv_at hl 1 rfl) ?_
  refine lv_iload_n hx hb d_Ch_changePeriod_5 rfl (lv_at hl 2 rfl) ?_
  obtain ⟨o1, ho1, hf⟩ := sr_bd_e hf
  refine sr_callS (wr := [(h0, .inr (5, [.ref q_periods, .ref q_latest, .ref q_donePlaces, .ref q_doneMinutes, .int v_doneCount])), (q_periods, .inl (cI, n_periods, .inl F_periods))]) (ws1 := [(h0, .inr (5, [.ref q_periods, .ref q_latest, .ref q_donePlaces, .ref q_doneMinutes, .int v_doneCount])), (q_periods, .inl (cI, n_periods, .inl F_periods))]) (rest := [.ref q_periods]) (st1 := [.int o1, .ref q_periods]) ⟨hx, hb, hml, hown, hts⟩ (c_Ch_placeOf l dC dI cI cJ cZ x1 x2 o1 ho1) ⟨(sr_cB 2 hws k_662 k_32 k_660 (by decide +kernel) ⟨Nat.le_of_ble_eq_true rfl, Nat.le_of_ble_eq_true rfl⟩), hws _ k_661⟩ hK G hA [] [0, 1] [0, 1] rfl (by decide) rfl (by decide) (by decide) rfl (by decide) rfl hl.1 rfl (Nat.le_of_ble_eq_true rfl) d_Ch_changePeriod_6 ⟨Nat.le_of_ble_eq_true rfl, Nat.le_of_ble_eq_true rfl⟩ rfl (fun H locs G => ?_)
  refine lv_iload_n hx hb d_Ch_changePeriod_9 rfl (lv_at hl 3 rfl) ?_
  obtain ⟨hi2, hf⟩ := sr_bk_e hf
  refine va_iast hx hb hK G.1 G.2.1 G.2.2 1 0 rfl rfl hi2 d_Ch_changePeriod_10 (fun H locs hP hD hS => ?_)
  have G : sr_G (dC, dI) A [(h0, .inr (5, [.ref q_periods, .ref q_latest, .ref q_donePlaces, .ref q_doneMinutes, .int v_doneCount])), (q_periods, .inl (cI, n_periods, .inl (upd F_periods (o1 : Int32).toNatClampNeg x3)))] s H locs := ⟨hP, hD, hS⟩
  cases hf
  exact sr_vret hx hb hr hlocks hK G d_Ch_changePeriod_11
/-! StationRows$Checks.addDone(III)V -/
abbrev rm_Ch_addDone : Room := { frames := 1, cells := 0, slots := 0, locals := 21 }
def f_Ch_addDone (n_donePlaces n_doneMinutes : Nat) (v_doneCount : Int32) (F_donePlaces : Nat → Int32) (F_doneMinutes : Nat → Int32) (x1 x2 x3 : Int32) : Option (Int32 × (Nat → Int32) × (Nat → Int32)) :=
    (sr_bd (f_Ch_placeOf x1 x2) fun o1 =>
    (sr_bk v_doneCount n_donePlaces
    (sr_bk v_doneCount n_doneMinutes
    (sr_nm (v_doneCount + 1) fun z4 =>
    (some (z4, (upd F_donePlaces (v_doneCount : Int32).toNatClampNeg o1), (upd F_doneMinutes (v_doneCount : Int32).toNatClampNeg x3)))))))
set_option maxHeartbeats 4000000 in
set_option maxRecDepth 100000 in
theorem c_Ch_addDone (l : Launch) (dC : Nat → ClassId) (dI : Nat → Nat → Nat) (cI cJ cZ : ClassId) (h0 q_periods q_latest q_donePlaces q_doneMinutes : Nat) (n_donePlaces n_doneMinutes : Nat) (v_doneCount : Int32) (F_donePlaces : Nat → Int32) (F_doneMinutes : Nat → Int32) (x1 x2 x3 : Int32)  (o : Int32 × (Nat → Int32) × (Nat → Int32)) (hf : f_Ch_addDone n_donePlaces n_doneMinutes v_doneCount F_donePlaces F_doneMinutes x1 x2 x3 = some o) : sr_Ct l y_Ch_addDone (sr_W y_Ch_addDone b_Ch_addDone 4 none) rm_Ch_addDone (dC, dI) (sr_ty cI cJ cZ) [.ref h0, .int x1, .int x2, .int x3] [(h0, .inr (5, [.ref q_periods, .ref q_latest, .ref q_donePlaces, .ref q_doneMinutes, .int v_doneCount])), (q_donePlaces, .inl (cI, n_donePlaces, .inl F_donePlaces)), (q_doneMinutes, .inl (cI, n_doneMinutes, .inl F_doneMinutes))] (none) [(h0, .inr (5, [.ref q_periods, .ref q_latest, .ref q_donePlaces, .ref q_doneMinutes, .int o.1])), (q_donePlaces, .inl (cI, n_donePlaces, .inl o.2.1)), (q_doneMinutes, .inl (cI, n_doneMinutes, .inl o.2.2))] := by
  refine sr_Ct.of (cc := b_Ch_addDone) (maxL := 4) (ret := none) (by decide) rfl (Nat.le_of_ble_eq_true rfl) ?_
  intro p e s m below meth c A ls C0 hA hK G hl
  obtain ⟨hx, hb, hml, hr, hown, hts, hlocks, hnm⟩ := id C0
  generalize hargs : ([.ref h0, .int x1, .int x2, .int x3] : List Value).toArray = args at C0 hts ⊢
  have hws := sr_hws hts
  replace hl : lv_has ls 4 [(0, .ref h0), (1, .int x1), (2, .int x2), (3, .int x3)] := hl
  replace hf : (sr_bd (f_Ch_placeOf x1 x2) fun o1 =>
    (sr_bk v_doneCount n_donePlaces
    (sr_bk v_doneCount n_doneMinutes
    (sr_nm (v_doneCount + 1) fun z4 =>
    (some (z4, (upd F_donePlaces (v_doneCount : Int32).toNatClampNeg o1), (upd F_doneMinutes (v_doneCount : Int32).toNatClampNeg x3))))))) = some o := hf
  refine lv_aload_n hx hb d_Ch_addDone_0 rfl (lv_at hl 0 rfl) ?_
  refine va_get (D := (dC, dI)) (ci := 5) (v := .ref q_donePlaces) (C := "StationRows$Checks") (T := zf_Ch) (N := 5) hx hb hws zi_Ch hown hK G.1 0 rfl rfl 2 (by decide) (hws _ k_174) (fun _ h9 => h9) rfl d_Ch_addDone_1 ?_
  refine lv_aload_n hx hb d_Ch_addDone_4 rfl (lv_at hl 0 rfl) ?_
  refine va_get (D := (dC, dI)) (ci := 5) (v := .int v_doneCount) (C := "StationRows$Checks") (T := zf_Ch) (N := 5) hx hb hws zi_Ch hown hK G.1 0 rfl rfl 4 (by decide) (hws _ k_176) (fun _ h9 => h9) rfl d_Ch_addDone_5 ?_
  refine lv_iload_n hx hb d_Ch_addDone_8 rfl (lv_at hl 1 rfl) ?_
  refine lv_iload_n hx hb d_Ch_addDone_9 rfl (lv_at hl 2 rfl) ?_
  obtain ⟨o1, ho1, hf⟩ := sr_bd_e hf
  refine sr_callS (wr := [(h0, .inr (5, [.ref q_periods, .ref q_latest, .ref q_donePlaces, .ref q_doneMinutes, .int v_doneCount])), (q_donePlaces, .inl (cI, n_donePlaces, .inl F_donePlaces)), (q_doneMinutes, .inl (cI, n_doneMinutes, .inl F_doneMinutes))]) (ws1 := [(h0, .inr (5, [.ref q_periods, .ref q_latest, .ref q_donePlaces, .ref q_doneMinutes, .int v_doneCount])), (q_donePlaces, .inl (cI, n_donePlaces, .inl F_donePlaces)), (q_doneMinutes, .inl (cI, n_doneMinutes, .inl F_doneMinutes))]) (rest := [.int v_doneCount, .ref q_donePlaces]) (st1 := [.int o1, .int v_doneCount, .ref q_donePlaces]) ⟨hx, hb, hml, hown, hts⟩ (c_Ch_placeOf l dC dI cI cJ cZ x1 x2 o1 ho1) ⟨(sr_cB 2 hws k_662 k_32 k_660 (by decide +kernel) ⟨Nat.le_of_ble_eq_true rfl, Nat.le_of_ble_eq_true rfl⟩), hws _ k_661⟩ hK G hA [] [0, 1, 2] [0, 1, 2] rfl (by decide) rfl (by decide) (by decide) rfl (by decide) rfl hl.1 rfl (Nat.le_of_ble_eq_true rfl) d_Ch_addDone_10 ⟨Nat.le_of_ble_eq_true rfl, Nat.le_of_ble_eq_true rfl⟩ rfl (fun H locs G => ?_)
  obtain ⟨hi2, hf⟩ := sr_bk_e hf
  refine va_iast hx hb hK G.1 G.2.1 G.2.2 1 0 rfl rfl hi2 d_Ch_addDone_13 (fun H locs hP hD hS => ?_)
  have G : sr_G (dC, dI) A [(h0, .inr (5, [.ref q_periods, .ref q_latest, .ref q_donePlaces, .ref q_doneMinutes, .int v_doneCount])), (q_donePlaces, .inl (cI, n_donePlaces, .inl (upd F_donePlaces (v_doneCount : Int32).toNatClampNeg o1))), (q_doneMinutes, .inl (cI, n_doneMinutes, .inl F_doneMinutes))] s H locs := ⟨hP, hD, hS⟩
  refine lv_aload_n hx hb d_Ch_addDone_14 rfl (lv_at hl 0 rfl) ?_
  refine va_get (D := (dC, dI)) (ci := 5) (v := .ref q_doneMinutes) (C := "StationRows$Checks") (T := zf_Ch) (N := 5) hx hb hws zi_Ch hown hK G.1 0 rfl rfl 3 (by decide) (hws _ k_175) (fun _ h9 => h9) rfl d_Ch_addDone_15 ?_
  refine lv_aload_n hx hb d_Ch_addDone_18 rfl (lv_at hl 0 rfl) ?_
  refine va_get (D := (dC, dI)) (ci := 5) (v := .int v_doneCount) (C := "StationRows$Checks") (T := zf_Ch) (N := 5) hx hb hws zi_Ch hown hK G.1 0 rfl rfl 4 (by decide) (hws _ k_176) (fun _ h9 => h9) rfl d_Ch_addDone_19 ?_
  refine lv_iload_n hx hb d_Ch_addDone_22 rfl (lv_at hl 3 rfl) ?_
  obtain ⟨hi3, hf⟩ := sr_bk_e hf
  refine va_iast hx hb hK G.1 G.2.1 G.2.2 2 0 rfl rfl hi3 d_Ch_addDone_23 (fun H locs hP hD hS => ?_)
  have G : sr_G (dC, dI) A [(h0, .inr (5, [.ref q_periods, .ref q_latest, .ref q_donePlaces, .ref q_doneMinutes, .int v_doneCount])), (q_donePlaces, .inl (cI, n_donePlaces, .inl (upd F_donePlaces (v_doneCount : Int32).toNatClampNeg o1))), (q_doneMinutes, .inl (cI, n_doneMinutes, .inl (upd F_doneMinutes (v_doneCount : Int32).toNatClampNeg x3)))] s H locs := ⟨hP, hD, hS⟩
  refine lv_aload_n hx hb d_Ch_addDone_24 rfl (lv_at hl 0 rfl) ?_
  refine lv_dup hx hb d_Ch_addDone_25 rfl ?_
  refine va_get (D := (dC, dI)) (ci := 5) (v := .int v_doneCount) (C := "StationRows$Checks") (T := zf_Ch) (N := 5) hx hb hws zi_Ch hown hK G.1 0 rfl rfl 4 (by decide) (hws _ k_176) (fun _ h9 => h9) rfl d_Ch_addDone_26 ?_
  refine lv_iconst (v := 1) hx hb d_Ch_addDone_29 (by decide) ?_
  refine lv_iadd hx hb d_Ch_addDone_30 ?_
  refine lv_topi (fun z4 ez4 => ?_)
  replace hf := sr_nm_u ez4 hf
  refine va_put (D := (dC, dI)) (ci := 5) (v := .int z4) (ty := .int) (C := "StationRows$Checks") (T := zf_Ch) (N := 5) hx hb hws zi_Ch zt_Ch zt_Ch_ok zn_Ch hown hK G.1 G.2.1 G.2.2 0 rfl rfl 4 (by decide) (hws _ k_176) (fun _ h9 => h9) rfl (by decide +kernel) rfl rfl (Nat.le_of_ble_eq_true rfl) d_Ch_addDone_31 (fun H locs hP hD hS => ?_)
  have G : sr_G (dC, dI) A [(h0, .inr (5, [.ref q_periods, .ref q_latest, .ref q_donePlaces, .ref q_doneMinutes, .int z4])), (q_donePlaces, .inl (cI, n_donePlaces, .inl (upd F_donePlaces (v_doneCount : Int32).toNatClampNeg o1))), (q_doneMinutes, .inl (cI, n_doneMinutes, .inl (upd F_doneMinutes (v_doneCount : Int32).toNatClampNeg x3)))] s H locs := ⟨hP, hD, hS⟩
  cases hf
  exact sr_vret hx hb hr hlocks hK G d_Ch_addDone_34
/-! StationRows$Checks.findLatest(I)V -/
abbrev rm_Ch_findLatest : Room := { frames := 1, cells := 0, slots := 0, locals := 23 }
def f_Ch_findLatest_10 (n : Nat) (n_latest n_donePlaces n_doneMinutes : Nat) (v_doneCount : Int32) (F_donePlaces : Nat → Int32) (F_doneMinutes : Nat → Int32) (x1 : Int32)  : Nat → Int32 → (Nat → Int32) → Option (Nat → Int32)
  | 0, _, _ => none
  | k + 1, y2, F_latest =>
    (if v_doneCount ≤ y2 then
    (some F_latest)
    else
    (sr_bk y2 n_donePlaces
    (sr_nm (F_donePlaces y2.toNatClampNeg) fun z3 =>
    (sr_bk y2 n_doneMinutes
    (if x1 < (F_doneMinutes y2.toNatClampNeg) then
    (sr_nm (y2 + 1) fun z6 =>
    (f_Ch_findLatest_10 n n_latest n_donePlaces n_doneMinutes v_doneCount F_donePlaces F_doneMinutes x1  k z6 F_latest))
    else
    (sr_bk y2 n_doneMinutes
    (sr_bk z3 n_latest
    (if (F_doneMinutes y2.toNatClampNeg) ≤ (F_latest z3.toNatClampNeg) then
    (sr_nm (y2 + 1) fun z10 =>
    (f_Ch_findLatest_10 n n_latest n_donePlaces n_doneMinutes v_doneCount F_donePlaces F_doneMinutes x1  k z10 F_latest))
    else
    (sr_bk y2 n_doneMinutes
    (sr_bk z3 n_latest
    (sr_nm (y2 + 1) fun z13 =>
    (f_Ch_findLatest_10 n n_latest n_donePlaces n_doneMinutes v_doneCount F_donePlaces F_doneMinutes x1  k z13 (upd F_latest (z3 : Int32).toNatClampNeg (F_doneMinutes y2.toNatClampNeg))))))))))))))
theorem f_Ch_findLatest_10_eq (n : Nat) (n_latest n_donePlaces n_doneMinutes : Nat) (v_doneCount : Int32) (F_donePlaces : Nat → Int32) (F_doneMinutes : Nat → Int32) (x1 : Int32)  (k : Nat) (y2 : Int32) (F_latest : Nat → Int32) : f_Ch_findLatest_10 n n_latest n_donePlaces n_doneMinutes v_doneCount F_donePlaces F_doneMinutes x1  (k + 1) y2 F_latest =
    (if v_doneCount ≤ y2 then
    (some F_latest)
    else
    (sr_bk y2 n_donePlaces
    (sr_nm (F_donePlaces y2.toNatClampNeg) fun z3 =>
    (sr_bk y2 n_doneMinutes
    (if x1 < (F_doneMinutes y2.toNatClampNeg) then
    (sr_nm (y2 + 1) fun z6 =>
    (f_Ch_findLatest_10 n n_latest n_donePlaces n_doneMinutes v_doneCount F_donePlaces F_doneMinutes x1  k z6 F_latest))
    else
    (sr_bk y2 n_doneMinutes
    (sr_bk z3 n_latest
    (if (F_doneMinutes y2.toNatClampNeg) ≤ (F_latest z3.toNatClampNeg) then
    (sr_nm (y2 + 1) fun z10 =>
    (f_Ch_findLatest_10 n n_latest n_donePlaces n_doneMinutes v_doneCount F_donePlaces F_doneMinutes x1  k z10 F_latest))
    else
    (sr_bk y2 n_doneMinutes
    (sr_bk z3 n_latest
    (sr_nm (y2 + 1) fun z13 =>
    (f_Ch_findLatest_10 n n_latest n_donePlaces n_doneMinutes v_doneCount F_donePlaces F_doneMinutes x1  k z13 (upd F_latest (z3 : Int32).toNatClampNeg (F_doneMinutes y2.toNatClampNeg)))))))))))))) := rfl
set_option maxHeartbeats 4000000 in
set_option maxRecDepth 100000 in
theorem w_Ch_findLatest_10 (l : Launch) {p : Program} {e : Env} {s : State} {m : MethodId} {below : List Frame} {meth : Method} {c : Code} (dC : Nat → ClassId) (dI : Nat → Nat → Nat) (cI cJ cZ : ClassId) (h0 q_periods q_latest q_donePlaces q_doneMinutes : Nat) (n_latest n_donePlaces n_doneMinutes : Nat) (v_doneCount : Int32) (F_donePlaces : Nat → Int32) (F_doneMinutes : Nat → Int32) (x1 : Int32) (n : Nat) (A : Nat → Prop) (args : Array Value) (o : Nat → Int32) (C0 : sr_cx p s m args meth c b_Ch_findLatest 4 none "StationRows$Checks" "findLatest" (sr_W y_Ch_findLatest b_Ch_findLatest 4 none)) (hK : va_K (dC, dI) vwCl (sr_ty cI cJ cZ) s) (hA : ∀ q, s.heap.size ≤ q → A q)   :
    ∀ (k : Nat) (y2 : Int32) (F_latest : Nat → Int32) (H : Heap) (locs : List Loc) (ls : Array Slot), f_Ch_findLatest_10 n n_latest n_donePlaces n_doneMinutes v_doneCount F_donePlaces F_doneMinutes x1  k y2 F_latest = some o → sr_G (dC, dI) A [(h0, .inr (5, [.ref q_periods, .ref q_latest, .ref q_donePlaces, .ref q_doneMinutes, .int v_doneCount])), (q_latest, .inl (cI, n_latest, .inl F_latest)), (q_donePlaces, .inl (cI, n_donePlaces, .inl F_donePlaces)), (q_doneMinutes, .inl (cI, n_doneMinutes, .inl F_doneMinutes))] s H locs → lv_has ls 4 [(0, .ref h0), (1, .int x1), (2, .int y2)] → W p l e rm_Ch_findLatest s m args below meth c H locs 0 0 (MQ below (sr_Q (dC, dI) (sr_ty cI cJ cZ) A [(h0, .inr (5, [.ref q_periods, .ref q_latest, .ref q_donePlaces, .ref q_doneMinutes, .int v_doneCount])), (q_latest, .inl (cI, n_latest, .inl o)), (q_donePlaces, .inl (cI, n_donePlaces, .inl F_donePlaces)), (q_doneMinutes, .inl (cI, n_doneMinutes, .inl F_doneMinutes))] (.inl (none)) s.heap.size) args s rm_Ch_findLatest.cells rm_Ch_findLatest.slots A) (F0 m 10 ls []) := by
  obtain ⟨hx, hb, hml, hr, hown, hts, hlocks, hnm⟩ := id C0
  have hws := sr_hws hts
  intro k
  induction k with
  | zero =>
    intro y2 F_latest H locs ls hf
    exact sr_no hf
  | succ k ih =>
    intro y2 F_latest H locs ls hf G hl
    replace hf := (f_Ch_findLatest_10_eq n n_latest n_donePlaces n_doneMinutes v_doneCount F_donePlaces F_doneMinutes x1  k y2 F_latest).symm.trans hf
    refine lv_iload_n hx hb d_Ch_findLatest_10 rfl (lv_at hl 2 rfl) ?_
    refine lv_aload_n hx hb d_Ch_findLatest_11 rfl (lv_at hl 0 rfl) ?_
    refine va_get (D := (dC, dI)) (ci := 5) (v := .int v_doneCount) (C := "StationRows$Checks") (T := zf_Ch) (N := 5) hx hb hws zi_Ch hown hK G.1 0 rfl rfl 4 (by decide) (hws _ k_176) (fun _ h9 => h9) rfl d_Ch_findLatest_12 ?_
    refine lv_icmp_ge (tgt := 68) hx hb d_Ch_findLatest_15 (by decide) (fun c1 => ?_) (fun c1 => ?_)
    · replace hf := (if_pos c1).symm.trans hf
      cases hf
      exact sr_vret hx hb hr hlocks hK G d_Ch_findLatest_68
    replace hf := (if_neg c1).symm.trans hf
    refine lv_aload_n hx hb d_Ch_findLatest_18 rfl (lv_at hl 0 rfl) ?_
    refine va_get (D := (dC, dI)) (ci := 5) (v := .ref q_donePlaces) (C := "StationRows$Checks") (T := zf_Ch) (N := 5) hx hb hws zi_Ch hown hK G.1 0 rfl rfl 2 (by decide) (hws _ k_174) (fun _ h9 => h9) rfl d_Ch_findLatest_19 ?_
    refine lv_iload_n hx hb d_Ch_findLatest_22 rfl (lv_at hl 2 rfl) ?_
    obtain ⟨hi2, hf⟩ := sr_bk_e hf
    refine va_iald hx hb hK G.1 2 0 rfl rfl hi2 d_Ch_findLatest_23 ?_
    refine lv_topi (fun z3 ez3 => ?_)
    replace hf := sr_nm_u ez3 hf
    refine lv_istore_n (lv' := [(3, .int z3), (0, .ref h0), (1, .int x1), (2, .int y2)]) hx hb d_Ch_findLatest_24 rfl hl (by decide) rfl (fun ls hl => ?_)
    refine lv_aload_n hx hb d_Ch_findLatest_25 rfl (lv_at hl 1 rfl) ?_
    refine va_get (D := (dC, dI)) (ci := 5) (v := .ref q_doneMinutes) (C := "StationRows$Checks") (T := zf_Ch) (N := 5) hx hb hws zi_Ch hown hK G.1 0 rfl rfl 3 (by decide) (hws _ k_175) (fun _ h9 => h9) rfl d_Ch_findLatest_26 ?_
    refine lv_iload_n hx hb d_Ch_findLatest_29 rfl (lv_at hl 3 rfl) ?_
    obtain ⟨hi4, hf⟩ := sr_bk_e hf
    refine va_iald hx hb hK G.1 3 0 rfl rfl hi4 d_Ch_findLatest_30 ?_
    refine lv_iload_n hx hb d_Ch_findLatest_31 rfl (lv_at hl 2 rfl) ?_
    refine lv_icmp_gt (tgt := 62) hx hb d_Ch_findLatest_32 (by decide) (fun c5 => ?_) (fun c5 => ?_)
    · replace hf := (if_pos c5).symm.trans hf
      obtain ⟨z6, ez6⟩ : ∃ y : Int32, y = (y2 + 1) := ⟨_, rfl⟩
      replace hf := sr_nm_u ez6 hf
      refine lv_iinc (v := z6) (lv' := [(2, .int z6), (3, .int z3), (0, .ref h0), (1, .int x1)]) hx hb d_Ch_findLatest_62 hl (k := 3) rfl ((sr_inc _ (by decide)).trans ez6.symm) (by decide) rfl (fun ls hl => ?_)
      refine lv_goto (tgt := 10) hx hb d_Ch_findLatest_65 (by decide) ?_
      exact ih z6 F_latest _ _ _ hf G (lv_sub hl [2, 3, 0] rfl)
    replace hf := (if_neg c5).symm.trans hf
    refine lv_aload_n hx hb d_Ch_findLatest_35 rfl (lv_at hl 1 rfl) ?_
    refine va_get (D := (dC, dI)) (ci := 5) (v := .ref q_doneMinutes) (C := "StationRows$Checks") (T := zf_Ch) (N := 5) hx hb hws zi_Ch hown hK G.1 0 rfl rfl 3 (by decide) (hws _ k_175) (fun _ h9 => h9) rfl d_Ch_findLatest_36 ?_
    refine lv_iload_n hx hb d_Ch_findLatest_39 rfl (lv_at hl 3 rfl) ?_
    obtain ⟨hi7, hf⟩ := sr_bk_e hf
    refine va_iald hx hb hK G.1 3 0 rfl rfl hi7 d_Ch_findLatest_40 ?_
    refine lv_aload_n hx hb d_Ch_findLatest_41 rfl (lv_at hl 1 rfl) ?_
    refine va_get (D := (dC, dI)) (ci := 5) (v := .ref q_latest) (C := "StationRows$Checks") (T := zf_Ch) (N := 5) hx hb hws zi_Ch hown hK G.1 0 rfl rfl 1 (by decide) (hws _ k_173) (fun _ h9 => h9) rfl d_Ch_findLatest_42 ?_
    refine lv_iload_n hx hb d_Ch_findLatest_45 rfl (lv_at hl 0 rfl) ?_
    obtain ⟨hi8, hf⟩ := sr_bk_e hf
    refine va_iald hx hb hK G.1 1 0 rfl rfl hi8 d_Ch_findLatest_46 ?_
    refine lv_icmp_le (tgt := 62) hx hb d_Ch_findLatest_47 (by decide) (fun c9 => ?_) (fun c9 => ?_)
    · replace hf := (if_pos c9).symm.trans hf
      obtain ⟨z10, ez10⟩ : ∃ y : Int32, y = (y2 + 1) := ⟨_, rfl⟩
      replace hf := sr_nm_u ez10 hf
      refine lv_iinc (v := z10) (lv' := [(2, .int z10), (3, .int z3), (0, .ref h0), (1, .int x1)]) hx hb d_Ch_findLatest_62 hl (k := 3) rfl ((sr_inc _ (by decide)).trans ez10.symm) (by decide) rfl (fun ls hl => ?_)
      refine lv_goto (tgt := 10) hx hb d_Ch_findLatest_65 (by decide) ?_
      exact ih z10 F_latest _ _ _ hf G (lv_sub hl [2, 3, 0] rfl)
    replace hf := (if_neg c9).symm.trans hf
    refine lv_aload_n hx hb d_Ch_findLatest_50 rfl (lv_at hl 1 rfl) ?_
    refine va_get (D := (dC, dI)) (ci := 5) (v := .ref q_latest) (C := "StationRows$Checks") (T := zf_Ch) (N := 5) hx hb hws zi_Ch hown hK G.1 0 rfl rfl 1 (by decide) (hws _ k_173) (fun _ h9 => h9) rfl d_Ch_findLatest_51 ?_
    refine lv_iload_n hx hb d_Ch_findLatest_54 rfl (lv_at hl 0 rfl) ?_
    refine lv_aload_n hx hb d_Ch_findLatest_55 rfl (lv_at hl 1 rfl) ?_
    refine va_get (D := (dC, dI)) (ci := 5) (v := .ref q_doneMinutes) (C := "StationRows$Checks") (T := zf_Ch) (N := 5) hx hb hws zi_Ch hown hK G.1 0 rfl rfl 3 (by decide) (hws _ k_175) (fun _ h9 => h9) rfl d_Ch_findLatest_56 ?_
    refine lv_iload_n hx hb d_Ch_findLatest_59 rfl (lv_at hl 3 rfl) ?_
    obtain ⟨hi11, hf⟩ := sr_bk_e hf
    refine va_iald hx hb hK G.1 3 0 rfl rfl hi11 d_Ch_findLatest_60 ?_
    obtain ⟨hi12, hf⟩ := sr_bk_e hf
    refine va_iast hx hb hK G.1 G.2.1 G.2.2 1 0 rfl rfl hi12 d_Ch_findLatest_61 (fun H locs hP hD hS => ?_)
    have G : sr_G (dC, dI) A [(h0, .inr (5, [.ref q_periods, .ref q_latest, .ref q_donePlaces, .ref q_doneMinutes, .int v_doneCount])), (q_latest, .inl (cI, n_latest, .inl (upd F_latest (z3 : Int32).toNatClampNeg (F_doneMinutes y2.toNatClampNeg)))), (q_donePlaces, .inl (cI, n_donePlaces, .inl F_donePlaces)), (q_doneMinutes, .inl (cI, n_doneMinutes, .inl F_doneMinutes))] s H locs := ⟨hP, hD, hS⟩
    obtain ⟨z13, ez13⟩ : ∃ y : Int32, y = (y2 + 1) := ⟨_, rfl⟩
    replace hf := sr_nm_u ez13 hf
    refine lv_iinc (v := z13) (lv' := [(2, .int z13), (3, .int z3), (0, .ref h0), (1, .int x1)]) hx hb d_Ch_findLatest_62 hl (k := 3) rfl ((sr_inc _ (by decide)).trans ez13.symm) (by decide) rfl (fun ls hl => ?_)
    refine lv_goto (tgt := 10) hx hb d_Ch_findLatest_65 (by decide) ?_
    exact ih z13 (upd F_latest (z3 : Int32).toNatClampNeg (F_doneMinutes y2.toNatClampNeg)) _ _ _ hf G (lv_sub hl [2, 3, 0] rfl)
def f_Ch_findLatest (n : Nat) (n_latest n_donePlaces n_doneMinutes : Nat) (v_doneCount : Int32) (F_latest : Nat → Int32) (F_donePlaces : Nat → Int32) (F_doneMinutes : Nat → Int32) (x1 : Int32) : Option (Nat → Int32) :=
    (sr_bd (f_J_fill n n_latest F_latest (-1)) fun o1 =>
    (f_Ch_findLatest_10 n n_latest n_donePlaces n_doneMinutes v_doneCount F_donePlaces F_doneMinutes x1  n 0 o1))
set_option maxHeartbeats 4000000 in
set_option maxRecDepth 100000 in
theorem c_Ch_findLatest (l : Launch) (dC : Nat → ClassId) (dI : Nat → Nat → Nat) (cI cJ cZ : ClassId) (h0 q_periods q_latest q_donePlaces q_doneMinutes : Nat) (n_latest n_donePlaces n_doneMinutes : Nat) (v_doneCount : Int32) (F_latest : Nat → Int32) (F_donePlaces : Nat → Int32) (F_doneMinutes : Nat → Int32) (x1 : Int32) (n : Nat) (o : Nat → Int32) (hf : f_Ch_findLatest n n_latest n_donePlaces n_doneMinutes v_doneCount F_latest F_donePlaces F_doneMinutes x1 = some o) : sr_Ct l y_Ch_findLatest (sr_W y_Ch_findLatest b_Ch_findLatest 4 none) rm_Ch_findLatest (dC, dI) (sr_ty cI cJ cZ) [.ref h0, .int x1] [(h0, .inr (5, [.ref q_periods, .ref q_latest, .ref q_donePlaces, .ref q_doneMinutes, .int v_doneCount])), (q_latest, .inl (cI, n_latest, .inl F_latest)), (q_donePlaces, .inl (cI, n_donePlaces, .inl F_donePlaces)), (q_doneMinutes, .inl (cI, n_doneMinutes, .inl F_doneMinutes))] (none) [(h0, .inr (5, [.ref q_periods, .ref q_latest, .ref q_donePlaces, .ref q_doneMinutes, .int v_doneCount])), (q_latest, .inl (cI, n_latest, .inl o)), (q_donePlaces, .inl (cI, n_donePlaces, .inl F_donePlaces)), (q_doneMinutes, .inl (cI, n_doneMinutes, .inl F_doneMinutes))] := by
  refine sr_Ct.of (cc := b_Ch_findLatest) (maxL := 4) (ret := none) (by decide) rfl (Nat.le_of_ble_eq_true rfl) ?_
  intro p e s m below meth c A ls C0 hA hK G hl
  obtain ⟨hx, hb, hml, hr, hown, hts, hlocks, hnm⟩ := id C0
  generalize hargs : ([.ref h0, .int x1] : List Value).toArray = args at C0 hts ⊢
  have hws := sr_hws hts
  replace hl : lv_has ls 4 [(0, .ref h0), (1, .int x1)] := hl
  replace hf : (sr_bd (f_J_fill n n_latest F_latest (-1)) fun o1 =>
    (f_Ch_findLatest_10 n n_latest n_donePlaces n_doneMinutes v_doneCount F_donePlaces F_doneMinutes x1  n 0 o1)) = some o := hf
  refine lv_aload_n hx hb d_Ch_findLatest_0 rfl (lv_at hl 0 rfl) ?_
  refine va_get (D := (dC, dI)) (ci := 5) (v := .ref q_latest) (C := "StationRows$Checks") (T := zf_Ch) (N := 5) hx hb hws zi_Ch hown hK G.1 0 rfl rfl 1 (by decide) (hws _ k_173) (fun _ h9 => h9) rfl d_Ch_findLatest_1 ?_
  refine lv_iconst (v := (-1)) hx hb d_Ch_findLatest_4 (by decide) ?_
  obtain ⟨o1, ho1, hf⟩ := sr_bd_e hf
  refine sr_callS (wr := [(h0, .inr (5, [.ref q_periods, .ref q_latest, .ref q_donePlaces, .ref q_doneMinutes, .int v_doneCount])), (q_donePlaces, .inl (cI, n_donePlaces, .inl F_donePlaces)), (q_doneMinutes, .inl (cI, n_doneMinutes, .inl F_doneMinutes))]) (ws1 := [(h0, .inr (5, [.ref q_periods, .ref q_latest, .ref q_donePlaces, .ref q_doneMinutes, .int v_doneCount])), (q_latest, .inl (cI, n_latest, .inl o1)), (q_donePlaces, .inl (cI, n_donePlaces, .inl F_donePlaces)), (q_doneMinutes, .inl (cI, n_doneMinutes, .inl F_doneMinutes))]) (rest := []) (st1 := []) ⟨hx, hb, hml, hown, hts⟩ (c_J_fill l dC dI cI cJ cZ q_latest n_latest F_latest (-1) n o1 ho1) ⟨(sr_cB 2 hws k_567 k_42 k_689 (by decide +kernel) ⟨Nat.le_of_ble_eq_true rfl, Nat.le_of_ble_eq_true rfl⟩), hws _ k_566⟩ hK G hA [1] [0, 2, 3] [0, 3, 1, 2] rfl (by decide) rfl (by decide) (by decide) rfl (by decide) rfl hl.1 rfl (Nat.le_of_ble_eq_true rfl) d_Ch_findLatest_5 ⟨Nat.le_of_ble_eq_true rfl, Nat.le_of_ble_eq_true rfl⟩ rfl (fun H locs G => ?_)
  refine lv_iconst (v := 0) hx hb d_Ch_findLatest_8 (by decide) ?_
  refine lv_istore_n (lv' := [(2, .int 0), (0, .ref h0), (1, .int x1)]) hx hb d_Ch_findLatest_9 rfl hl (by decide) rfl (fun ls hl => ?_)
  exact w_Ch_findLatest_10 l dC dI cI cJ cZ h0 q_periods q_latest q_donePlaces q_doneMinutes n_latest n_donePlaces n_doneMinutes v_doneCount F_donePlaces F_doneMinutes x1 n A args o C0 hK hA   n 0 o1 _ _ _ hf G (lv_sub hl [1, 2, 0] rfl)
/-! StationRows$Checks.isMissing(III)Z -/
abbrev rm_Ch_isMissing : Room := { frames := 1, cells := 0, slots := 0, locals := 21 }
def f_Ch_isMissing (n_periods n_latest : Nat) (F_periods : Nat → Int32) (F_latest : Nat → Int32) (x1 x2 x3 : Int32) : Option (Int32) :=
    (sr_bd (f_Ch_placeOf x1 x2) fun o1 =>
    (sr_bk o1 n_periods
    (sr_nm (F_periods o1.toNatClampNeg) fun z3 =>
    (if z3 ≤ 0 then
    (some 0)
    else
    (if x3 < (z3 - 1) then
    (some 0)
    else
    (sr_bk o1 n_latest
    (if (x3 - z3) < (F_latest o1.toNatClampNeg) then
    (some 0)
    else
    (some 1))))))))
set_option maxHeartbeats 4000000 in
set_option maxRecDepth 100000 in
theorem c_Ch_isMissing (l : Launch) (dC : Nat → ClassId) (dI : Nat → Nat → Nat) (cI cJ cZ : ClassId) (h0 q_periods q_latest q_donePlaces q_doneMinutes : Nat) (n_periods n_latest : Nat) (v_doneCount : Int32) (F_periods : Nat → Int32) (F_latest : Nat → Int32) (x1 x2 x3 : Int32)  (o : Int32) (hf : f_Ch_isMissing n_periods n_latest F_periods F_latest x1 x2 x3 = some o) : sr_Ct l y_Ch_isMissing (sr_W y_Ch_isMissing b_Ch_isMissing 6 (some .boolean)) rm_Ch_isMissing (dC, dI) (sr_ty cI cJ cZ) [.ref h0, .int x1, .int x2, .int x3] [(h0, .inr (5, [.ref q_periods, .ref q_latest, .ref q_donePlaces, .ref q_doneMinutes, .int v_doneCount])), (q_periods, .inl (cI, n_periods, .inl F_periods)), (q_latest, .inl (cI, n_latest, .inl F_latest))] (some (.int o)) [(h0, .inr (5, [.ref q_periods, .ref q_latest, .ref q_donePlaces, .ref q_doneMinutes, .int v_doneCount])), (q_periods, .inl (cI, n_periods, .inl F_periods)), (q_latest, .inl (cI, n_latest, .inl F_latest))] := by
  refine sr_Ct.of (cc := b_Ch_isMissing) (maxL := 6) (ret := (some .boolean)) (by decide) rfl (Nat.le_of_ble_eq_true rfl) ?_
  intro p e s m below meth c A ls C0 hA hK G hl
  obtain ⟨hx, hb, hml, hr, hown, hts, hlocks, hnm⟩ := id C0
  generalize hargs : ([.ref h0, .int x1, .int x2, .int x3] : List Value).toArray = args at C0 hts ⊢
  have hws := sr_hws hts
  replace hl : lv_has ls 6 [(0, .ref h0), (1, .int x1), (2, .int x2), (3, .int x3)] := hl
  replace hf : (sr_bd (f_Ch_placeOf x1 x2) fun o1 =>
    (sr_bk o1 n_periods
    (sr_nm (F_periods o1.toNatClampNeg) fun z3 =>
    (if z3 ≤ 0 then
    (some 0)
    else
    (if x3 < (z3 - 1) then
    (some 0)
    else
    (sr_bk o1 n_latest
    (if (x3 - z3) < (F_latest o1.toNatClampNeg) then
    (some 0)
    else
    (some 1)))))))) = some o := hf
  refine lv_iload_n hx hb d_Ch_isMissing_0 rfl (lv_at hl 1 rfl) ?_
  refine lv_iload_n hx hb d_Ch_isMissing_1 rfl (lv_at hl 2 rfl) ?_
  obtain ⟨o1, ho1, hf⟩ := sr_bd_e hf
  refine sr_callS (wr := [(h0, .inr (5, [.ref q_periods, .ref q_latest, .ref q_donePlaces, .ref q_doneMinutes, .int v_doneCount])), (q_periods, .inl (cI, n_periods, .inl F_periods)), (q_latest, .inl (cI, n_latest, .inl F_latest))]) (ws1 := [(h0, .inr (5, [.ref q_periods, .ref q_latest, .ref q_donePlaces, .ref q_doneMinutes, .int v_doneCount])), (q_periods, .inl (cI, n_periods, .inl F_periods)), (q_latest, .inl (cI, n_latest, .inl F_latest))]) (rest := []) (st1 := [.int o1]) ⟨hx, hb, hml, hown, hts⟩ (c_Ch_placeOf l dC dI cI cJ cZ x1 x2 o1 ho1) ⟨(sr_cB 2 hws k_662 k_32 k_660 (by decide +kernel) ⟨Nat.le_of_ble_eq_true rfl, Nat.le_of_ble_eq_true rfl⟩), hws _ k_661⟩ hK G hA [] [0, 1, 2] [0, 1, 2] rfl (by decide) rfl (by decide) (by decide) rfl (by decide) rfl hl.1 rfl (Nat.le_of_ble_eq_true rfl) d_Ch_isMissing_2 ⟨Nat.le_of_ble_eq_true rfl, Nat.le_of_ble_eq_true rfl⟩ rfl (fun H locs G => ?_)
  refine lv_istore (lv' := [(4, .int o1), (0, .ref h0), (1, .int x1), (2, .int x2), (3, .int x3)]) hx hb d_Ch_isMissing_5 hl (by decide) rfl (fun ls hl => ?_)
  refine lv_aload_n hx hb d_Ch_isMissing_7 rfl (lv_at hl 1 rfl) ?_
  refine va_get (D := (dC, dI)) (ci := 5) (v := .ref q_periods) (C := "StationRows$Checks") (T := zf_Ch) (N := 5) hx hb hws zi_Ch hown hK G.1 0 rfl rfl 0 (by decide) (hws _ k_172) (fun _ h9 => h9) rfl d_Ch_isMissing_8 ?_
  refine lv_iload hx hb d_Ch_isMissing_11 (lv_at hl 0 rfl) ?_
  obtain ⟨hi2, hf⟩ := sr_bk_e hf
  refine va_iald hx hb hK G.1 1 0 rfl rfl hi2 d_Ch_isMissing_13 ?_
  refine lv_topi (fun z3 ez3 => ?_)
  replace hf := sr_nm_u ez3 hf
  refine lv_istore (lv' := [(5, .int z3), (4, .int o1), (0, .ref h0), (1, .int x1), (2, .int x2), (3, .int x3)]) hx hb d_Ch_isMissing_14 hl (by decide) rfl (fun ls hl => ?_)
  refine lv_iload hx hb d_Ch_isMissing_16 (lv_at hl 0 rfl) ?_
  refine lv_if_le (tgt := 47) hx hb d_Ch_isMissing_18 (by decide) (fun c4 => ?_) (fun c4 => ?_)
  · replace hf := (if_pos c4).symm.trans hf
    refine lv_iconst (v := 0) hx hb d_Ch_isMissing_47 (by decide) ?_
    cases hf
    exact sr_zret (v := 0) hx hb hr hlocks hK G rfl d_Ch_isMissing_48
  replace hf := (if_neg c4).symm.trans hf
  refine lv_iload_n hx hb d_Ch_isMissing_21 rfl (lv_at hl 5 rfl) ?_
  refine lv_iload hx hb d_Ch_isMissing_22 (lv_at hl 0 rfl) ?_
  refine lv_iconst (v := 1) hx hb d_Ch_isMissing_24 (by decide) ?_
  refine lv_isub hx hb d_Ch_isMissing_25 ?_
  refine lv_icmp_lt (tgt := 47) hx hb d_Ch_isMissing_26 (by decide) (fun c5 => ?_) (fun c5 => ?_)
  · replace hf := (if_pos c5).symm.trans hf
    refine lv_iconst (v := 0) hx hb d_Ch_isMissing_47 (by decide) ?_
    cases hf
    exact sr_zret (v := 0) hx hb hr hlocks hK G rfl d_Ch_isMissing_48
  replace hf := (if_neg c5).symm.trans hf
  refine lv_aload_n hx hb d_Ch_isMissing_29 rfl (lv_at hl 2 rfl) ?_
  refine va_get (D := (dC, dI)) (ci := 5) (v := .ref q_latest) (C := "StationRows$Checks") (T := zf_Ch) (N := 5) hx hb hws zi_Ch hown hK G.1 0 rfl rfl 1 (by decide) (hws _ k_173) (fun _ h9 => h9) rfl d_Ch_isMissing_30 ?_
  refine lv_iload hx hb d_Ch_isMissing_33 (lv_at hl 1 rfl) ?_
  obtain ⟨hi6, hf⟩ := sr_bk_e hf
  refine va_iald hx hb hK G.1 2 0 rfl rfl hi6 d_Ch_isMissing_35 ?_
  refine lv_iload_n hx hb d_Ch_isMissing_36 rfl (lv_at hl 5 rfl) ?_
  refine lv_iload hx hb d_Ch_isMissing_37 (lv_at hl 0 rfl) ?_
  refine lv_isub hx hb d_Ch_isMissing_39 ?_
  refine lv_icmp_gt (tgt := 47) hx hb d_Ch_isMissing_40 (by decide) (fun c7 => ?_) (fun c7 => ?_)
  · replace hf := (if_pos c7).symm.trans hf
    refine lv_iconst (v := 0) hx hb d_Ch_isMissing_47 (by decide) ?_
    cases hf
    exact sr_zret (v := 0) hx hb hr hlocks hK G rfl d_Ch_isMissing_48
  replace hf := (if_neg c7).symm.trans hf
  refine lv_iconst (v := 1) hx hb d_Ch_isMissing_43 (by decide) ?_
  refine lv_goto (tgt := 48) hx hb d_Ch_isMissing_44 (by decide) ?_
  cases hf
  exact sr_zret (v := 1) hx hb hr hlocks hK G rfl d_Ch_isMissing_48
/-! StationRows$Keys.isAt(II)Z -/
abbrev rm_Ky_isAt : Room := { frames := 0, cells := 0, slots := 0, locals := 0 }
def f_Ky_isAt (n_holders : Nat) (F_holders : Nat → Int32) (x1 x2 : Int32) : Option (Int32) :=
    (sr_bk x1 n_holders
    (if (((F_holders x1.toNatClampNeg) >>> (x2 &&& 31)) &&& 1) = 1 then
    (some 1)
    else
    (some 0)))
set_option maxHeartbeats 4000000 in
set_option maxRecDepth 100000 in
theorem c_Ky_isAt (l : Launch) (dC : Nat → ClassId) (dI : Nat → Nat → Nat) (cI cJ cZ : ClassId) (h0 q_holders : Nat) (n_holders : Nat) (F_holders : Nat → Int32) (x1 x2 : Int32)  (o : Int32) (hf : f_Ky_isAt n_holders F_holders x1 x2 = some o) : sr_Ct l y_Ky_isAt (sr_W y_Ky_isAt b_Ky_isAt 3 (some .boolean)) rm_Ky_isAt (dC, dI) (sr_ty cI cJ cZ) [.ref h0, .int x1, .int x2] [(h0, .inr (6, [.ref q_holders])), (q_holders, .inl (cI, n_holders, .inl F_holders))] (some (.int o)) [(h0, .inr (6, [.ref q_holders])), (q_holders, .inl (cI, n_holders, .inl F_holders))] := by
  refine sr_Ct.of (cc := b_Ky_isAt) (maxL := 3) (ret := (some .boolean)) (by decide) rfl (Nat.le_of_ble_eq_true rfl) ?_
  intro p e s m below meth c A ls C0 hA hK G hl
  obtain ⟨hx, hb, hml, hr, hown, hts, hlocks, hnm⟩ := id C0
  generalize hargs : ([.ref h0, .int x1, .int x2] : List Value).toArray = args at C0 hts ⊢
  have hws := sr_hws hts
  replace hl : lv_has ls 3 [(0, .ref h0), (1, .int x1), (2, .int x2)] := hl
  replace hf : (sr_bk x1 n_holders
    (if (((F_holders x1.toNatClampNeg) >>> (x2 &&& 31)) &&& 1) = 1 then
    (some 1)
    else
    (some 0))) = some o := hf
  refine lv_aload_n hx hb d_Ky_isAt_0 rfl (lv_at hl 0 rfl) ?_
  refine va_get (D := (dC, dI)) (ci := 6) (v := .ref q_holders) (C := "StationRows$Keys") (T := zf_Ky) (N := 1) hx hb hws zi_Ky hown hK G.1 0 rfl rfl 0 (by decide) (hws _ k_194) (fun _ h9 => h9) rfl d_Ky_isAt_1 ?_
  refine lv_iload_n hx hb d_Ky_isAt_4 rfl (lv_at hl 1 rfl) ?_
  obtain ⟨hi1, hf⟩ := sr_bk_e hf
  refine va_iald hx hb hK G.1 1 0 rfl rfl hi1 d_Ky_isAt_5 ?_
  refine lv_iload_n hx hb d_Ky_isAt_6 rfl (lv_at hl 2 rfl) ?_
  refine lv_ishr hx hb d_Ky_isAt_7 ?_
  refine lv_iconst (v := 1) hx hb d_Ky_isAt_8 (by decide) ?_
  refine lv_iand hx hb d_Ky_isAt_9 ?_
  refine lv_iconst (v := 1) hx hb d_Ky_isAt_10 (by decide) ?_
  refine lv_icmp_ne (tgt := 18) hx hb d_Ky_isAt_11 (by decide) (fun c2 => ?_) (fun c2 => ?_)
  · replace hf := (if_neg c2).symm.trans hf
    refine lv_iconst (v := 0) hx hb d_Ky_isAt_18 (by decide) ?_
    cases hf
    exact sr_zret (v := 0) hx hb hr hlocks hK G rfl d_Ky_isAt_19
  replace hf := (if_pos c2).symm.trans hf
  refine lv_iconst (v := 1) hx hb d_Ky_isAt_14 (by decide) ?_
  refine lv_goto (tgt := 19) hx hb d_Ky_isAt_15 (by decide) ?_
  cases hf
  exact sr_zret (v := 1) hx hb hr hlocks hK G rfl d_Ky_isAt_19
/-! StationRows$Keys.flip(II)V -/
abbrev rm_Ky_flip : Room := { frames := 0, cells := 0, slots := 0, locals := 0 }
def f_Ky_flip (n_holders : Nat) (F_holders : Nat → Int32) (x1 x2 : Int32) : Option (Nat → Int32) :=
    (sr_bk x1 n_holders
    (sr_bk x1 n_holders
    (some (upd F_holders (x1 : Int32).toNatClampNeg ((F_holders x1.toNatClampNeg) ^^^ (1 <<< (x2 &&& 31)))))))
set_option maxHeartbeats 4000000 in
set_option maxRecDepth 100000 in
theorem c_Ky_flip (l : Launch) (dC : Nat → ClassId) (dI : Nat → Nat → Nat) (cI cJ cZ : ClassId) (h0 q_holders : Nat) (n_holders : Nat) (F_holders : Nat → Int32) (x1 x2 : Int32)  (o : Nat → Int32) (hf : f_Ky_flip n_holders F_holders x1 x2 = some o) : sr_Ct l y_Ky_flip (sr_W y_Ky_flip b_Ky_flip 3 none) rm_Ky_flip (dC, dI) (sr_ty cI cJ cZ) [.ref h0, .int x1, .int x2] [(h0, .inr (6, [.ref q_holders])), (q_holders, .inl (cI, n_holders, .inl F_holders))] (none) [(h0, .inr (6, [.ref q_holders])), (q_holders, .inl (cI, n_holders, .inl o))] := by
  refine sr_Ct.of (cc := b_Ky_flip) (maxL := 3) (ret := none) (by decide) rfl (Nat.le_of_ble_eq_true rfl) ?_
  intro p e s m below meth c A ls C0 hA hK G hl
  obtain ⟨hx, hb, hml, hr, hown, hts, hlocks, hnm⟩ := id C0
  generalize hargs : ([.ref h0, .int x1, .int x2] : List Value).toArray = args at C0 hts ⊢
  have hws := sr_hws hts
  replace hl : lv_has ls 3 [(0, .ref h0), (1, .int x1), (2, .int x2)] := hl
  replace hf : (sr_bk x1 n_holders
    (sr_bk x1 n_holders
    (some (upd F_holders (x1 : Int32).toNatClampNeg ((F_holders x1.toNatClampNeg) ^^^ (1 <<< (x2 &&& 31))))))) = some o := hf
  refine lv_aload_n hx hb d_Ky_flip_0 rfl (lv_at hl 0 rfl) ?_
  refine va_get (D := (dC, dI)) (ci := 6) (v := .ref q_holders) (C := "StationRows$Keys") (T := zf_Ky) (N := 1) hx hb hws zi_Ky hown hK G.1 0 rfl rfl 0 (by decide) (hws _ k_194) (fun _ h9 => h9) rfl d_Ky_flip_1 ?_
  refine lv_iload_n hx hb d_Ky_flip_4 rfl (lv_at hl 1 rfl) ?_
  refine lv_dup2_11 hx hb d_Ky_flip_5 rfl rfl ?_
  obtain ⟨hi1, hf⟩ := sr_bk_e hf
  refine va_iald hx hb hK G.1 1 0 rfl rfl hi1 d_Ky_flip_6 ?_
  refine lv_iconst (v := 1) hx hb d_Ky_flip_7 (by decide) ?_
  refine lv_iload_n hx hb d_Ky_flip_8 rfl (lv_at hl 2 rfl) ?_
  refine lv_ishl hx hb d_Ky_flip_9 ?_
  refine lv_ixor hx hb d_Ky_flip_10 ?_
  obtain ⟨hi2, hf⟩ := sr_bk_e hf
  refine va_iast hx hb hK G.1 G.2.1 G.2.2 1 0 rfl rfl hi2 d_Ky_flip_11 (fun H locs hP hD hS => ?_)
  have G : sr_G (dC, dI) A [(h0, .inr (6, [.ref q_holders])), (q_holders, .inl (cI, n_holders, .inl (upd F_holders (x1 : Int32).toNatClampNeg ((F_holders x1.toNatClampNeg) ^^^ (1 <<< (x2 &&& 31))))))] s H locs := ⟨hP, hD, hS⟩
  cases hf
  exact sr_vret hx hb hr hlocks hK G d_Ky_flip_12
/-! StationRows$Keys.stationInRow(II)I -/
abbrev rm_Ky_stationInRow : Room := { frames := 1, cells := 0, slots := 0, locals := 22 }
def f_Ky_stationInRow_5 (n : Nat) (n_holders : Nat) (F_holders : Nat → Int32) (x1 x2 : Int32)  : Nat → Int32 → Int32 → Option (Int32)
  | 0, _, _ => none
  | k + 1, y3, y4 =>
    (if 12 ≤ y4 then
    (some (-1))
    else
    (sr_bd (f_Ky_isAt n_holders F_holders x1 y4) fun o2 =>
    (if o2 = 0 then
    (sr_nm (y4 + 1) fun z7 =>
    (f_Ky_stationInRow_5 n n_holders F_holders x1 x2  k y3 z7))
    else
    (if y3 = x2 then
    (some y4)
    else
    (sr_nm (y3 + 1) fun z5 =>
    (sr_nm (y4 + 1) fun z6 =>
    (f_Ky_stationInRow_5 n n_holders F_holders x1 x2  k z5 z6)))))))
theorem f_Ky_stationInRow_5_eq (n : Nat) (n_holders : Nat) (F_holders : Nat → Int32) (x1 x2 : Int32)  (k : Nat) (y3 y4 : Int32) : f_Ky_stationInRow_5 n n_holders F_holders x1 x2  (k + 1) y3 y4 =
    (if 12 ≤ y4 then
    (some (-1))
    else
    (sr_bd (f_Ky_isAt n_holders F_holders x1 y4) fun o2 =>
    (if o2 = 0 then
    (sr_nm (y4 + 1) fun z7 =>
    (f_Ky_stationInRow_5 n n_holders F_holders x1 x2  k y3 z7))
    else
    (if y3 = x2 then
    (some y4)
    else
    (sr_nm (y3 + 1) fun z5 =>
    (sr_nm (y4 + 1) fun z6 =>
    (f_Ky_stationInRow_5 n n_holders F_holders x1 x2  k z5 z6))))))) := rfl
set_option maxHeartbeats 4000000 in
set_option maxRecDepth 100000 in
theorem w_Ky_stationInRow_5 (l : Launch) {p : Program} {e : Env} {s : State} {m : MethodId} {below : List Frame} {meth : Method} {c : Code} (dC : Nat → ClassId) (dI : Nat → Nat → Nat) (cI cJ cZ : ClassId) (h0 q_holders : Nat) (n_holders : Nat) (F_holders : Nat → Int32) (x1 x2 : Int32) (n : Nat) (A : Nat → Prop) (args : Array Value) (o : Int32) (C0 : sr_cx p s m args meth c b_Ky_stationInRow 5 (some .int) "StationRows$Keys" "stationInRow" (sr_W y_Ky_stationInRow b_Ky_stationInRow 5 (some .int))) (hK : va_K (dC, dI) vwCl (sr_ty cI cJ cZ) s) (hA : ∀ q, s.heap.size ≤ q → A q)   :
    ∀ (k : Nat) (y3 y4 : Int32) (H : Heap) (locs : List Loc) (ls : Array Slot), f_Ky_stationInRow_5 n n_holders F_holders x1 x2  k y3 y4 = some o → sr_G (dC, dI) A [(h0, .inr (6, [.ref q_holders])), (q_holders, .inl (cI, n_holders, .inl F_holders))] s H locs → lv_has ls 5 [(0, .ref h0), (1, .int x1), (2, .int x2), (3, .int y3), (4, .int y4)] → W p l e rm_Ky_stationInRow s m args below meth c H locs 0 0 (MQ below (sr_Q (dC, dI) (sr_ty cI cJ cZ) A [(h0, .inr (6, [.ref q_holders])), (q_holders, .inl (cI, n_holders, .inl F_holders))] (.inl (some (.int o))) s.heap.size) args s rm_Ky_stationInRow.cells rm_Ky_stationInRow.slots A) (F0 m 5 ls []) := by
  obtain ⟨hx, hb, hml, hr, hown, hts, hlocks, hnm⟩ := id C0
  have hws := sr_hws hts
  intro k
  induction k with
  | zero =>
    intro y3 y4 H locs ls hf
    exact sr_no hf
  | succ k ih =>
    intro y3 y4 H locs ls hf G hl
    replace hf := (f_Ky_stationInRow_5_eq n n_holders F_holders x1 x2  k y3 y4).symm.trans hf
    refine lv_iload hx hb d_Ky_stationInRow_5 (lv_at hl 4 rfl) ?_
    refine lv_bipush (v := 12) hx hb d_Ky_stationInRow_7 (by decide +kernel) ?_
    refine lv_icmp_ge (tgt := 42) hx hb d_Ky_stationInRow_9 (by decide) (fun c1 => ?_) (fun c1 => ?_)
    · replace hf := (if_pos c1).symm.trans hf
      refine lv_iconst (v := (-1)) hx hb d_Ky_stationInRow_42 (by decide) ?_
      cases hf
      exact sr_iret hx hb hr hlocks hK G d_Ky_stationInRow_43
    replace hf := (if_neg c1).symm.trans hf
    refine lv_aload_n hx hb d_Ky_stationInRow_12 rfl (lv_at hl 0 rfl) ?_
    refine lv_iload_n hx hb d_Ky_stationInRow_13 rfl (lv_at hl 1 rfl) ?_
    refine lv_iload hx hb d_Ky_stationInRow_14 (lv_at hl 4 rfl) ?_
    obtain ⟨o2, ho2, hf⟩ := sr_bd_e hf
    refine sr_callV (ci := 6) (vc := ("StationRows$Keys", zf_Ky, 1)) (wr := []) (ws1 := [(h0, .inr (6, [.ref q_holders])), (q_holders, .inl (cI, n_holders, .inl F_holders))]) (rest := []) (st1 := [.int o2]) ⟨hx, hb, hml, hown, hts⟩ (c_Ky_isAt l dC dI cI cJ cZ h0 q_holders n_holders F_holders x1 y4 o2 ho2) ⟨(sr_cB 2 hws k_704 k_33 k_720 (by decide +kernel) ⟨Nat.le_of_ble_eq_true rfl, Nat.le_of_ble_eq_true rfl⟩), hws _ k_702, hws _ k_703⟩ hK G hA [0, 1] [] [0, 1] rfl (by decide) rfl (by decide) (by decide) rfl (by decide) 0 rfl rfl rfl hl.1 rfl (Nat.le_of_ble_eq_true rfl) d_Ky_stationInRow_16 ⟨Nat.le_of_ble_eq_true rfl, Nat.le_of_ble_eq_true rfl⟩ rfl (fun H locs G => ?_)
    refine lv_if_ne (tgt := 25) hx hb d_Ky_stationInRow_19 (by decide) (fun c3 => ?_) (fun c3 => ?_)
    · replace hf := (if_neg c3).symm.trans hf
      refine lv_iload_n hx hb d_Ky_stationInRow_25 rfl (lv_at hl 3 rfl) ?_
      refine lv_iload_n hx hb d_Ky_stationInRow_26 rfl (lv_at hl 2 rfl) ?_
      refine lv_icmp_ne (tgt := 33) hx hb d_Ky_stationInRow_27 (by decide) (fun c4 => ?_) (fun c4 => ?_)
      · replace hf := (if_neg c4).symm.trans hf
        obtain ⟨z5, ez5⟩ : ∃ y : Int32, y = (y3 + 1) := ⟨_, rfl⟩
        replace hf := sr_nm_u ez5 hf
        refine lv_iinc (v := z5) (lv' := [(3, .int z5), (0, .ref h0), (1, .int x1), (2, .int x2), (4, .int y4)]) hx hb d_Ky_stationInRow_33 hl (k := 3) rfl ((sr_inc _ (by decide)).trans ez5.symm) (by decide) rfl (fun ls hl => ?_)
        obtain ⟨z6, ez6⟩ : ∃ y : Int32, y = (y4 + 1) := ⟨_, rfl⟩
        replace hf := sr_nm_u ez6 hf
        refine lv_iinc (v := z6) (lv' := [(4, .int z6), (3, .int z5), (0, .ref h0), (1, .int x1), (2, .int x2)]) hx hb d_Ky_stationInRow_36 hl (k := 4) rfl ((sr_inc _ (by decide)).trans ez6.symm) (by decide) rfl (fun ls hl => ?_)
        refine lv_goto (tgt := 5) hx hb d_Ky_stationInRow_39 (by decide) ?_
        exact ih z5 z6 _ _ _ hf G (lv_sub hl [2, 3, 4, 1, 0] rfl)
      replace hf := (if_pos c4).symm.trans hf
      refine lv_iload hx hb d_Ky_stationInRow_30 (lv_at hl 4 rfl) ?_
      cases hf
      exact sr_iret hx hb hr hlocks hK G d_Ky_stationInRow_32
    replace hf := (if_pos c3).symm.trans hf
    refine lv_goto (tgt := 36) hx hb d_Ky_stationInRow_22 (by decide) ?_
    obtain ⟨z7, ez7⟩ : ∃ y : Int32, y = (y4 + 1) := ⟨_, rfl⟩
    replace hf := sr_nm_u ez7 hf
    refine lv_iinc (v := z7) (lv' := [(4, .int z7), (0, .ref h0), (1, .int x1), (2, .int x2), (3, .int y3)]) hx hb d_Ky_stationInRow_36 hl (k := 4) rfl ((sr_inc _ (by decide)).trans ez7.symm) (by decide) rfl (fun ls hl => ?_)
    refine lv_goto (tgt := 5) hx hb d_Ky_stationInRow_39 (by decide) ?_
    exact ih y3 z7 _ _ _ hf G (lv_sub hl [1, 2, 3, 4, 0] rfl)
def f_Ky_stationInRow (n : Nat) (n_holders : Nat) (F_holders : Nat → Int32) (x1 x2 : Int32) : Option (Int32) :=
    (f_Ky_stationInRow_5 n n_holders F_holders x1 x2  n 0 0)
set_option maxHeartbeats 4000000 in
set_option maxRecDepth 100000 in
theorem c_Ky_stationInRow (l : Launch) (dC : Nat → ClassId) (dI : Nat → Nat → Nat) (cI cJ cZ : ClassId) (h0 q_holders : Nat) (n_holders : Nat) (F_holders : Nat → Int32) (x1 x2 : Int32) (n : Nat) (o : Int32) (hf : f_Ky_stationInRow n n_holders F_holders x1 x2 = some o) : sr_Ct l y_Ky_stationInRow (sr_W y_Ky_stationInRow b_Ky_stationInRow 5 (some .int)) rm_Ky_stationInRow (dC, dI) (sr_ty cI cJ cZ) [.ref h0, .int x1, .int x2] [(h0, .inr (6, [.ref q_holders])), (q_holders, .inl (cI, n_holders, .inl F_holders))] (some (.int o)) [(h0, .inr (6, [.ref q_holders])), (q_holders, .inl (cI, n_holders, .inl F_holders))] := by
  refine sr_Ct.of (cc := b_Ky_stationInRow) (maxL := 5) (ret := (some .int)) (by decide) rfl (Nat.le_of_ble_eq_true rfl) ?_
  intro p e s m below meth c A ls C0 hA hK G hl
  obtain ⟨hx, hb, hml, hr, hown, hts, hlocks, hnm⟩ := id C0
  generalize hargs : ([.ref h0, .int x1, .int x2] : List Value).toArray = args at C0 hts ⊢
  have hws := sr_hws hts
  replace hl : lv_has ls 5 [(0, .ref h0), (1, .int x1), (2, .int x2)] := hl
  replace hf : (f_Ky_stationInRow_5 n n_holders F_holders x1 x2  n 0 0) = some o := hf
  refine lv_iconst (v := 0) hx hb d_Ky_stationInRow_0 (by decide) ?_
  refine lv_istore_n (lv' := [(3, .int 0), (0, .ref h0), (1, .int x1), (2, .int x2)]) hx hb d_Ky_stationInRow_1 rfl hl (by decide) rfl (fun ls hl => ?_)
  refine lv_iconst (v := 0) hx hb d_Ky_stationInRow_2 (by decide) ?_
  refine lv_istore (lv' := [(4, .int 0), (3, .int 0), (0, .ref h0), (1, .int x1), (2, .int x2)]) hx hb d_Ky_stationInRow_3 hl (by decide) rfl (fun ls hl => ?_)
  exact w_Ky_stationInRow_5 l dC dI cI cJ cZ h0 q_holders n_holders F_holders x1 x2 n A args o C0 hK hA   n 0 0 _ _ _ hf G (lv_sub hl [2, 3, 4, 1, 0] rfl)
/-! StationRows$Keys.countAtSeveral()I -/
abbrev rm_Ky_countAtSeveral : Room := { frames := 1, cells := 0, slots := 0, locals := 20 }
def f_Ky_countAtSeveral_4 (n : Nat) (n_holders : Nat) (F_holders : Nat → Int32)   : Nat → Int32 → Int32 → Option (Int32)
  | 0, _, _ => none
  | k + 1, y1, y2 =>
    (if 100 ≤ y2 then
    (some y1)
    else
    (sr_bk y2 n_holders
    (sr_bd (f_J_bitCount (F_holders y2.toNatClampNeg)) fun o3 =>
    (if o3 < 2 then
    (sr_nm (y2 + 1) fun z5 =>
    (f_Ky_countAtSeveral_4 n n_holders F_holders  k y1 z5))
    else
    (sr_nm (y1 + 1) fun z6 =>
    (sr_nm (y2 + 1) fun z7 =>
    (f_Ky_countAtSeveral_4 n n_holders F_holders  k z6 z7)))))))
theorem f_Ky_countAtSeveral_4_eq (n : Nat) (n_holders : Nat) (F_holders : Nat → Int32)   (k : Nat) (y1 y2 : Int32) : f_Ky_countAtSeveral_4 n n_holders F_holders  (k + 1) y1 y2 =
    (if 100 ≤ y2 then
    (some y1)
    else
    (sr_bk y2 n_holders
    (sr_bd (f_J_bitCount (F_holders y2.toNatClampNeg)) fun o3 =>
    (if o3 < 2 then
    (sr_nm (y2 + 1) fun z5 =>
    (f_Ky_countAtSeveral_4 n n_holders F_holders  k y1 z5))
    else
    (sr_nm (y1 + 1) fun z6 =>
    (sr_nm (y2 + 1) fun z7 =>
    (f_Ky_countAtSeveral_4 n n_holders F_holders  k z6 z7))))))) := rfl
set_option maxHeartbeats 4000000 in
set_option maxRecDepth 100000 in
theorem w_Ky_countAtSeveral_4 (l : Launch) {p : Program} {e : Env} {s : State} {m : MethodId} {below : List Frame} {meth : Method} {c : Code} (dC : Nat → ClassId) (dI : Nat → Nat → Nat) (cI cJ cZ : ClassId) (h0 q_holders : Nat) (n_holders : Nat) (F_holders : Nat → Int32)  (n : Nat) (A : Nat → Prop) (args : Array Value) (o : Int32) (C0 : sr_cx p s m args meth c b_Ky_countAtSeveral 3 (some .int) "StationRows$Keys" "countAtSeveral" (sr_W y_Ky_countAtSeveral b_Ky_countAtSeveral 3 (some .int))) (hK : va_K (dC, dI) vwCl (sr_ty cI cJ cZ) s) (hA : ∀ q, s.heap.size ≤ q → A q)   :
    ∀ (k : Nat) (y1 y2 : Int32) (H : Heap) (locs : List Loc) (ls : Array Slot), f_Ky_countAtSeveral_4 n n_holders F_holders  k y1 y2 = some o → sr_G (dC, dI) A [(h0, .inr (6, [.ref q_holders])), (q_holders, .inl (cI, n_holders, .inl F_holders))] s H locs → lv_has ls 3 [(0, .ref h0), (1, .int y1), (2, .int y2)] → W p l e rm_Ky_countAtSeveral s m args below meth c H locs 0 0 (MQ below (sr_Q (dC, dI) (sr_ty cI cJ cZ) A [(h0, .inr (6, [.ref q_holders])), (q_holders, .inl (cI, n_holders, .inl F_holders))] (.inl (some (.int o))) s.heap.size) args s rm_Ky_countAtSeveral.cells rm_Ky_countAtSeveral.slots A) (F0 m 4 ls []) := by
  obtain ⟨hx, hb, hml, hr, hown, hts, hlocks, hnm⟩ := id C0
  have hws := sr_hws hts
  intro k
  induction k with
  | zero =>
    intro y1 y2 H locs ls hf
    exact sr_no hf
  | succ k ih =>
    intro y1 y2 H locs ls hf G hl
    replace hf := (f_Ky_countAtSeveral_4_eq n n_holders F_holders  k y1 y2).symm.trans hf
    refine lv_iload_n hx hb d_Ky_countAtSeveral_4 rfl (lv_at hl 2 rfl) ?_
    refine lv_bipush (v := 100) hx hb d_Ky_countAtSeveral_5 (by decide +kernel) ?_
    refine lv_icmp_ge (tgt := 32) hx hb d_Ky_countAtSeveral_7 (by decide) (fun c1 => ?_) (fun c1 => ?_)
    · replace hf := (if_pos c1).symm.trans hf
      refine lv_iload_n hx hb d_Ky_countAtSeveral_32 rfl (lv_at hl 1 rfl) ?_
      cases hf
      exact sr_iret hx hb hr hlocks hK G d_Ky_countAtSeveral_33
    replace hf := (if_neg c1).symm.trans hf
    refine lv_aload_n hx hb d_Ky_countAtSeveral_10 rfl (lv_at hl 0 rfl) ?_
    refine va_get (D := (dC, dI)) (ci := 6) (v := .ref q_holders) (C := "StationRows$Keys") (T := zf_Ky) (N := 1) hx hb hws zi_Ky hown hK G.1 0 rfl rfl 0 (by decide) (hws _ k_194) (fun _ h9 => h9) rfl d_Ky_countAtSeveral_11 ?_
    refine lv_iload_n hx hb d_Ky_countAtSeveral_14 rfl (lv_at hl 2 rfl) ?_
    obtain ⟨hi2, hf⟩ := sr_bk_e hf
    refine va_iald hx hb hK G.1 1 0 rfl rfl hi2 d_Ky_countAtSeveral_15 ?_
    obtain ⟨o3, ho3, hf⟩ := sr_bd_e hf
    refine sr_callS (wr := [(h0, .inr (6, [.ref q_holders])), (q_holders, .inl (cI, n_holders, .inl F_holders))]) (ws1 := [(h0, .inr (6, [.ref q_holders])), (q_holders, .inl (cI, n_holders, .inl F_holders))]) (rest := []) (st1 := [.int o3]) ⟨hx, hb, hml, hown, hts⟩ (c_J_bitCount l dC dI cI cJ cZ (F_holders y2.toNatClampNeg) o3 ho3) ⟨(sr_cB 1 hws k_227 k_44 k_225 (by decide +kernel) ⟨Nat.le_of_ble_eq_true rfl, Nat.le_of_ble_eq_true rfl⟩), hws _ k_226⟩ hK G hA [] [0, 1] [0, 1] rfl (by decide) rfl (by decide) (by decide) rfl (by decide) rfl hl.1 rfl (Nat.le_of_ble_eq_true rfl) d_Ky_countAtSeveral_16 ⟨Nat.le_of_ble_eq_true rfl, Nat.le_of_ble_eq_true rfl⟩ rfl (fun H locs G => ?_)
    refine lv_iconst (v := 2) hx hb d_Ky_countAtSeveral_19 (by decide) ?_
    refine lv_icmp_lt (tgt := 26) hx hb d_Ky_countAtSeveral_20 (by decide) (fun c4 => ?_) (fun c4 => ?_)
    · replace hf := (if_pos c4).symm.trans hf
      obtain ⟨z5, ez5⟩ : ∃ y : Int32, y = (y2 + 1) := ⟨_, rfl⟩
      replace hf := sr_nm_u ez5 hf
      refine lv_iinc (v := z5) (lv' := [(2, .int z5), (0, .ref h0), (1, .int y1)]) hx hb d_Ky_countAtSeveral_26 hl (k := 2) rfl ((sr_inc _ (by decide)).trans ez5.symm) (by decide) rfl (fun ls hl => ?_)
      refine lv_goto (tgt := 4) hx hb d_Ky_countAtSeveral_29 (by decide) ?_
      exact ih y1 z5 _ _ _ hf G (lv_sub hl [1, 2, 0] rfl)
    replace hf := (if_neg c4).symm.trans hf
    obtain ⟨z6, ez6⟩ : ∃ y : Int32, y = (y1 + 1) := ⟨_, rfl⟩
    replace hf := sr_nm_u ez6 hf
    refine lv_iinc (v := z6) (lv' := [(1, .int z6), (0, .ref h0), (2, .int y2)]) hx hb d_Ky_countAtSeveral_23 hl (k := 1) rfl ((sr_inc _ (by decide)).trans ez6.symm) (by decide) rfl (fun ls hl => ?_)
    obtain ⟨z7, ez7⟩ : ∃ y : Int32, y = (y2 + 1) := ⟨_, rfl⟩
    replace hf := sr_nm_u ez7 hf
    refine lv_iinc (v := z7) (lv' := [(2, .int z7), (1, .int z6), (0, .ref h0)]) hx hb d_Ky_countAtSeveral_26 hl (k := 2) rfl ((sr_inc _ (by decide)).trans ez7.symm) (by decide) rfl (fun ls hl => ?_)
    refine lv_goto (tgt := 4) hx hb d_Ky_countAtSeveral_29 (by decide) ?_
    exact ih z6 z7 _ _ _ hf G (lv_sub hl [2, 1, 0] rfl)
def f_Ky_countAtSeveral (n : Nat) (n_holders : Nat) (F_holders : Nat → Int32) : Option (Int32) :=
    (f_Ky_countAtSeveral_4 n n_holders F_holders  n 0 0)
set_option maxHeartbeats 4000000 in
set_option maxRecDepth 100000 in
theorem c_Ky_countAtSeveral (l : Launch) (dC : Nat → ClassId) (dI : Nat → Nat → Nat) (cI cJ cZ : ClassId) (h0 q_holders : Nat) (n_holders : Nat) (F_holders : Nat → Int32)  (n : Nat) (o : Int32) (hf : f_Ky_countAtSeveral n n_holders F_holders = some o) : sr_Ct l y_Ky_countAtSeveral (sr_W y_Ky_countAtSeveral b_Ky_countAtSeveral 3 (some .int)) rm_Ky_countAtSeveral (dC, dI) (sr_ty cI cJ cZ) [.ref h0] [(h0, .inr (6, [.ref q_holders])), (q_holders, .inl (cI, n_holders, .inl F_holders))] (some (.int o)) [(h0, .inr (6, [.ref q_holders])), (q_holders, .inl (cI, n_holders, .inl F_holders))] := by
  refine sr_Ct.of (cc := b_Ky_countAtSeveral) (maxL := 3) (ret := (some .int)) (by decide) rfl (Nat.le_of_ble_eq_true rfl) ?_
  intro p e s m below meth c A ls C0 hA hK G hl
  obtain ⟨hx, hb, hml, hr, hown, hts, hlocks, hnm⟩ := id C0
  generalize hargs : ([.ref h0] : List Value).toArray = args at C0 hts ⊢
  have hws := sr_hws hts
  replace hl : lv_has ls 3 [(0, .ref h0)] := hl
  replace hf : (f_Ky_countAtSeveral_4 n n_holders F_holders  n 0 0) = some o := hf
  refine lv_iconst (v := 0) hx hb d_Ky_countAtSeveral_0 (by decide) ?_
  refine lv_istore_n (lv' := [(1, .int 0), (0, .ref h0)]) hx hb d_Ky_countAtSeveral_1 rfl hl (by decide) rfl (fun ls hl => ?_)
  refine lv_iconst (v := 0) hx hb d_Ky_countAtSeveral_2 (by decide) ?_
  refine lv_istore_n (lv' := [(2, .int 0), (1, .int 0), (0, .ref h0)]) hx hb d_Ky_countAtSeveral_3 rfl hl (by decide) rfl (fun ls hl => ?_)
  exact w_Ky_countAtSeveral_4 l dC dI cI cJ cZ h0 q_holders n_holders F_holders n A args o C0 hK hA   n 0 0 _ _ _ hf G (lv_sub hl [2, 1, 0] rfl)
/-! StationRows$Needs.raise(III)V -/
abbrev rm_Ne_raise : Room := { frames := 1, cells := 0, slots := 0, locals := 21 }
def f_Ne_raise (n_needed : Nat) (F_needed : Nat → Int32) (x1 x2 x3 : Int32) : Option (Nat → Int32) :=
    (sr_nm ((x1 * 24) + x2) fun z1 =>
    (sr_bk z1 n_needed
    (sr_bk z1 n_needed
    (some (upd F_needed (z1 : Int32).toNatClampNeg (if (F_needed z1.toNatClampNeg) < x3 then x3 else (F_needed z1.toNatClampNeg)))))))
set_option maxHeartbeats 4000000 in
set_option maxRecDepth 100000 in
theorem c_Ne_raise (l : Launch) (dC : Nat → ClassId) (dI : Nat → Nat → Nat) (cI cJ cZ : ClassId) (h0 q_needed : Nat) (n_needed : Nat) (F_needed : Nat → Int32) (x1 x2 x3 : Int32)  (o : Nat → Int32) (hf : f_Ne_raise n_needed F_needed x1 x2 x3 = some o) : sr_Ct l y_Ne_raise (sr_W y_Ne_raise b_Ne_raise 5 none) rm_Ne_raise (dC, dI) (sr_ty cI cJ cZ) [.ref h0, .int x1, .int x2, .int x3] [(h0, .inr (4, [.ref q_needed])), (q_needed, .inl (cI, n_needed, .inl F_needed))] (none) [(h0, .inr (4, [.ref q_needed])), (q_needed, .inl (cI, n_needed, .inl o))] := by
  refine sr_Ct.of (cc := b_Ne_raise) (maxL := 5) (ret := none) (by decide) rfl (Nat.le_of_ble_eq_true rfl) ?_
  intro p e s m below meth c A ls C0 hA hK G hl
  obtain ⟨hx, hb, hml, hr, hown, hts, hlocks, hnm⟩ := id C0
  generalize hargs : ([.ref h0, .int x1, .int x2, .int x3] : List Value).toArray = args at C0 hts ⊢
  have hws := sr_hws hts
  replace hl : lv_has ls 5 [(0, .ref h0), (1, .int x1), (2, .int x2), (3, .int x3)] := hl
  replace hf : (sr_nm ((x1 * 24) + x2) fun z1 =>
    (sr_bk z1 n_needed
    (sr_bk z1 n_needed
    (some (upd F_needed (z1 : Int32).toNatClampNeg (if (F_needed z1.toNatClampNeg) < x3 then x3 else (F_needed z1.toNatClampNeg))))))) = some o := hf
  refine lv_iload_n hx hb d_Ne_raise_0 rfl (lv_at hl 1 rfl) ?_
  refine lv_bipush (v := 24) hx hb d_Ne_raise_1 (by decide +kernel) ?_
  refine lv_imul hx hb d_Ne_raise_3 ?_
  refine lv_iload_n hx hb d_Ne_raise_4 rfl (lv_at hl 2 rfl) ?_
  refine lv_iadd hx hb d_Ne_raise_5 ?_
  refine lv_topi (fun z1 ez1 => ?_)
  replace hf := sr_nm_u ez1 hf
  refine lv_istore (lv' := [(4, .int z1), (0, .ref h0), (1, .int x1), (2, .int x2), (3, .int x3)]) hx hb d_Ne_raise_6 hl (by decide) rfl (fun ls hl => ?_)
  refine lv_aload_n hx hb d_Ne_raise_8 rfl (lv_at hl 1 rfl) ?_
  refine va_get (D := (dC, dI)) (ci := 4) (v := .ref q_needed) (C := "StationRows$Needs") (T := zf_Ne) (N := 1) hx hb hws zi_Ne hown hK G.1 0 rfl rfl 0 (by decide) (hws _ k_162) (fun _ h9 => h9) rfl d_Ne_raise_9 ?_
  refine lv_iload hx hb d_Ne_raise_12 (lv_at hl 0 rfl) ?_
  refine lv_aload_n hx hb d_Ne_raise_14 rfl (lv_at hl 1 rfl) ?_
  refine va_get (D := (dC, dI)) (ci := 4) (v := .ref q_needed) (C := "StationRows$Needs") (T := zf_Ne) (N := 1) hx hb hws zi_Ne hown hK G.1 0 rfl rfl 0 (by decide) (hws _ k_162) (fun _ h9 => h9) rfl d_Ne_raise_15 ?_
  refine lv_iload hx hb d_Ne_raise_18 (lv_at hl 0 rfl) ?_
  obtain ⟨hi2, hf⟩ := sr_bk_e hf
  refine va_iald hx hb hK G.1 1 0 rfl rfl hi2 d_Ne_raise_20 ?_
  refine lv_iload_n hx hb d_Ne_raise_21 rfl (lv_at hl 4 rfl) ?_
  refine va_mmax hx hb (hml.trans hl.1.symm) hown (hws _ k_634) (hws _ k_635) (hws _ k_43) (hws _ k_636) (Nat.le_of_ble_eq_true rfl) (Nat.le_of_ble_eq_true rfl) (Nat.le_of_ble_eq_true rfl) (Nat.le_of_ble_eq_true rfl) d_Ne_raise_22 ?_
  obtain ⟨hi3, hf⟩ := sr_bk_e hf
  refine va_iast hx hb hK G.1 G.2.1 G.2.2 1 0 rfl rfl hi3 d_Ne_raise_25 (fun H locs hP hD hS => ?_)
  have G : sr_G (dC, dI) A [(h0, .inr (4, [.ref q_needed])), (q_needed, .inl (cI, n_needed, .inl (upd F_needed (z1 : Int32).toNatClampNeg (if (F_needed z1.toNatClampNeg) < x3 then x3 else (F_needed z1.toNatClampNeg)))))] s H locs := ⟨hP, hD, hS⟩
  cases hf
  exact sr_vret hx hb hr hlocks hK G d_Ne_raise_26
/-! StationRows$Needs.neededAt(II)I -/
abbrev rm_Ne_neededAt : Room := { frames := 0, cells := 0, slots := 0, locals := 0 }
def f_Ne_neededAt (n_needed : Nat) (F_needed : Nat → Int32) (x1 x2 : Int32) : Option (Int32) :=
    (sr_bk ((x1 * 24) + ((x2 / 60) - (x2 / 60) / 24 * 24)) n_needed
    (some (F_needed (((x1 * 24) + ((x2 / 60) - (x2 / 60) / 24 * 24))).toNatClampNeg)))
set_option maxHeartbeats 4000000 in
set_option maxRecDepth 100000 in
theorem c_Ne_neededAt (l : Launch) (dC : Nat → ClassId) (dI : Nat → Nat → Nat) (cI cJ cZ : ClassId) (h0 q_needed : Nat) (n_needed : Nat) (F_needed : Nat → Int32) (x1 x2 : Int32)  (o : Int32) (hf : f_Ne_neededAt n_needed F_needed x1 x2 = some o) : sr_Ct l y_Ne_neededAt (sr_W y_Ne_neededAt b_Ne_neededAt 3 (some .int)) rm_Ne_neededAt (dC, dI) (sr_ty cI cJ cZ) [.ref h0, .int x1, .int x2] [(h0, .inr (4, [.ref q_needed])), (q_needed, .inl (cI, n_needed, .inl F_needed))] (some (.int o)) [(h0, .inr (4, [.ref q_needed])), (q_needed, .inl (cI, n_needed, .inl F_needed))] := by
  refine sr_Ct.of (cc := b_Ne_neededAt) (maxL := 3) (ret := (some .int)) (by decide) rfl (Nat.le_of_ble_eq_true rfl) ?_
  intro p e s m below meth c A ls C0 hA hK G hl
  obtain ⟨hx, hb, hml, hr, hown, hts, hlocks, hnm⟩ := id C0
  generalize hargs : ([.ref h0, .int x1, .int x2] : List Value).toArray = args at C0 hts ⊢
  have hws := sr_hws hts
  replace hl : lv_has ls 3 [(0, .ref h0), (1, .int x1), (2, .int x2)] := hl
  replace hf : (sr_bk ((x1 * 24) + ((x2 / 60) - (x2 / 60) / 24 * 24)) n_needed
    (some (F_needed (((x1 * 24) + ((x2 / 60) - (x2 / 60) / 24 * 24))).toNatClampNeg))) = some o := hf
  refine lv_aload_n hx hb d_Ne_neededAt_0 rfl (lv_at hl 0 rfl) ?_
  refine va_get (D := (dC, dI)) (ci := 4) (v := .ref q_needed) (C := "StationRows$Needs") (T := zf_Ne) (N := 1) hx hb hws zi_Ne hown hK G.1 0 rfl rfl 0 (by decide) (hws _ k_162) (fun _ h9 => h9) rfl d_Ne_neededAt_1 ?_
  refine lv_iload_n hx hb d_Ne_neededAt_4 rfl (lv_at hl 1 rfl) ?_
  refine lv_bipush (v := 24) hx hb d_Ne_neededAt_5 (by decide +kernel) ?_
  refine lv_imul hx hb d_Ne_neededAt_7 ?_
  refine lv_iload_n hx hb d_Ne_neededAt_8 rfl (lv_at hl 2 rfl) ?_
  refine lv_bipush (v := 60) hx hb d_Ne_neededAt_9 (by decide +kernel) ?_
  refine lv_idiv hx hb d_Ne_neededAt_11 (by decide) ?_
  refine lv_bipush (v := 24) hx hb d_Ne_neededAt_12 (by decide +kernel) ?_
  refine lv_irem hx hb d_Ne_neededAt_14 (by decide) ?_
  refine lv_iadd hx hb d_Ne_neededAt_15 ?_
  obtain ⟨hi1, hf⟩ := sr_bk_e hf
  refine va_iald hx hb hK G.1 1 0 rfl rfl hi1 d_Ne_neededAt_16 ?_
  cases hf
  exact sr_iret hx hb hr hlocks hK G d_Ne_neededAt_17