/-! StationRows$Times.countOf(I)I -/
abbrev rm_T_countOf : Room := { frames := 0, cells := 0, slots := 0, locals := 0 }
def f_T_countOf (n_counts : Nat) (F_counts : Nat → Int32) (x1 : Int32) : Option (Int32) :=
    (sr_bk x1 n_counts
    (some (F_counts x1.toNatClampNeg)))
set_option maxHeartbeats 4000000 in
set_option maxRecDepth 100000 in
theorem c_T_countOf (l : Launch) (dC : Nat → ClassId) (dI : Nat → Nat → Nat) (cI cJ cZ : ClassId) (h0 q_counts q_froms q_tos : Nat) (n_counts : Nat) (v_most : Int32) (F_counts : Nat → Int32) (x1 : Int32)  (o : Int32) (hf : f_T_countOf n_counts F_counts x1 = some o) : sr_Ct l y_T_countOf (sr_W y_T_countOf b_T_countOf 2 (some .int)) rm_T_countOf (dC, dI) (sr_ty cI cJ cZ) [.ref h0, .int x1] [(h0, .inr (0, [.int v_most, .ref q_counts, .ref q_froms, .ref q_tos])), (q_counts, .inl (cI, n_counts, .inl F_counts))] (some (.int o)) [(h0, .inr (0, [.int v_most, .ref q_counts, .ref q_froms, .ref q_tos])), (q_counts, .inl (cI, n_counts, .inl F_counts))] := by
  refine sr_Ct.of (cc := b_T_countOf) (maxL := 2) (ret := (some .int)) (by decide) rfl (Nat.le_of_ble_eq_true rfl) ?_
  intro p e s m below meth c A ls C0 hA hK G hl
  obtain ⟨hx, hb, hml, hr, hown, hts, hlocks, hnm⟩ := id C0
  generalize hargs : ([.ref h0, .int x1] : List Value).toArray = args at C0 hts ⊢
  have hws := sr_hws hts
  replace hl : lv_has ls 2 [(0, .ref h0), (1, .int x1)] := hl
  replace hf : (sr_bk x1 n_counts
    (some (F_counts x1.toNatClampNeg))) = some o := hf
  refine lv_aload_n hx hb d_T_countOf_0 rfl (lv_at hl 0 rfl) ?_
  refine va_get (D := (dC, dI)) (ci := 0) (v := .ref q_counts) (C := "StationRows$Times") (T := zf_T) (N := 4) hx hb hws zi_T hown hK G.1 0 rfl rfl 1 (by decide) (hws _ k_86) (fun _ h9 => h9) rfl d_T_countOf_1 ?_
  refine lv_iload_n hx hb d_T_countOf_4 rfl (lv_at hl 1 rfl) ?_
  obtain ⟨hi1, hf⟩ := sr_bk_e hf
  refine va_iald hx hb hK G.1 1 0 rfl rfl hi1 d_T_countOf_5 ?_
  cases hf
  exact sr_iret hx hb hr hlocks hK G d_T_countOf_6
/-! StationRows$Times.indexAt(II)I -/
abbrev rm_T_indexAt : Room := { frames := 0, cells := 0, slots := 0, locals := 0 }
def f_T_indexAt_10 (n : Nat) (n_counts n_froms n_tos : Nat) (v_most : Int32) (F_counts : Nat → Int32) (F_froms : Nat → Int32) (F_tos : Nat → Int32) (x1 x2 : Int32)  : Nat → Int32 → Int32 → Option (Int32)
  | 0, _, _ => none
  | k + 1, y3, y4 =>
    (sr_bk x1 n_counts
    (if (F_counts x1.toNatClampNeg) ≤ y4 then
    (some (-1))
    else
    (sr_bk (y3 + y4) n_froms
    (if x2 < (F_froms ((y3 + y4)).toNatClampNeg) then
    (sr_nm (y4 + 1) fun z5 =>
    (f_T_indexAt_10 n n_counts n_froms n_tos v_most F_counts F_froms F_tos x1 x2  k y3 z5))
    else
    (sr_bk (y3 + y4) n_tos
    (if (F_tos ((y3 + y4)).toNatClampNeg) ≤ x2 then
    (sr_nm (y4 + 1) fun z8 =>
    (f_T_indexAt_10 n n_counts n_froms n_tos v_most F_counts F_froms F_tos x1 x2  k y3 z8))
    else
    (some y4)))))))
theorem f_T_indexAt_10_eq (n : Nat) (n_counts n_froms n_tos : Nat) (v_most : Int32) (F_counts : Nat → Int32) (F_froms : Nat → Int32) (F_tos : Nat → Int32) (x1 x2 : Int32)  (k : Nat) (y3 y4 : Int32) : f_T_indexAt_10 n n_counts n_froms n_tos v_most F_counts F_froms F_tos x1 x2  (k + 1) y3 y4 =
    (sr_bk x1 n_counts
    (if (F_counts x1.toNatClampNeg) ≤ y4 then
    (some (-1))
    else
    (sr_bk (y3 + y4) n_froms
    (if x2 < (F_froms ((y3 + y4)).toNatClampNeg) then
    (sr_nm (y4 + 1) fun z5 =>
    (f_T_indexAt_10 n n_counts n_froms n_tos v_most F_counts F_froms F_tos x1 x2  k y3 z5))
    else
    (sr_bk (y3 + y4) n_tos
    (if (F_tos ((y3 + y4)).toNatClampNeg) ≤ x2 then
    (sr_nm (y4 + 1) fun z8 =>
    (f_T_indexAt_10 n n_counts n_froms n_tos v_most F_counts F_froms F_tos x1 x2  k y3 z8))
    else
    (some y4))))))) := rfl
set_option maxHeartbeats 4000000 in
set_option maxRecDepth 100000 in
theorem w_T_indexAt_10 (l : Launch) {p : Program} {e : Env} {s : State} {m : MethodId} {below : List Frame} {meth : Method} {c : Code} (dC : Nat → ClassId) (dI : Nat → Nat → Nat) (cI cJ cZ : ClassId) (h0 q_counts q_froms q_tos : Nat) (n_counts n_froms n_tos : Nat) (v_most : Int32) (F_counts : Nat → Int32) (F_froms : Nat → Int32) (F_tos : Nat → Int32) (x1 x2 : Int32) (n : Nat) (A : Nat → Prop) (args : Array Value) (o : Int32) (C0 : sr_cx p s m args meth c b_T_indexAt 5 (some .int) "StationRows$Times" "indexAt" (sr_W y_T_indexAt b_T_indexAt 5 (some .int))) (hK : va_K (dC, dI) vwCl (sr_ty cI cJ cZ) s) (hA : ∀ q, s.heap.size ≤ q → A q)   :
    ∀ (k : Nat) (y3 y4 : Int32) (H : Heap) (locs : List Loc) (ls : Array Slot), f_T_indexAt_10 n n_counts n_froms n_tos v_most F_counts F_froms F_tos x1 x2  k y3 y4 = some o → sr_G (dC, dI) A [(h0, .inr (0, [.int v_most, .ref q_counts, .ref q_froms, .ref q_tos])), (q_counts, .inl (cI, n_counts, .inl F_counts)), (q_froms, .inl (cI, n_froms, .inl F_froms)), (q_tos, .inl (cI, n_tos, .inl F_tos))] s H locs → lv_has ls 5 [(0, .ref h0), (1, .int x1), (2, .int x2), (3, .int y3), (4, .int y4)] → W p l e rm_T_indexAt s m args below meth c H locs 0 0 (MQ below (sr_Q (dC, dI) (sr_ty cI cJ cZ) A [(h0, .inr (0, [.int v_most, .ref q_counts, .ref q_froms, .ref q_tos])), (q_counts, .inl (cI, n_counts, .inl F_counts)), (q_froms, .inl (cI, n_froms, .inl F_froms)), (q_tos, .inl (cI, n_tos, .inl F_tos))] (.inl (some (.int o))) s.heap.size) args s rm_T_indexAt.cells rm_T_indexAt.slots A) (F0 m 10 ls []) := by
  obtain ⟨hx, hb, hml, hr, hown, hts, hlocks, hnm⟩ := id C0
  have hws := sr_hws hts
  intro k
  induction k with
  | zero =>
    intro y3 y4 H locs ls hf
    exact sr_no hf
  | succ k ih =>
    intro y3 y4 H locs ls hf G hl
    replace hf := (f_T_indexAt_10_eq n n_counts n_froms n_tos v_most F_counts F_froms F_tos x1 x2  k y3 y4).symm.trans hf
    refine lv_iload hx hb d_T_indexAt_10 (lv_at hl 4 rfl) ?_
    refine lv_aload_n hx hb d_T_indexAt_12 rfl (lv_at hl 0 rfl) ?_
    refine va_get (D := (dC, dI)) (ci := 0) (v := .ref q_counts) (C := "StationRows$Times") (T := zf_T) (N := 4) hx hb hws zi_T hown hK G.1 0 rfl rfl 1 (by decide) (hws _ k_86) (fun _ h9 => h9) rfl d_T_indexAt_13 ?_
    refine lv_iload_n hx hb d_T_indexAt_16 rfl (lv_at hl 1 rfl) ?_
    obtain ⟨hi1, hf⟩ := sr_bk_e hf
    refine va_iald hx hb hK G.1 1 0 rfl rfl hi1 d_T_indexAt_17 ?_
    refine lv_icmp_ge (tgt := 56) hx hb d_T_indexAt_18 (by decide) (fun c2 => ?_) (fun c2 => ?_)
    · replace hf := (if_pos c2).symm.trans hf
      refine lv_iconst (v := (-1)) hx hb d_T_indexAt_56 (by decide) ?_
      cases hf
      exact sr_iret hx hb hr hlocks hK G d_T_indexAt_57
    replace hf := (if_neg c2).symm.trans hf
    refine lv_aload_n hx hb d_T_indexAt_21 rfl (lv_at hl 0 rfl) ?_
    refine va_get (D := (dC, dI)) (ci := 0) (v := .ref q_froms) (C := "StationRows$Times") (T := zf_T) (N := 4) hx hb hws zi_T hown hK G.1 0 rfl rfl 2 (by decide) (hws _ k_87) (fun _ h9 => h9) rfl d_T_indexAt_22 ?_
    refine lv_iload_n hx hb d_T_indexAt_25 rfl (lv_at hl 3 rfl) ?_
    refine lv_iload hx hb d_T_indexAt_26 (lv_at hl 4 rfl) ?_
    refine lv_iadd hx hb d_T_indexAt_28 ?_
    obtain ⟨hi3, hf⟩ := sr_bk_e hf
    refine va_iald hx hb hK G.1 2 0 rfl rfl hi3 d_T_indexAt_29 ?_
    refine lv_iload_n hx hb d_T_indexAt_30 rfl (lv_at hl 2 rfl) ?_
    refine lv_icmp_gt (tgt := 50) hx hb d_T_indexAt_31 (by decide) (fun c4 => ?_) (fun c4 => ?_)
    · replace hf := (if_pos c4).symm.trans hf
      obtain ⟨z5, ez5⟩ : ∃ y : Int32, y = (y4 + 1) := ⟨_, rfl⟩
      replace hf := sr_nm_u ez5 hf
      refine lv_iinc (v := z5) (lv' := [(4, .int z5), (0, .ref h0), (1, .int x1), (2, .int x2), (3, .int y3)]) hx hb d_T_indexAt_50 hl (k := 4) rfl ((sr_inc _ (by decide)).trans ez5.symm) (by decide) rfl (fun ls hl => ?_)
      refine lv_goto (tgt := 10) hx hb d_T_indexAt_53 (by decide) ?_
      exact ih y3 z5 _ _ _ hf G (lv_sub hl [1, 2, 3, 4, 0] rfl)
    replace hf := (if_neg c4).symm.trans hf
    refine lv_iload_n hx hb d_T_indexAt_34 rfl (lv_at hl 2 rfl) ?_
    refine lv_aload_n hx hb d_T_indexAt_35 rfl (lv_at hl 0 rfl) ?_
    refine va_get (D := (dC, dI)) (ci := 0) (v := .ref q_tos) (C := "StationRows$Times") (T := zf_T) (N := 4) hx hb hws zi_T hown hK G.1 0 rfl rfl 3 (by decide) (hws _ k_88) (fun _ h9 => h9) rfl d_T_indexAt_36 ?_
    refine lv_iload_n hx hb d_T_indexAt_39 rfl (lv_at hl 3 rfl) ?_
    refine lv_iload hx hb d_T_indexAt_40 (lv_at hl 4 rfl) ?_
    refine lv_iadd hx hb d_T_indexAt_42 ?_
    obtain ⟨hi6, hf⟩ := sr_bk_e hf
    refine va_iald hx hb hK G.1 3 0 rfl rfl hi6 d_T_indexAt_43 ?_
    refine lv_icmp_ge (tgt := 50) hx hb d_T_indexAt_44 (by decide) (fun c7 => ?_) (fun c7 => ?_)
    · replace hf := (if_pos c7).symm.trans hf
      obtain ⟨z8, ez8⟩ : ∃ y : Int32, y = (y4 + 1) := ⟨_, rfl⟩
      replace hf := sr_nm_u ez8 hf
      refine lv_iinc (v := z8) (lv' := [(4, .int z8), (0, .ref h0), (1, .int x1), (2, .int x2), (3, .int y3)]) hx hb d_T_indexAt_50 hl (k := 4) rfl ((sr_inc _ (by decide)).trans ez8.symm) (by decide) rfl (fun ls hl => ?_)
      refine lv_goto (tgt := 10) hx hb d_T_indexAt_53 (by decide) ?_
      exact ih y3 z8 _ _ _ hf G (lv_sub hl [1, 2, 3, 4, 0] rfl)
    replace hf := (if_neg c7).symm.trans hf
    refine lv_iload hx hb d_T_indexAt_47 (lv_at hl 4 rfl) ?_
    cases hf
    exact sr_iret hx hb hr hlocks hK G d_T_indexAt_49
def f_T_indexAt (n : Nat) (n_counts n_froms n_tos : Nat) (v_most : Int32) (F_counts : Nat → Int32) (F_froms : Nat → Int32) (F_tos : Nat → Int32) (x1 x2 : Int32) : Option (Int32) :=
    (sr_nm (x1 * v_most) fun z1 =>
    (f_T_indexAt_10 n n_counts n_froms n_tos v_most F_counts F_froms F_tos x1 x2  n z1 0))
set_option maxHeartbeats 4000000 in
set_option maxRecDepth 100000 in
theorem c_T_indexAt (l : Launch) (dC : Nat → ClassId) (dI : Nat → Nat → Nat) (cI cJ cZ : ClassId) (h0 q_counts q_froms q_tos : Nat) (n_counts n_froms n_tos : Nat) (v_most : Int32) (F_counts : Nat → Int32) (F_froms : Nat → Int32) (F_tos : Nat → Int32) (x1 x2 : Int32) (n : Nat) (o : Int32) (hf : f_T_indexAt n n_counts n_froms n_tos v_most F_counts F_froms F_tos x1 x2 = some o) : sr_Ct l y_T_indexAt (sr_W y_T_indexAt b_T_indexAt 5 (some .int)) rm_T_indexAt (dC, dI) (sr_ty cI cJ cZ) [.ref h0, .int x1, .int x2] [(h0, .inr (0, [.int v_most, .ref q_counts, .ref q_froms, .ref q_tos])), (q_counts, .inl (cI, n_counts, .inl F_counts)), (q_froms, .inl (cI, n_froms, .inl F_froms)), (q_tos, .inl (cI, n_tos, .inl F_tos))] (some (.int o)) [(h0, .inr (0, [.int v_most, .ref q_counts, .ref q_froms, .ref q_tos])), (q_counts, .inl (cI, n_counts, .inl F_counts)), (q_froms, .inl (cI, n_froms, .inl F_froms)), (q_tos, .inl (cI, n_tos, .inl F_tos))] := by
  refine sr_Ct.of (cc := b_T_indexAt) (maxL := 5) (ret := (some .int)) (by decide) rfl (Nat.le_of_ble_eq_true rfl) ?_
  intro p e s m below meth c A ls C0 hA hK G hl
  obtain ⟨hx, hb, hml, hr, hown, hts, hlocks, hnm⟩ := id C0
  generalize hargs : ([.ref h0, .int x1, .int x2] : List Value).toArray = args at C0 hts ⊢
  have hws := sr_hws hts
  replace hl : lv_has ls 5 [(0, .ref h0), (1, .int x1), (2, .int x2)] := hl
  replace hf : (sr_nm (x1 * v_most) fun z1 =>
    (f_T_indexAt_10 n n_counts n_froms n_tos v_most F_counts F_froms F_tos x1 x2  n z1 0)) = some o := hf
  refine lv_iload_n hx hb d_T_indexAt_0 rfl (lv_at hl 1 rfl) ?_
  refine lv_aload_n hx hb d_T_indexAt_1 rfl (lv_at hl 0 rfl) ?_
  refine va_get (D := (dC, dI)) (ci := 0) (v := .int v_most) (C := "StationRows$Times") (T := zf_T) (N := 4) hx hb hws zi_T hown hK G.1 0 rfl rfl 0 (by decide) (hws _ k_85) (fun _ h9 => h9) rfl d_T_indexAt_2 ?_
  refine lv_imul hx hb d_T_indexAt_5 ?_
  refine lv_topi (fun z1 ez1 => ?_)
  replace hf := sr_nm_u ez1 hf
  refine lv_istore_n (lv' := [(3, .int z1), (0, .ref h0), (1, .int x1), (2, .int x2)]) hx hb d_T_indexAt_6 rfl hl (by decide) rfl (fun ls hl => ?_)
  refine lv_iconst (v := 0) hx hb d_T_indexAt_7 (by decide) ?_
  refine lv_istore (lv' := [(4, .int 0), (3, .int z1), (0, .ref h0), (1, .int x1), (2, .int x2)]) hx hb d_T_indexAt_8 hl (by decide) rfl (fun ls hl => ?_)
  exact w_T_indexAt_10 l dC dI cI cJ cZ h0 q_counts q_froms q_tos n_counts n_froms n_tos v_most F_counts F_froms F_tos x1 x2 n A args o C0 hK hA   n z1 0 _ _ _ hf G (lv_sub hl [2, 3, 4, 1, 0] rfl)
/-! StationRows$Times.hasRoom(I)Z -/
abbrev rm_T_hasRoom : Room := { frames := 0, cells := 0, slots := 0, locals := 0 }
def f_T_hasRoom (n_counts : Nat) (v_most : Int32) (F_counts : Nat → Int32) (x1 : Int32) : Option (Int32) :=
    (sr_bk x1 n_counts
    (if v_most ≤ (F_counts x1.toNatClampNeg) then
    (some 0)
    else
    (some 1)))
set_option maxHeartbeats 4000000 in
set_option maxRecDepth 100000 in
theorem c_T_hasRoom (l : Launch) (dC : Nat → ClassId) (dI : Nat → Nat → Nat) (cI cJ cZ : ClassId) (h0 q_counts q_froms q_tos : Nat) (n_counts : Nat) (v_most : Int32) (F_counts : Nat → Int32) (x1 : Int32)  (o : Int32) (hf : f_T_hasRoom n_counts v_most F_counts x1 = some o) : sr_Ct l y_T_hasRoom (sr_W y_T_hasRoom b_T_hasRoom 2 (some .boolean)) rm_T_hasRoom (dC, dI) (sr_ty cI cJ cZ) [.ref h0, .int x1] [(h0, .inr (0, [.int v_most, .ref q_counts, .ref q_froms, .ref q_tos])), (q_counts, .inl (cI, n_counts, .inl F_counts))] (some (.int o)) [(h0, .inr (0, [.int v_most, .ref q_counts, .ref q_froms, .ref q_tos])), (q_counts, .inl (cI, n_counts, .inl F_counts))] := by
  refine sr_Ct.of (cc := b_T_hasRoom) (maxL := 2) (ret := (some .boolean)) (by decide) rfl (Nat.le_of_ble_eq_true rfl) ?_
  intro p e s m below meth c A ls C0 hA hK G hl
  obtain ⟨hx, hb, hml, hr, hown, hts, hlocks, hnm⟩ := id C0
  generalize hargs : ([.ref h0, .int x1] : List Value).toArray = args at C0 hts ⊢
  have hws := sr_hws hts
  replace hl : lv_has ls 2 [(0, .ref h0), (1, .int x1)] := hl
  replace hf : (sr_bk x1 n_counts
    (if v_most ≤ (F_counts x1.toNatClampNeg) then
    (some 0)
    else
    (some 1))) = some o := hf
  refine lv_aload_n hx hb d_T_hasRoom_0 rfl (lv_at hl 0 rfl) ?_
  refine va_get (D := (dC, dI)) (ci := 0) (v := .ref q_counts) (C := "StationRows$Times") (T := zf_T) (N := 4) hx hb hws zi_T hown hK G.1 0 rfl rfl 1 (by decide) (hws _ k_86) (fun _ h9 => h9) rfl d_T_hasRoom_1 ?_
  refine lv_iload_n hx hb d_T_hasRoom_4 rfl (lv_at hl 1 rfl) ?_
  obtain ⟨hi1, hf⟩ := sr_bk_e hf
  refine va_iald hx hb hK G.1 1 0 rfl rfl hi1 d_T_hasRoom_5 ?_
  refine lv_aload_n hx hb d_T_hasRoom_6 rfl (lv_at hl 0 rfl) ?_
  refine va_get (D := (dC, dI)) (ci := 0) (v := .int v_most) (C := "StationRows$Times") (T := zf_T) (N := 4) hx hb hws zi_T hown hK G.1 0 rfl rfl 0 (by decide) (hws _ k_85) (fun _ h9 => h9) rfl d_T_hasRoom_7 ?_
  refine lv_icmp_ge (tgt := 17) hx hb d_T_hasRoom_10 (by decide) (fun c2 => ?_) (fun c2 => ?_)
  · replace hf := (if_pos c2).symm.trans hf
    refine lv_iconst (v := 0) hx hb d_T_hasRoom_17 (by decide) ?_
    cases hf
    exact sr_zret (v := 0) hx hb hr hlocks hK G rfl d_T_hasRoom_18
  replace hf := (if_neg c2).symm.trans hf
  refine lv_iconst (v := 1) hx hb d_T_hasRoom_13 (by decide) ?_
  refine lv_goto (tgt := 18) hx hb d_T_hasRoom_14 (by decide) ?_
  cases hf
  exact sr_zret (v := 1) hx hb hr hlocks hK G rfl d_T_hasRoom_18
/-! StationRows$Times.meets(III)Z -/
abbrev rm_T_meets : Room := { frames := 0, cells := 0, slots := 0, locals := 0 }
def f_T_meets_12 (n : Nat) (n_counts n_froms n_tos : Nat) (v_most : Int32) (F_counts : Nat → Int32) (F_froms : Nat → Int32) (F_tos : Nat → Int32) (x1 x2 x3 : Int32)  : Nat → Int32 → Int32 → Option (Int32)
  | 0, _, _ => none
  | k + 1, y4, y5 =>
    (sr_bk x1 n_counts
    (if (y4 + (F_counts x1.toNatClampNeg)) ≤ y5 then
    (some 0)
    else
    (sr_bk y5 n_tos
    (if (F_tos y5.toNatClampNeg) ≤ x2 then
    (sr_nm (y5 + 1) fun z5 =>
    (f_T_meets_12 n n_counts n_froms n_tos v_most F_counts F_froms F_tos x1 x2 x3  k y4 z5))
    else
    (sr_bk y5 n_froms
    (if x3 ≤ (F_froms y5.toNatClampNeg) then
    (sr_nm (y5 + 1) fun z8 =>
    (f_T_meets_12 n n_counts n_froms n_tos v_most F_counts F_froms F_tos x1 x2 x3  k y4 z8))
    else
    (some 1)))))))
theorem f_T_meets_12_eq (n : Nat) (n_counts n_froms n_tos : Nat) (v_most : Int32) (F_counts : Nat → Int32) (F_froms : Nat → Int32) (F_tos : Nat → Int32) (x1 x2 x3 : Int32)  (k : Nat) (y4 y5 : Int32) : f_T_meets_12 n n_counts n_froms n_tos v_most F_counts F_froms F_tos x1 x2 x3  (k + 1) y4 y5 =
    (sr_bk x1 n_counts
    (if (y4 + (F_counts x1.toNatClampNeg)) ≤ y5 then
    (some 0)
    else
    (sr_bk y5 n_tos
    (if (F_tos y5.toNatClampNeg) ≤ x2 then
    (sr_nm (y5 + 1) fun z5 =>
    (f_T_meets_12 n n_counts n_froms n_tos v_most F_counts F_froms F_tos x1 x2 x3  k y4 z5))
    else
    (sr_bk y5 n_froms
    (if x3 ≤ (F_froms y5.toNatClampNeg) then
    (sr_nm (y5 + 1) fun z8 =>
    (f_T_meets_12 n n_counts n_froms n_tos v_most F_counts F_froms F_tos x1 x2 x3  k y4 z8))
    else
    (some 1))))))) := rfl
set_option maxHeartbeats 4000000 in
set_option maxRecDepth 100000 in
theorem w_T_meets_12 (l : Launch) {p : Program} {e : Env} {s : State} {m : MethodId} {below : List Frame} {meth : Method} {c : Code} (dC : Nat → ClassId) (dI : Nat → Nat → Nat) (cI cJ cZ : ClassId) (h0 q_counts q_froms q_tos : Nat) (n_counts n_froms n_tos : Nat) (v_most : Int32) (F_counts : Nat → Int32) (F_froms : Nat → Int32) (F_tos : Nat → Int32) (x1 x2 x3 : Int32) (n : Nat) (A : Nat → Prop) (args : Array Value) (o : Int32) (C0 : sr_cx p s m args meth c b_T_meets 6 (some .boolean) "StationRows$Times" "meets" (sr_W y_T_meets b_T_meets 6 (some .boolean))) (hK : va_K (dC, dI) vwCl (sr_ty cI cJ cZ) s) (hA : ∀ q, s.heap.size ≤ q → A q)   :
    ∀ (k : Nat) (y4 y5 : Int32) (H : Heap) (locs : List Loc) (ls : Array Slot), f_T_meets_12 n n_counts n_froms n_tos v_most F_counts F_froms F_tos x1 x2 x3  k y4 y5 = some o → sr_G (dC, dI) A [(h0, .inr (0, [.int v_most, .ref q_counts, .ref q_froms, .ref q_tos])), (q_counts, .inl (cI, n_counts, .inl F_counts)), (q_froms, .inl (cI, n_froms, .inl F_froms)), (q_tos, .inl (cI, n_tos, .inl F_tos))] s H locs → lv_has ls 6 [(0, .ref h0), (1, .int x1), (2, .int x2), (3, .int x3), (4, .int y4), (5, .int y5)] → W p l e rm_T_meets s m args below meth c H locs 0 0 (MQ below (sr_Q (dC, dI) (sr_ty cI cJ cZ) A [(h0, .inr (0, [.int v_most, .ref q_counts, .ref q_froms, .ref q_tos])), (q_counts, .inl (cI, n_counts, .inl F_counts)), (q_froms, .inl (cI, n_froms, .inl F_froms)), (q_tos, .inl (cI, n_tos, .inl F_tos))] (.inl (some (.int o))) s.heap.size) args s rm_T_meets.cells rm_T_meets.slots A) (F0 m 12 ls []) := by
  obtain ⟨hx, hb, hml, hr, hown, hts, hlocks, hnm⟩ := id C0
  have hws := sr_hws hts
  intro k
  induction k with
  | zero =>
    intro y4 y5 H locs ls hf
    exact sr_no hf
  | succ k ih =>
    intro y4 y5 H locs ls hf G hl
    replace hf := (f_T_meets_12_eq n n_counts n_froms n_tos v_most F_counts F_froms F_tos x1 x2 x3  k y4 y5).symm.trans hf
    refine lv_iload hx hb d_T_meets_12 (lv_at hl 5 rfl) ?_
    refine lv_iload hx hb d_T_meets_14 (lv_at hl 4 rfl) ?_
    refine lv_aload_n hx hb d_T_meets_16 rfl (lv_at hl 0 rfl) ?_
    refine va_get (D := (dC, dI)) (ci := 0) (v := .ref q_counts) (C := "StationRows$Times") (T := zf_T) (N := 4) hx hb hws zi_T hown hK G.1 0 rfl rfl 1 (by decide) (hws _ k_86) (fun _ h9 => h9) rfl d_T_meets_17 ?_
    refine lv_iload_n hx hb d_T_meets_20 rfl (lv_at hl 1 rfl) ?_
    obtain ⟨hi1, hf⟩ := sr_bk_e hf
    refine va_iald hx hb hK G.1 1 0 rfl rfl hi1 d_T_meets_21 ?_
    refine lv_iadd hx hb d_T_meets_22 ?_
    refine lv_icmp_ge (tgt := 56) hx hb d_T_meets_23 (by decide) (fun c2 => ?_) (fun c2 => ?_)
    · replace hf := (if_pos c2).symm.trans hf
      refine lv_iconst (v := 0) hx hb d_T_meets_56 (by decide) ?_
      cases hf
      exact sr_zret (v := 0) hx hb hr hlocks hK G rfl d_T_meets_57
    replace hf := (if_neg c2).symm.trans hf
    refine lv_iload_n hx hb d_T_meets_26 rfl (lv_at hl 2 rfl) ?_
    refine lv_aload_n hx hb d_T_meets_27 rfl (lv_at hl 0 rfl) ?_
    refine va_get (D := (dC, dI)) (ci := 0) (v := .ref q_tos) (C := "StationRows$Times") (T := zf_T) (N := 4) hx hb hws zi_T hown hK G.1 0 rfl rfl 3 (by decide) (hws _ k_88) (fun _ h9 => h9) rfl d_T_meets_28 ?_
    refine lv_iload hx hb d_T_meets_31 (lv_at hl 5 rfl) ?_
    obtain ⟨hi3, hf⟩ := sr_bk_e hf
    refine va_iald hx hb hK G.1 3 0 rfl rfl hi3 d_T_meets_33 ?_
    refine lv_icmp_ge (tgt := 50) hx hb d_T_meets_34 (by decide) (fun c4 => ?_) (fun c4 => ?_)
    · replace hf := (if_pos c4).symm.trans hf
      obtain ⟨z5, ez5⟩ : ∃ y : Int32, y = (y5 + 1) := ⟨_, rfl⟩
      replace hf := sr_nm_u ez5 hf
      refine lv_iinc (v := z5) (lv' := [(5, .int z5), (0, .ref h0), (1, .int x1), (2, .int x2), (3, .int x3), (4, .int y4)]) hx hb d_T_meets_50 hl (k := 5) rfl ((sr_inc _ (by decide)).trans ez5.symm) (by decide) rfl (fun ls hl => ?_)
      refine lv_goto (tgt := 12) hx hb d_T_meets_53 (by decide) ?_
      exact ih y4 z5 _ _ _ hf G (lv_sub hl [1, 2, 3, 4, 5, 0] rfl)
    replace hf := (if_neg c4).symm.trans hf
    refine lv_aload_n hx hb d_T_meets_37 rfl (lv_at hl 0 rfl) ?_
    refine va_get (D := (dC, dI)) (ci := 0) (v := .ref q_froms) (C := "StationRows$Times") (T := zf_T) (N := 4) hx hb hws zi_T hown hK G.1 0 rfl rfl 2 (by decide) (hws _ k_87) (fun _ h9 => h9) rfl d_T_meets_38 ?_
    refine lv_iload hx hb d_T_meets_41 (lv_at hl 5 rfl) ?_
    obtain ⟨hi6, hf⟩ := sr_bk_e hf
    refine va_iald hx hb hK G.1 2 0 rfl rfl hi6 d_T_meets_43 ?_
    refine lv_iload_n hx hb d_T_meets_44 rfl (lv_at hl 3 rfl) ?_
    refine lv_icmp_ge (tgt := 50) hx hb d_T_meets_45 (by decide) (fun c7 => ?_) (fun c7 => ?_)
    · replace hf := (if_pos c7).symm.trans hf
      obtain ⟨z8, ez8⟩ : ∃ y : Int32, y = (y5 + 1) := ⟨_, rfl⟩
      replace hf := sr_nm_u ez8 hf
      refine lv_iinc (v := z8) (lv' := [(5, .int z8), (0, .ref h0), (1, .int x1), (2, .int x2), (3, .int x3), (4, .int y4)]) hx hb d_T_meets_50 hl (k := 5) rfl ((sr_inc _ (by decide)).trans ez8.symm) (by decide) rfl (fun ls hl => ?_)
      refine lv_goto (tgt := 12) hx hb d_T_meets_53 (by decide) ?_
      exact ih y4 z8 _ _ _ hf G (lv_sub hl [1, 2, 3, 4, 5, 0] rfl)
    replace hf := (if_neg c7).symm.trans hf
    refine lv_iconst (v := 1) hx hb d_T_meets_48 (by decide) ?_
    cases hf
    exact sr_zret (v := 1) hx hb hr hlocks hK G rfl d_T_meets_49
def f_T_meets (n : Nat) (n_counts n_froms n_tos : Nat) (v_most : Int32) (F_counts : Nat → Int32) (F_froms : Nat → Int32) (F_tos : Nat → Int32) (x1 x2 x3 : Int32) : Option (Int32) :=
    (sr_nm (x1 * v_most) fun z1 =>
    (f_T_meets_12 n n_counts n_froms n_tos v_most F_counts F_froms F_tos x1 x2 x3  n z1 z1))
set_option maxHeartbeats 4000000 in
set_option maxRecDepth 100000 in
theorem c_T_meets (l : Launch) (dC : Nat → ClassId) (dI : Nat → Nat → Nat) (cI cJ cZ : ClassId) (h0 q_counts q_froms q_tos : Nat) (n_counts n_froms n_tos : Nat) (v_most : Int32) (F_counts : Nat → Int32) (F_froms : Nat → Int32) (F_tos : Nat → Int32) (x1 x2 x3 : Int32) (n : Nat) (o : Int32) (hf : f_T_meets n n_counts n_froms n_tos v_most F_counts F_froms F_tos x1 x2 x3 = some o) : sr_Ct l y_T_meets (sr_W y_T_meets b_T_meets 6 (some .boolean)) rm_T_meets (dC, dI) (sr_ty cI cJ cZ) [.ref h0, .int x1, .int x2, .int x3] [(h0, .inr (0, [.int v_most, .ref q_counts, .ref q_froms, .ref q_tos])), (q_counts, .inl (cI, n_counts, .inl F_counts)), (q_froms, .inl (cI, n_froms, .inl F_froms)), (q_tos, .inl (cI, n_tos, .inl F_tos))] (some (.int o)) [(h0, .inr (0, [.int v_most, .ref q_counts, .ref q_froms, .ref q_tos])), (q_counts, .inl (cI, n_counts, .inl F_counts)), (q_froms, .inl (cI, n_froms, .inl F_froms)), (q_tos, .inl (cI, n_tos, .inl F_tos))] := by
  refine sr_Ct.of (cc := b_T_meets) (maxL := 6) (ret := (some .boolean)) (by decide) rfl (Nat.le_of_ble_eq_true rfl) ?_
  intro p e s m below meth c A ls C0 hA hK G hl
  obtain ⟨hx, hb, hml, hr, hown, hts, hlocks, hnm⟩ := id C0
  generalize hargs : ([.ref h0, .int x1, .int x2, .int x3] : List Value).toArray = args at C0 hts ⊢
  have hws := sr_hws hts
  replace hl : lv_has ls 6 [(0, .ref h0), (1, .int x1), (2, .int x2), (3, .int x3)] := hl
  replace hf : (sr_nm (x1 * v_most) fun z1 =>
    (f_T_meets_12 n n_counts n_froms n_tos v_most F_counts F_froms F_tos x1 x2 x3  n z1 z1)) = some o := hf
  refine lv_iload_n hx hb d_T_meets_0 rfl (lv_at hl 1 rfl) ?_
  refine lv_aload_n hx hb d_T_meets_1 rfl (lv_at hl 0 rfl) ?_
  refine va_get (D := (dC, dI)) (ci := 0) (v := .int v_most) (C := "StationRows$Times") (T := zf_T) (N := 4) hx hb hws zi_T hown hK G.1 0 rfl rfl 0 (by decide) (hws _ k_85) (fun _ h9 => h9) rfl d_T_meets_2 ?_
  refine lv_imul hx hb d_T_meets_5 ?_
  refine lv_topi (fun z1 ez1 => ?_)
  replace hf := sr_nm_u ez1 hf
  refine lv_istore (lv' := [(4, .int z1), (0, .ref h0), (1, .int x1), (2, .int x2), (3, .int x3)]) hx hb d_T_meets_6 hl (by decide) rfl (fun ls hl => ?_)
  refine lv_iload hx hb d_T_meets_8 (lv_at hl 0 rfl) ?_
  refine lv_istore (lv' := [(5, .int z1), (4, .int z1), (0, .ref h0), (1, .int x1), (2, .int x2), (3, .int x3)]) hx hb d_T_meets_10 hl (by decide) rfl (fun ls hl => ?_)
  exact w_T_meets_12 l dC dI cI cJ cZ h0 q_counts q_froms q_tos n_counts n_froms n_tos v_most F_counts F_froms F_tos x1 x2 x3 n A args o C0 hK hA   n z1 z1 _ _ _ hf G (lv_sub hl [2, 3, 4, 5, 1, 0] rfl)
/-! StationRows$Times.add(III)V -/
abbrev rm_T_add : Room := { frames := 0, cells := 0, slots := 0, locals := 0 }
def f_T_add (n_counts n_froms n_tos : Nat) (v_most : Int32) (F_counts : Nat → Int32) (F_froms : Nat → Int32) (F_tos : Nat → Int32) (x1 x2 x3 : Int32) : Option ((Nat → Int32) × (Nat → Int32) × (Nat → Int32)) :=
    (sr_bk x1 n_counts
    (sr_nm ((x1 * v_most) + (F_counts x1.toNatClampNeg)) fun z2 =>
    (sr_bk z2 n_froms
    (sr_bk z2 n_tos
    (sr_bk x1 n_counts
    (sr_bk x1 n_counts
    (some ((upd F_counts (x1 : Int32).toNatClampNeg ((F_counts x1.toNatClampNeg) + 1)), (upd F_froms (z2 : Int32).toNatClampNeg x2), (upd F_tos (z2 : Int32).toNatClampNeg x3)))))))))
set_option maxHeartbeats 4000000 in
set_option maxRecDepth 100000 in
theorem c_T_add (l : Launch) (dC : Nat → ClassId) (dI : Nat → Nat → Nat) (cI cJ cZ : ClassId) (h0 q_counts q_froms q_tos : Nat) (n_counts n_froms n_tos : Nat) (v_most : Int32) (F_counts : Nat → Int32) (F_froms : Nat → Int32) (F_tos : Nat → Int32) (x1 x2 x3 : Int32)  (o : (Nat → Int32) × (Nat → Int32) × (Nat → Int32)) (hf : f_T_add n_counts n_froms n_tos v_most F_counts F_froms F_tos x1 x2 x3 = some o) : sr_Ct l y_T_add (sr_W y_T_add b_T_add 5 none) rm_T_add (dC, dI) (sr_ty cI cJ cZ) [.ref h0, .int x1, .int x2, .int x3] [(h0, .inr (0, [.int v_most, .ref q_counts, .ref q_froms, .ref q_tos])), (q_counts, .inl (cI, n_counts, .inl F_counts)), (q_froms, .inl (cI, n_froms, .inl F_froms)), (q_tos, .inl (cI, n_tos, .inl F_tos))] (none) [(h0, .inr (0, [.int v_most, .ref q_counts, .ref q_froms, .ref q_tos])), (q_counts, .inl (cI, n_counts, .inl o.1)), (q_froms, .inl (cI, n_froms, .inl o.2.1)), (q_tos, .inl (cI, n_tos, .inl o.2.2))] := by
  refine sr_Ct.of (cc := b_T_add) (maxL := 5) (ret := none) (by decide) rfl (Nat.le_of_ble_eq_true rfl) ?_
  intro p e s m below meth c A ls C0 hA hK G hl
  obtain ⟨hx, hb, hml, hr, hown, hts, hlocks, hnm⟩ := id C0
  generalize hargs : ([.ref h0, .int x1, .int x2, .int x3] : List Value).toArray = args at C0 hts ⊢
  have hws := sr_hws hts
  replace hl : lv_has ls 5 [(0, .ref h0), (1, .int x1), (2, .int x2), (3, .int x3)] := hl
  replace hf : (sr_bk x1 n_counts
    (sr_nm ((x1 * v_most) + (F_counts x1.toNatClampNeg)) fun z2 =>
    (sr_bk z2 n_froms
    (sr_bk z2 n_tos
    (sr_bk x1 n_counts
    (sr_bk x1 n_counts
    (some ((upd F_counts (x1 : Int32).toNatClampNeg ((F_counts x1.toNatClampNeg) + 1)), (upd F_froms (z2 : Int32).toNatClampNeg x2), (upd F_tos (z2 : Int32).toNatClampNeg x3))))))))) = some o := hf
  refine lv_iload_n hx hb d_T_add_0 rfl (lv_at hl 1 rfl) ?_
  refine lv_aload_n hx hb d_T_add_1 rfl (lv_at hl 0 rfl) ?_
  refine va_get (D := (dC, dI)) (ci := 0) (v := .int v_most) (C := "StationRows$Times") (T := zf_T) (N := 4) hx hb hws zi_T hown hK G.1 0 rfl rfl 0 (by decide) (hws _ k_85) (fun _ h9 => h9) rfl d_T_add_2 ?_
  refine lv_imul hx hb d_T_add_5 ?_
  refine lv_aload_n hx hb d_T_add_6 rfl (lv_at hl 0 rfl) ?_
  refine va_get (D := (dC, dI)) (ci := 0) (v := .ref q_counts) (C := "StationRows$Times") (T := zf_T) (N := 4) hx hb hws zi_T hown hK G.1 0 rfl rfl 1 (by decide) (hws _ k_86) (fun _ h9 => h9) rfl d_T_add_7 ?_
  refine lv_iload_n hx hb d_T_add_10 rfl (lv_at hl 1 rfl) ?_
  obtain ⟨hi1, hf⟩ := sr_bk_e hf
  refine va_iald hx hb hK G.1 1 0 rfl rfl hi1 d_T_add_11 ?_
  refine lv_iadd hx hb d_T_add_12 ?_
  refine lv_topi (fun z2 ez2 => ?_)
  replace hf := sr_nm_u ez2 hf
  refine lv_istore (lv' := [(4, .int z2), (0, .ref h0), (1, .int x1), (2, .int x2), (3, .int x3)]) hx hb d_T_add_13 hl (by decide) rfl (fun ls hl => ?_)
  refine lv_aload_n hx hb d_T_add_15 rfl (lv_at hl 1 rfl) ?_
  refine va_get (D := (dC, dI)) (ci := 0) (v := .ref q_froms) (C := "StationRows$Times") (T := zf_T) (N := 4) hx hb hws zi_T hown hK G.1 0 rfl rfl 2 (by decide) (hws _ k_87) (fun _ h9 => h9) rfl d_T_add_16 ?_
  refine lv_iload hx hb d_T_add_19 (lv_at hl 0 rfl) ?_
  refine lv_iload_n hx hb d_T_add_21 rfl (lv_at hl 3 rfl) ?_
  obtain ⟨hi3, hf⟩ := sr_bk_e hf
  refine va_iast hx hb hK G.1 G.2.1 G.2.2 2 0 rfl rfl hi3 d_T_add_22 (fun H locs hP hD hS => ?_)
  have G : sr_G (dC, dI) A [(h0, .inr (0, [.int v_most, .ref q_counts, .ref q_froms, .ref q_tos])), (q_counts, .inl (cI, n_counts, .inl F_counts)), (q_froms, .inl (cI, n_froms, .inl (upd F_froms (z2 : Int32).toNatClampNeg x2))), (q_tos, .inl (cI, n_tos, .inl F_tos))] s H locs := ⟨hP, hD, hS⟩
  refine lv_aload_n hx hb d_T_add_23 rfl (lv_at hl 1 rfl) ?_
  refine va_get (D := (dC, dI)) (ci := 0) (v := .ref q_tos) (C := "StationRows$Times") (T := zf_T) (N := 4) hx hb hws zi_T hown hK G.1 0 rfl rfl 3 (by decide) (hws _ k_88) (fun _ h9 => h9) rfl d_T_add_24 ?_
  refine lv_iload hx hb d_T_add_27 (lv_at hl 0 rfl) ?_
  refine lv_iload_n hx hb d_T_add_29 rfl (lv_at hl 4 rfl) ?_
  obtain ⟨hi4, hf⟩ := sr_bk_e hf
  refine va_iast hx hb hK G.1 G.2.1 G.2.2 3 0 rfl rfl hi4 d_T_add_30 (fun H locs hP hD hS => ?_)
  have G : sr_G (dC, dI) A [(h0, .inr (0, [.int v_most, .ref q_counts, .ref q_froms, .ref q_tos])), (q_counts, .inl (cI, n_counts, .inl F_counts)), (q_froms, .inl (cI, n_froms, .inl (upd F_froms (z2 : Int32).toNatClampNeg x2))), (q_tos, .inl (cI, n_tos, .inl (upd F_tos (z2 : Int32).toNatClampNeg x3)))] s H locs := ⟨hP, hD, hS⟩
  refine lv_aload_n hx hb d_T_add_31 rfl (lv_at hl 1 rfl) ?_
  refine va_get (D := (dC, dI)) (ci := 0) (v := .ref q_counts) (C := "StationRows$Times") (T := zf_T) (N := 4) hx hb hws zi_T hown hK G.1 0 rfl rfl 1 (by decide) (hws _ k_86) (fun _ h9 => h9) rfl d_T_add_32 ?_
  refine lv_iload_n hx hb d_T_add_35 rfl (lv_at hl 2 rfl) ?_
  refine lv_dup2_11 hx hb d_T_add_36 rfl rfl ?_
  obtain ⟨hi5, hf⟩ := sr_bk_e hf
  refine va_iald hx hb hK G.1 1 0 rfl rfl hi5 d_T_add_37 ?_
  refine lv_iconst (v := 1) hx hb d_T_add_38 (by decide) ?_
  refine lv_iadd hx hb d_T_add_39 ?_
  obtain ⟨hi6, hf⟩ := sr_bk_e hf
  refine va_iast hx hb hK G.1 G.2.1 G.2.2 1 0 rfl rfl hi6 d_T_add_40 (fun H locs hP hD hS => ?_)
  have G : sr_G (dC, dI) A [(h0, .inr (0, [.int v_most, .ref q_counts, .ref q_froms, .ref q_tos])), (q_counts, .inl (cI, n_counts, .inl (upd F_counts (x1 : Int32).toNatClampNeg ((F_counts x1.toNatClampNeg) + 1)))), (q_froms, .inl (cI, n_froms, .inl (upd F_froms (z2 : Int32).toNatClampNeg x2))), (q_tos, .inl (cI, n_tos, .inl (upd F_tos (z2 : Int32).toNatClampNeg x3)))] s H locs := ⟨hP, hD, hS⟩
  cases hf
  exact sr_vret hx hb hr hlocks hK G d_T_add_41