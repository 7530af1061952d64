
theorem S_tell {n : Nat} {w : Wd} (hn : 100 ≤ n) (ok : Ok w) {t v : Nat} {RR : Nat → Nat → Nat} {mm : Nat → Nat} {SA : Nat → Int32} (ht : t < 100000) (hv : v < w.v) (hRR : ∀ h, Row (isOn w h t) w.ds (RR h) (mm h) w.p) (hG : Gsp w (spF w t) (spI w t) w.v) (hF : ∀ j, j < w.v → SA j = fiZ (spF w t j)) (rl x : Int32) (F Mn Lo Fa : Nat → Int32) (hS : Rs w t RR mm Mn Lo Fa v) :
    ∃ (rl' : Int32) (F' : Nat → Int32), f_S_tellCrew n 12 12 30 30 30 120 120 30 60 60 60 360 360 60 180 180 180 60 (nF w.fr) (nF w.to) (nF w.hm) (nF w.cr) (nI 4) (nF w.oc) (nF w.ou) (nF w.ot) SA rl (nI w.p) (nI w.lim) (nF w.lv) (nF w.ds) (nI 6) (nF w.dc) (nF w.df) (nF w.dt) (nI 3) (nF w.mc) (nF w.mf) (nF w.mt) (nF w.mw) F (nI v) (nI t) x = some (if x = 0 then (if Mn v = 0 then 0 else if Fa v = 0 then 2 else 1) else if x = 1 then Fa v else if x = 2 then Mn v else if x = 3 then Lo v else -1, rl', F') := by
  have h30 := ok.v
  have hp := ok.p
  obtain ⟨F', R, m, e1, hR, hm, hF'⟩ := S_gath (n := n) hn ok (ok.hm v) ht rl F
  obtain ⟨u1, u2⟩ := Row_un hR (hRR (w.hm v))
  have hRl : ∀ j, j < m → R j < 60 := fun j hj => by have := (hR.mem j hj).1; omega
  have hale := tbf_le (w := w) (t := t) (m := m) (h := w.hm v) v 0 0 (Nat.zero_le _)
  have hle := tkn_le m (tbf w t m (w.hm v) 0 0 v) (wnt w t v) hale
  have hw := wnt_le ok t v
  obtain ⟨s1, s2, s3⟩ := hS
  unfold tkv at s1 s2 s3
  rw [← u1] at s1 s2 s3
  have e2 : f_V_stationOf 30 (nF w.hm) (nI v) = some (nI (w.hm v)) := by
    unfold f_V_stationOf
    rw [zb _ (by omega) (by omega), zc (by omega), nF_at]
  have e3 : f_V_takenBefore n 30 30 30 120 120 30 (nF w.hm) (nF w.cr) (nI 4) (nF w.oc) (nF w.ou) (nF w.ot) SA (nI v) (nI t) (nI m) = some (nI (tbf w t m (w.hm v) 0 0 v)) := V_tb6 hn ok ht hv hm hG hF v n 0 0 (by omega) (by omega) (by omega)
  have e4 := V_tkn hn ok ht hv hm hale hG hF
  have e5 := P_delay (d := w.ds) hm hle hRl hF'
  have e6 := P_low (n := n) hn hm hle hRl hF'
  have e7 : mnR R (tbf w t m (w.hm v) 0 0 v) (tkn m (tbf w t m (w.hm v) 0 0 v) (wnt w t v)) = mnR (RR (w.hm v)) (tbf w t m (w.hm v) 0 0 v) (tkn m (tbf w t m (w.hm v) 0 0 v) (wnt w t v)) := by
    have : ∀ k, tbf w t m (w.hm v) 0 0 v + k ≤ m → mnR R (tbf w t m (w.hm v) 0 0 v) k = mnR (RR (w.hm v)) (tbf w t m (w.hm v) 0 0 v) k := by
      intro k
      induction k with
      | zero => intro _; rfl
      | succ k ih =>
        intro hk
        unfold mnR
        rw [ih (by omega), u2 _ (by omega)]
    exact this _ hle
  rw [e7, ← s2] at e6
  have e8 : (if tkn m (tbf w t m (w.hm v) 0 0 v) (wnt w t v) = 0 then 0 else w.ds (R (tbf w t m (w.hm v) 0 0 v + tkn m (tbf w t m (w.hm v) 0 0 v) (wnt w t v) - 1))) = (if tkn m (tbf w t m (w.hm v) 0 0 v) (wnt w t v) = 0 then 0 else w.ds (RR (w.hm v) (tbf w t m (w.hm v) 0 0 v + tkn m (tbf w t m (w.hm v) 0 0 v) (wnt w t v) - 1))) := by
    by_cases q : tkn m (tbf w t m (w.hm v) 0 0 v) (wnt w t v) = 0
    · rw [if_pos q, if_pos q]
    · rw [if_neg q, if_neg q, u2 _ (by omega)]
  rw [e8, ← s3] at e5
  refine ⟨nI m, F', ?_⟩
  unfold f_S_tellCrew
  rw [e2, zd, e1, zd]
  simp only
  rw [e3, zd, e4, zd, e5, e6, ← s1]
  simp only [zd]
  by_cases x0 : x = 0
  · simp only [if_pos x0]
    by_cases q1 : Mn v = 0
    · simp only [if_pos q1]
    · simp only [if_neg q1]
      by_cases q2 : Fa v = 0
      · simp only [if_pos q2]
      · simp only [if_neg q2]
  · simp only [if_neg x0]
    by_cases x1 : x = 1
    · simp only [if_pos x1]
    · simp only [if_neg x1]
      by_cases x2 : x = 2
      · simp only [if_pos x2]
      · simp only [if_neg x2]
        by_cases x3 : x = 3
        · simp only [if_pos x3]
        · simp only [if_neg x3]
theorem ag_vehicleAt {n : Nat} {w : Wd} (hn : 100 ≤ n) (ok : Ok w) (SA SB : Nat → Int32) (rl : Int32) (F : Nat → Int32) (O : Nat → Int64) (SF SI T Mn Lo Fa : Nat → Int32) (th x y z : Int32) :
    (∃ k : Int32, f_L_vehicleAt n 12 12 30 30 30 30 120 120 30 30 60 60 60 360 360 60 180 180 180 60 1 (nF w.fr) (nF w.to) (nI w.v) (nF w.hm) (nF w.kd) (nF w.cr) (nI 4) (nF w.oc) (nF w.ou) (nF w.ot) SA SB rl (nI w.p) (nI w.lim) (nF w.lv) (nF w.ds) (nI 6) (nF w.dc) (nF w.df) (nF w.dt) (nI 3) (nF w.mc) (nF w.mf) (nF w.mt) (nF w.mw) F O x y z = some (k, SA, SB, rl, F, O) ∧ f_M_vehicleAt n 12 12 30 30 30 30 120 120 60 60 60 360 360 60 180 180 180 30 30 60 30 30 30 th (nI w.v) (nI w.p) (nI w.lim) (nF w.fr) (nF w.to) (nF w.hm) (nF w.kd) (nF w.cr) (nF w.oc) (nF w.ou) (nF w.ot) (nF w.lv) (nF w.ds) (nF w.dc) (nF w.df) (nF w.dt) (nF w.mc) (nF w.mw) (nF w.mf) (nF w.mt) SF SI T Mn Lo Fa x y z = some (0, k, SF, SI, T, Mn, Lo, Fa) ∧ ¬ k = 0) ∨
    ∃ (r rl' : Int32) (SA' SB' F' SF' SI' T' Mn' Lo' Fa' : Nat → Int32), f_L_vehicleAt n 12 12 30 30 30 30 120 120 30 30 60 60 60 360 360 60 180 180 180 60 1 (nF w.fr) (nF w.to) (nI w.v) (nF w.hm) (nF w.kd) (nF w.cr) (nI 4) (nF w.oc) (nF w.ou) (nF w.ot) SA SB rl (nI w.p) (nI w.lim) (nF w.lv) (nF w.ds) (nI 6) (nF w.dc) (nF w.df) (nF w.dt) (nI 3) (nF w.mc) (nF w.mf) (nF w.mt) (nF w.mw) F O x y z = some (0, SA', SB', rl', F', vp_updL O 0 r.toInt64) ∧ f_M_vehicleAt n 12 12 30 30 30 30 120 120 60 60 60 360 360 60 180 180 180 30 30 60 30 30 30 th (nI w.v) (nI w.p) (nI w.lim) (nF w.fr) (nF w.to) (nF w.hm) (nF w.kd) (nF w.cr) (nF w.oc) (nF w.ou) (nF w.ot) (nF w.lv) (nF w.ds) (nF w.dc) (nF w.df) (nF w.dt) (nF w.mc) (nF w.mw) (nF w.mf) (nF w.mt) SF SI T Mn Lo Fa x y z = some (r, 0, SF', SI', T', Mn', Lo', Fa') := by
  have hv := ok.v
  unfold f_L_vehicleAt f_S_vehicleAt f_M_vehicleAt
  have e7 : f_S_requireKnown z 7 = some (if kn01 7 z = 1 then 0 else 1) := S_kn 7 z
  have e6 : rg01 z 0 6 = kn01 7 z := rg_kn (b := 6) (by omega) rfl
  simp only [S_minute, M_minute, M_rg, e6, e7, S_kn, M_ve (show w.v < 1000000 by omega), zd, f_V_count, M_goes3 (show 6 ≤ n by omega)]
  rcases kn_cases w.v (by omega) x with ⟨h0, -⟩ | ⟨a, ha, rfl, h0⟩
  · exact Or.inl ⟨1, by simp [h0, zd], by simp [h0], by decide⟩
  · rcases kn_cases 7 (by omega) z with ⟨h1, -⟩ | ⟨c, hc, rfl, h1⟩
    · exact Or.inl ⟨1, by simp [h0, h1, zd], by simp [h0, h1], by decide⟩
    · rcases rg01_01 y 0 99999 with h2 | h2
      · exact Or.inl ⟨2, by simp [h0, h1, h2, zd], by simp [h0, h1, h2], by decide⟩
      · obtain ⟨t, ht, rfl⟩ := rg_of (b := 99999) (by omega) rfl h2
        obtain ⟨SA', SB', e1, a1, a2, hG⟩ := V_asg (n := n) hn ok (show t < 100000 by omega) SA SB
        have hx : ∀ h, ∃ R : Nat → Nat, Row (isOn w h t) w.ds R (cnt (isOn w h t) 0 w.p) w.p := fun h => by
          obtain ⟨R, m, hR⟩ := Row_ex (isOn w h t) w.ds w.p
          exact ⟨R, hR.len ▸ hR⟩
        obtain ⟨RR, hRR⟩ := Classical.axiomOfChoice hx
        obtain ⟨SF', SI', T', Mn', Lo', Fa', e2, b1, b2, hS⟩ := M_look (n := n) (mm := fun h => cnt (isOn w h t) 0 w.p) hn ok (show t < 100000 by omega) hRR hG SF SI T Mn Lo Fa
        obtain ⟨rl', F', e3⟩ := S_tell (n := n) (mm := fun h => cnt (isOn w h t) 0 w.p) hn ok (show t < 100000 by omega) ha hRR hG a1 rl (nI c) F Mn' Lo' Fa' (hS a ha)
        have e4 : f_V_standsFor 30 SA' (nI a) = some (fiZ (spF w t a)) := by
          unfold f_V_standsFor
          rw [zb _ (by omega) (by omega), zc (by omega), a1 a ha]
        have e5 : f_V_spareOf 30 SB' (nI a) = some (fiZ (spI w t a)) := by
          unfold f_V_spareOf
          rw [zb _ (by omega) (by omega), zc (by omega), a2 a ha]
        have e8 := V_isOut hn ok (show a < 30 by omega) (show t < 100000 by omega)
        have e9 := M_isOut hn ok (show a < 30 by omega) (show t < 100000 by omega)
        have hza : ∀ k : Option (Int32 × Int32 × (Nat → Int32) × (Nat → Int32) × (Nat → Int32) × (Nat → Int32) × (Nat → Int32) × (Nat → Int32)), sr_bk (nI a) 30 k = k := fun k => zb k (by omega) (by omega)
        have hzc : (nI a).toNatClampNeg = a := zc (by omega)
        have hfa : ∃ f : Nat, f ≤ 120 ∧ Fa' a = nI f := by
          refine ⟨_, ?_, (hS a ha).2.2⟩
          split
          · omega
          · exact ok.ds _
        obtain ⟨fa, hfl, hfe⟩ := hfa
        have hcc : c = 0 ∨ c = 1 ∨ c = 2 ∨ c = 3 ∨ c = 4 ∨ c = 5 ∨ c = 6 := by omega
        refine Or.inr ?_
        simp only [h0, h1, h2, e1, e2, zd, e4, e5, e8, e9, e3, hza, hzc, b1 a ha, b2 a ha, hfe]
        rcases hcc with rfl | rfl | rfl | rfl | rfl | rfl | rfl
        · by_cases q1 : Mn' a = 0
          · refine ⟨0, rl', SA', SB', F', SF', SI', T', Mn', Lo', Fa', ?_, ?_⟩
            · simp [q1, ← z_0, zd]
              rfl
            · simp [q1, ← z_0]
          · by_cases q2 : fa = 0
            · refine ⟨2, rl', SA', SB', F', SF', SI', T', Mn', Lo', Fa', ?_, ?_⟩
              · simp [q1, q2, ← z_0, zd]
                rfl
              · simp [q1, q2, ← z_0]
            · have q3 : ¬ nI fa = 0 := nI_ne0 (by omega) (by omega)
              have q4 : ¬ nI fa ≤ 0 := nI_nle (by omega) (by omega)
              refine ⟨1, rl', SA', SB', F', SF', SI', T', Mn', Lo', Fa', ?_, ?_⟩
              · simp [q1, q3, ← z_0, zd]
                rfl
              · simp [q1, q4, ← z_0]
        · refine ⟨nI fa, rl', SA', SB', F', SF', SI', T', Mn', Lo', Fa', ?_, ?_⟩
          · simp [← z_1, zd]
            rfl
          · simp [← z_1]
        · refine ⟨Mn' a, rl', SA', SB', F', SF', SI', T', Mn', Lo', Fa', ?_, ?_⟩
          · simp [← z_2, zd]
            rfl
          · simp [← z_2]
        · refine ⟨Lo' a, rl', SA', SB', F', SF', SI', T', Mn', Lo', Fa', ?_, ?_⟩
          · simp [← z_3, zd]
            rfl
          · simp [← z_3]
        · refine ⟨fiZ (spF w t a), rl, SA', SB', F, SF', SI', T', Mn', Lo', Fa', ?_, ?_⟩
          · simp [← z_4, zd]
            rfl
          · simp [← z_4]
        · refine ⟨fiZ (spI w t a), rl, SA', SB', F, SF', SI', T', Mn', Lo', Fa', ?_, ?_⟩
          · simp [← z_5, zd]
            rfl
          · simp [← z_5]
        · refine ⟨b01 (outB w t a), rl, SA', SB', F, SF', SI', T', Mn', Lo', Fa', ?_, ?_⟩
          · cases outB w t a <;> simp [← z_6, zd, b01] <;> rfl
          · cases outB w t a <;> simp [← z_6, b01]
