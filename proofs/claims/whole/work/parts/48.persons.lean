
/-! the world that class and reference share, in naturals -/
def Wd : Type := Nat × Nat × Nat × Nat × Nat × (Nat → Nat) × (Nat → Nat) × (Nat → Nat) × (Nat → Nat) × (Nat → Nat) × (Nat → Nat) × (Nat → Nat) × (Nat → Nat) × (Nat → Nat) × (Nat → Nat) × (Nat → Nat) × (Nat → Nat) × (Nat → Nat) × (Nat → Nat) × (Nat → Nat) × (Nat → Nat) × (Nat → Nat) × (Nat → Nat) × (Nat → Nat) × (Nat → Nat) × (Nat → Nat) × (Nat → Nat) × (Nat → Nat)
def Wd.s (w : Wd) : Nat := w.1
def Wd.v (w : Wd) : Nat := w.2.1
def Wd.p (w : Wd) : Nat := w.2.2.1
def Wd.lim (w : Wd) : Nat := w.2.2.2.1
def Wd.c (w : Wd) : Nat := w.2.2.2.2.1
def Wd.d (w : Wd) : Nat → Nat := w.2.2.2.2.2.1
def Wd.fr (w : Wd) : Nat → Nat := w.2.2.2.2.2.2.1
def Wd.to (w : Wd) : Nat → Nat := w.2.2.2.2.2.2.2.1
def Wd.hm (w : Wd) : Nat → Nat := w.2.2.2.2.2.2.2.2.1
def Wd.kd (w : Wd) : Nat → Nat := w.2.2.2.2.2.2.2.2.2.1
def Wd.cr (w : Wd) : Nat → Nat := w.2.2.2.2.2.2.2.2.2.2.1
def Wd.oc (w : Wd) : Nat → Nat := w.2.2.2.2.2.2.2.2.2.2.2.1
def Wd.ou (w : Wd) : Nat → Nat := w.2.2.2.2.2.2.2.2.2.2.2.2.1
def Wd.ot (w : Wd) : Nat → Nat := w.2.2.2.2.2.2.2.2.2.2.2.2.2.1
def Wd.lv (w : Wd) : Nat → Nat := w.2.2.2.2.2.2.2.2.2.2.2.2.2.2.1
def Wd.ds (w : Wd) : Nat → Nat := w.2.2.2.2.2.2.2.2.2.2.2.2.2.2.2.1
def Wd.dc (w : Wd) : Nat → Nat := w.2.2.2.2.2.2.2.2.2.2.2.2.2.2.2.2.1
def Wd.df (w : Wd) : Nat → Nat := w.2.2.2.2.2.2.2.2.2.2.2.2.2.2.2.2.2.1
def Wd.dt (w : Wd) : Nat → Nat := w.2.2.2.2.2.2.2.2.2.2.2.2.2.2.2.2.2.2.1
def Wd.mc (w : Wd) : Nat → Nat := w.2.2.2.2.2.2.2.2.2.2.2.2.2.2.2.2.2.2.2.1
def Wd.mf (w : Wd) : Nat → Nat := w.2.2.2.2.2.2.2.2.2.2.2.2.2.2.2.2.2.2.2.2.1
def Wd.mt (w : Wd) : Nat → Nat := w.2.2.2.2.2.2.2.2.2.2.2.2.2.2.2.2.2.2.2.2.2.1
def Wd.mw (w : Wd) : Nat → Nat := w.2.2.2.2.2.2.2.2.2.2.2.2.2.2.2.2.2.2.2.2.2.2.1
def Wd.nd (w : Wd) : Nat → Nat := w.2.2.2.2.2.2.2.2.2.2.2.2.2.2.2.2.2.2.2.2.2.2.2.1
def Wd.pr (w : Wd) : Nat → Nat := w.2.2.2.2.2.2.2.2.2.2.2.2.2.2.2.2.2.2.2.2.2.2.2.2.1
def Wd.dp (w : Wd) : Nat → Nat := w.2.2.2.2.2.2.2.2.2.2.2.2.2.2.2.2.2.2.2.2.2.2.2.2.2.1
def Wd.dm (w : Wd) : Nat → Nat := w.2.2.2.2.2.2.2.2.2.2.2.2.2.2.2.2.2.2.2.2.2.2.2.2.2.2.1
def Wd.hd (w : Wd) : Nat → Nat := w.2.2.2.2.2.2.2.2.2.2.2.2.2.2.2.2.2.2.2.2.2.2.2.2.2.2.2
def Wd.mk (s : Nat) (v : Nat) (p : Nat) (lim : Nat) (c : Nat) (d : Nat → Nat) (fr : Nat → Nat) (to : Nat → Nat) (hm : Nat → Nat) (kd : Nat → Nat) (cr : Nat → Nat) (oc : Nat → Nat) (ou : Nat → Nat) (ot : Nat → Nat) (lv : Nat → Nat) (ds : Nat → Nat) (dc : Nat → Nat) (df : Nat → Nat) (dt : Nat → Nat) (mc : Nat → Nat) (mf : Nat → Nat) (mt : Nat → Nat) (mw : Nat → Nat) (nd : Nat → Nat) (pr : Nat → Nat) (dp : Nat → Nat) (dm : Nat → Nat) (hd : Nat → Nat) : Wd := (s, v, p, lim, c, d, fr, to, hm, kd, cr, oc, ou, ot, lv, ds, dc, df, dt, mc, mf, mt, mw, nd, pr, dp, dm, hd)
def Ok (w : Wd) : Prop := (w.s ≤ 12) ∧ (w.v ≤ 30) ∧ (w.p ≤ 60) ∧ (w.lim ≤ 120) ∧ (w.c ≤ 200) ∧ (∀ i, w.fr i ≤ 100000) ∧ (∀ i, w.to i ≤ 100000) ∧ (∀ i, w.hm i < 12) ∧ (∀ i, w.kd i ≤ 9) ∧ (∀ i, w.cr i ≤ 9) ∧ (∀ i, w.oc i ≤ 4) ∧ (∀ i, w.ou i ≤ 100000) ∧ (∀ i, w.ot i ≤ 100000) ∧ (∀ i, w.lv i < 12) ∧ (∀ i, w.ds i ≤ 120) ∧ (∀ i, w.dc i ≤ 6) ∧ (∀ i, w.df i ≤ 100000) ∧ (∀ i, w.dt i ≤ 100000) ∧ (∀ i, w.mc i ≤ 3) ∧ (∀ i, w.mf i ≤ 100000) ∧ (∀ i, w.mt i ≤ 100000) ∧ (∀ i, w.mw i < 12) ∧ (∀ i, w.nd i ≤ 60) ∧ (∀ i, w.pr i ≤ 9999) ∧ (∀ i, w.dp i < 60) ∧ (∀ i, w.dm i < 100000) ∧ (∀ i, w.hd i < 2 ^ w.s)
theorem Ok.s {w : Wd} (h : Ok w) : w.s ≤ 12 := h.1
theorem Ok.v {w : Wd} (h : Ok w) : w.v ≤ 30 := h.2.1
theorem Ok.p {w : Wd} (h : Ok w) : w.p ≤ 60 := h.2.2.1
theorem Ok.lim {w : Wd} (h : Ok w) : w.lim ≤ 120 := h.2.2.2.1
theorem Ok.c {w : Wd} (h : Ok w) : w.c ≤ 200 := h.2.2.2.2.1
theorem Ok.fr {w : Wd} (h : Ok w) : ∀ i, w.fr i ≤ 100000 := h.2.2.2.2.2.1
theorem Ok.to {w : Wd} (h : Ok w) : ∀ i, w.to i ≤ 100000 := h.2.2.2.2.2.2.1
theorem Ok.hm {w : Wd} (h : Ok w) : ∀ i, w.hm i < 12 := h.2.2.2.2.2.2.2.1
theorem Ok.kd {w : Wd} (h : Ok w) : ∀ i, w.kd i ≤ 9 := h.2.2.2.2.2.2.2.2.1
theorem Ok.cr {w : Wd} (h : Ok w) : ∀ i, w.cr i ≤ 9 := h.2.2.2.2.2.2.2.2.2.1
theorem Ok.oc {w : Wd} (h : Ok w) : ∀ i, w.oc i ≤ 4 := h.2.2.2.2.2.2.2.2.2.2.1
theorem Ok.ou {w : Wd} (h : Ok w) : ∀ i, w.ou i ≤ 100000 := h.2.2.2.2.2.2.2.2.2.2.2.1
theorem Ok.ot {w : Wd} (h : Ok w) : ∀ i, w.ot i ≤ 100000 := h.2.2.2.2.2.2.2.2.2.2.2.2.1
theorem Ok.lv {w : Wd} (h : Ok w) : ∀ i, w.lv i < 12 := h.2.2.2.2.2.2.2.2.2.2.2.2.2.1
theorem Ok.ds {w : Wd} (h : Ok w) : ∀ i, w.ds i ≤ 120 := h.2.2.2.2.2.2.2.2.2.2.2.2.2.2.1
theorem Ok.dc {w : Wd} (h : Ok w) : ∀ i, w.dc i ≤ 6 := h.2.2.2.2.2.2.2.2.2.2.2.2.2.2.2.1
theorem Ok.df {w : Wd} (h : Ok w) : ∀ i, w.df i ≤ 100000 := h.2.2.2.2.2.2.2.2.2.2.2.2.2.2.2.2.1
theorem Ok.dt {w : Wd} (h : Ok w) : ∀ i, w.dt i ≤ 100000 := h.2.2.2.2.2.2.2.2.2.2.2.2.2.2.2.2.2.1
theorem Ok.mc {w : Wd} (h : Ok w) : ∀ i, w.mc i ≤ 3 := h.2.2.2.2.2.2.2.2.2.2.2.2.2.2.2.2.2.2.1
theorem Ok.mf {w : Wd} (h : Ok w) : ∀ i, w.mf i ≤ 100000 := h.2.2.2.2.2.2.2.2.2.2.2.2.2.2.2.2.2.2.2.1
theorem Ok.mt {w : Wd} (h : Ok w) : ∀ i, w.mt i ≤ 100000 := h.2.2.2.2.2.2.2.2.2.2.2.2.2.2.2.2.2.2.2.2.1
theorem Ok.mw {w : Wd} (h : Ok w) : ∀ i, w.mw i < 12 := h.2.2.2.2.2.2.2.2.2.2.2.2.2.2.2.2.2.2.2.2.2.1
theorem Ok.nd {w : Wd} (h : Ok w) : ∀ i, w.nd i ≤ 60 := h.2.2.2.2.2.2.2.2.2.2.2.2.2.2.2.2.2.2.2.2.2.2.1
theorem Ok.pr {w : Wd} (h : Ok w) : ∀ i, w.pr i ≤ 9999 := h.2.2.2.2.2.2.2.2.2.2.2.2.2.2.2.2.2.2.2.2.2.2.2.1
theorem Ok.dp {w : Wd} (h : Ok w) : ∀ i, w.dp i < 60 := h.2.2.2.2.2.2.2.2.2.2.2.2.2.2.2.2.2.2.2.2.2.2.2.2.1
theorem Ok.dm {w : Wd} (h : Ok w) : ∀ i, w.dm i < 100000 := h.2.2.2.2.2.2.2.2.2.2.2.2.2.2.2.2.2.2.2.2.2.2.2.2.2.1
theorem Ok.hd {w : Wd} (h : Ok w) : ∀ i, w.hd i < 2 ^ w.s := h.2.2.2.2.2.2.2.2.2.2.2.2.2.2.2.2.2.2.2.2.2.2.2.2.2.2
theorem Ok.mk {w : Wd} (h0 : w.s ≤ 12) (h1 : w.v ≤ 30) (h2 : w.p ≤ 60) (h3 : w.lim ≤ 120) (h4 : w.c ≤ 200) (h5 : ∀ i, w.fr i ≤ 100000) (h6 : ∀ i, w.to i ≤ 100000) (h7 : ∀ i, w.hm i < 12) (h8 : ∀ i, w.kd i ≤ 9) (h9 : ∀ i, w.cr i ≤ 9) (h10 : ∀ i, w.oc i ≤ 4) (h11 : ∀ i, w.ou i ≤ 100000) (h12 : ∀ i, w.ot i ≤ 100000) (h13 : ∀ i, w.lv i < 12) (h14 : ∀ i, w.ds i ≤ 120) (h15 : ∀ i, w.dc i ≤ 6) (h16 : ∀ i, w.df i ≤ 100000) (h17 : ∀ i, w.dt i ≤ 100000) (h18 : ∀ i, w.mc i ≤ 3) (h19 : ∀ i, w.mf i ≤ 100000) (h20 : ∀ i, w.mt i ≤ 100000) (h21 : ∀ i, w.mw i < 12) (h22 : ∀ i, w.nd i ≤ 60) (h23 : ∀ i, w.pr i ≤ 9999) (h24 : ∀ i, w.dp i < 60) (h25 : ∀ i, w.dm i < 100000) (h26 : ∀ i, w.hd i < 2 ^ w.s) : Ok w := ⟨h0, h1, h2, h3, h4, h5, h6, h7, h8, h9, h10, h11, h12, h13, h14, h15, h16, h17, h18, h19, h20, h21, h22, h23, h24, h25, h26⟩
theorem lt6 {f : Nat → Nat} (h : ∀ i, f i ≤ 100000) : ∀ i, f i < 1000000 := fun i => by have := h i; omega
/-- the person's station at t -/
def plc (w : Wd) (t p : Nat) : Nat := match fi (fun j => tin w.mf w.mt t (p * 3 + j)) 0 (w.mc p) with
  | none => w.lv p
  | some j => w.mw (p * 3 + j)
def onD (w : Wd) (t p : Nat) : Bool := decide (w.ds p ≤ w.lim) && (fi (fun j => tin w.df w.dt t (p * 6 + j)) 0 (w.dc p)).isSome
/-- the person is on at the station -/
def isOn (w : Wd) (s t p : Nat) : Bool := tin w.fr w.to t s && onD w t p && decide (plc w t p = s)
theorem plc_lt {w : Wd} (ok : Ok w) (t p : Nat) : plc w t p < 12 := by
  unfold plc
  split
  · exact ok.lv _
  · exact ok.mw _
theorem fiZ_m1 (o : Option Nat) (h : ∀ j, o = some j → j < 2147483648) : fiZ o = -1 ↔ o = none := by
  cases o with
  | none => simp [fiZ]
  | some j => simp only [fiZ]; exact ⟨fun q => absurd q (zi_m1 (h j rfl)), fun q => by cases q⟩
theorem P_duty {n : Nat} {w : Wd} (hn : 100 ≤ n) (ok : Ok w) {p t : Nat} (hp : p < 60) (ht : t < 100000) : f_P_isOnDuty n 60 60 360 360 (nI w.lim) (nF w.ds) (nI 6) (nF w.dc) (nF w.df) (nF w.dt) (nI p) (nI t) = some (b01 (onD w t p)) := by
  have h1 := ok.ds p
  have h2 := ok.lim
  have h3 := ok.dc p
  unfold f_P_isOnDuty onD
  rw [T_indexAt (by omega) hp (by omega) (by omega) (by omega) (by omega) (by omega) (by omega) (lt6 ok.df) (lt6 ok.dt), zd]
  simp (disch := omega) only [zb, zc, nF_at, zi_lt]
  by_cases a1 : w.ds p ≤ w.lim
  · rw [if_neg (by omega)]
    cases hq : fi (fun j => tin w.df w.dt t (p * 6 + j)) 0 (w.dc p) with
    | none => simp [a1, fiZ, b01]
    | some j =>
      have := (fi_lt hq).2.1
      simp [a1, fiZ, b01, zi_m1 (show j < 2147483648 by omega)]
  · rw [if_pos (by omega)]
    simp [a1, b01]
theorem P_stat {n : Nat} {w : Wd} (hn : 100 ≤ n) (ok : Ok w) {p t : Nat} (hp : p < 60) (ht : t < 100000) : f_P_stationAt n 60 60 180 180 180 (nF w.lv) (nI 3) (nF w.mc) (nF w.mf) (nF w.mt) (nF w.mw) (nI p) (nI t) = some (nI (plc w t p)) := by
  have h3 := ok.mc p
  unfold f_P_stationAt plc
  rw [T_indexAt (by omega) hp (by omega) (by omega) (by omega) (by omega) (by omega) (by omega) (lt6 ok.mf) (lt6 ok.mt), zd]
  cases hq : fi (fun j => tin w.mf w.mt t (p * 3 + j)) 0 (w.mc p) with
  | none =>
    simp only [fiZ, if_true]
    simp (disch := omega) only [zb, zc, nF_at]
  | some j =>
    have := (fi_lt hq).2.1
    rw [if_neg (show ¬ fiZ (some j) = -1 from zi_m1 (show j < 2147483648 by omega)), show fiZ (some j) = nI j from rfl]
    simp (disch := omega) only [z_3, pk_mul, nI_add, zb, zc, nF_at]
theorem M_plc4 {n : Nat} {w : Wd} (ok : Ok w) {p t : Nat} (hp : p < 60) (ht : t < 100000) : ∀ (k q i : Nat), i + k = w.mc p → k < q → f_M_placeOf_4 n 60 60 180 180 180 (nF w.lv) (nF w.mc) (nF w.mw) (nF w.mf) (nF w.mt) (nI p) (nI t) q (nI (p * 3 + i)) = some (nI (match fi (fun j => tin w.mf w.mt t (p * 3 + j)) i k with | none => w.lv p | some j => w.mw (p * 3 + j))) := by
  intro k
  induction k with
  | zero =>
    intro q i hi hq
    obtain ⟨q, rfl⟩ : ∃ r, q = r + 1 := ⟨q - 1, by omega⟩
    have h3 := ok.mc p
    rw [f_M_placeOf_4_eq]
    simp (disch := omega) only [z_3, zb, zc, nF_at, pk_mul, nI_add, zi_le]
    rw [if_pos (by omega)]
    rfl
  | succ k ih =>
    intro q i hi hq
    obtain ⟨q, rfl⟩ : ∃ r, q = r + 1 := ⟨q - 1, by omega⟩
    have h3 := ok.mc p
    have h4 := ok.mf (p * 3 + i)
    have h5 := ok.mt (p * 3 + i)
    rw [f_M_placeOf_4_eq]
    simp (disch := omega) only [z_3, zb, zc, nF_at, pk_mul, nI_add, zi_le, zi_lt, sr_nm_eq, z_1]
    rw [if_neg (by omega), show p * 3 + i + 1 = p * 3 + (i + 1) from rfl, ih q (i + 1) (by omega) (by omega), fi_s]
    by_cases a1 : t < w.mf (p * 3 + i)
    · rw [if_pos a1, if_neg (show ¬ tin w.mf w.mt t (p * 3 + i) = true by unfold tin; simp; omega)]
    · rw [if_neg a1]
      by_cases a2 : w.mt (p * 3 + i) ≤ t
      · rw [if_pos a2, if_neg (show ¬ tin w.mf w.mt t (p * 3 + i) = true by unfold tin; simp; omega)]
      · rw [if_neg a2, if_pos (show tin w.mf w.mt t (p * 3 + i) = true by unfold tin; simp; omega)]
theorem M_plc {n : Nat} {w : Wd} (hn : 100 ≤ n) (ok : Ok w) {p t : Nat} (hp : p < 60) (ht : t < 100000) : f_M_placeOf n 60 60 180 180 180 (nF w.lv) (nF w.mc) (nF w.mw) (nF w.mf) (nF w.mt) (nI p) (nI t) = some (nI (plc w t p)) := by
  have h3 := ok.mc p
  unfold f_M_placeOf
  rw [sr_nm_eq, z_3, pk_mul, Nat.mul_comm 3 p]
  exact M_plc4 ok hp ht (w.mc p) n 0 (by omega) (by omega)
theorem M_on40 {n : Nat} {w : Wd} (ok : Ok w) {p t : Nat} (hp : p < 60) (ht : t < 100000) (x : Int32) : ∀ (k q i : Nat), i + k = w.dc p → k < q → f_M_isOn_40 n 12 12 60 60 60 360 360 60 180 180 180 (nI w.lim) (nF w.fr) (nF w.to) (nF w.lv) (nF w.ds) (nF w.dc) (nF w.df) (nF w.dt) (nF w.mc) (nF w.mw) (nF w.mf) (nF w.mt) (nI p) x (nI t) q (nI (p * 6 + i)) = some (b01 (fi (fun j => tin w.df w.dt t (p * 6 + j)) i k).isSome) := by
  intro k
  induction k with
  | zero =>
    intro q i hi hq
    obtain ⟨q, rfl⟩ : ∃ r, q = r + 1 := ⟨q - 1, by omega⟩
    have h3 := ok.dc p
    rw [f_M_isOn_40_eq]
    simp (disch := omega) only [z_6, zb, zc, nF_at, pk_mul, nI_add, zi_le]
    rw [if_pos (by omega)]
    rfl
  | succ k ih =>
    intro q i hi hq
    obtain ⟨q, rfl⟩ : ∃ r, q = r + 1 := ⟨q - 1, by omega⟩
    have h3 := ok.dc p
    have h4 := ok.df (p * 6 + i)
    have h5 := ok.dt (p * 6 + i)
    rw [f_M_isOn_40_eq]
    simp (disch := omega) only [z_6, zb, zc, nF_at, pk_mul, nI_add, zi_le, zi_lt, sr_nm_eq, z_1]
    rw [if_neg (by omega), show p * 6 + i + 1 = p * 6 + (i + 1) from rfl, ih q (i + 1) (by omega) (by omega), fi_s]
    by_cases a1 : t < w.df (p * 6 + i)
    · rw [if_pos a1, if_neg (show ¬ tin w.df w.dt t (p * 6 + i) = true by unfold tin; simp; omega)]
    · rw [if_neg a1]
      by_cases a2 : w.dt (p * 6 + i) ≤ t
      · rw [if_pos a2, if_neg (show ¬ tin w.df w.dt t (p * 6 + i) = true by unfold tin; simp; omega)]
      · rw [if_neg a2, if_pos (show tin w.df w.dt t (p * 6 + i) = true by unfold tin; simp; omega)]
        rfl
theorem M_isOn {n : Nat} {w : Wd} (hn : 100 ≤ n) (ok : Ok w) {s p t : Nat} (hs : s < 12) (hp : p < 60) (ht : t < 100000) : f_M_isOn n 12 12 60 60 60 360 360 60 180 180 180 (nI w.lim) (nF w.fr) (nF w.to) (nF w.lv) (nF w.ds) (nF w.dc) (nF w.df) (nF w.dt) (nF w.mc) (nF w.mw) (nF w.mf) (nF w.mt) (nI p) (nI s) (nI t) = some (b01 (isOn w s t p)) := by
  have h1 := ok.ds p
  have h2 := ok.lim
  have h3 := ok.dc p
  have h4 := plc_lt ok t p
  have e : f_M_isOn_40 n 12 12 60 60 60 360 360 60 180 180 180 (nI w.lim) (nF w.fr) (nF w.to) (nF w.lv) (nF w.ds) (nF w.dc) (nF w.df) (nF w.dt) (nF w.mc) (nF w.mw) (nF w.mf) (nF w.mt) (nI p) (nI s) (nI t) n (nI (6 * p)) = some (b01 (fi (fun j => tin w.df w.dt t (p * 6 + j)) 0 (w.dc p)).isSome) := by
    rw [Nat.mul_comm 6 p]
    exact M_on40 ok hp ht (nI s) (w.dc p) n 0 (by omega) (by omega)
  unfold f_M_isOn
  rw [M_plc hn ok hp ht, zd, M_there hs (by omega) ok.fr ok.to, zd]
  simp (disch := omega) only [zb, zc, nF_at, zi_le, zi_eq, z_6, pk_mul, sr_nm_eq]
  rw [e]
  unfold isOn onD
  by_cases a1 : plc w t p = s
  · rw [if_pos a1]
    cases h : tin w.fr w.to t s with
    | false => simp [b01]
    | true =>
      by_cases a2 : w.ds p ≤ w.lim
      · simp [a1, a2, b01]
      · simp [a1, a2, b01]
  · rw [if_neg a1]
    simp [a1, b01]
theorem M_cnt5 {n : Nat} {w : Wd} (hn : 100 ≤ n) (ok : Ok w) {s t : Nat} (hs : s < 12) (ht : t < 100000) : ∀ (k q a i : Nat), i + k = w.p → k < q → a ≤ i → f_M_count_5 n 12 12 60 60 60 360 360 60 180 180 180 (nI w.p) (nI w.lim) (nF w.fr) (nF w.to) (nF w.lv) (nF w.ds) (nF w.dc) (nF w.df) (nF w.dt) (nF w.mc) (nF w.mw) (nF w.mf) (nF w.mt) (nI s) (nI t) q (nI a) (nI i) = some (nI (a + cnt (isOn w s t) i k)) := by
  intro k
  induction k with
  | zero =>
    intro q a i hi hq ha
    obtain ⟨q, rfl⟩ : ∃ r, q = r + 1 := ⟨q - 1, by omega⟩
    have hp := ok.p
    rw [f_M_count_5_eq, if_pos (nI_le (by omega) (by omega))]
    rfl
  | succ k ih =>
    intro q a i hi hq ha
    obtain ⟨q, rfl⟩ : ∃ r, q = r + 1 := ⟨q - 1, by omega⟩
    have hp := ok.p
    rw [f_M_count_5_eq, M_isOn hn ok hs (show i < 60 by omega) ht, zd, zi_le _ _ (by omega) (by omega), if_neg (by omega)]
    simp (disch := omega) only [sr_nm_eq, z_1, nI_add]
    rw [ih q a (i + 1) (by omega) (by omega) (by omega), ih q (a + 1) (i + 1) (by omega) (by omega) (by omega), cnt_s]
    cases isOn w s t i with
    | false => rw [if_pos (show b01 false = 0 from rfl), if_neg (by decide), Nat.zero_add]
    | true => rw [if_neg (show ¬ b01 true = 0 by decide), if_pos rfl, Nat.add_assoc]
theorem M_cnt {n : Nat} {w : Wd} (hn : 100 ≤ n) (ok : Ok w) {s t : Nat} (hs : s < 12) (ht : t < 100000) : f_M_count n 12 12 60 60 60 360 360 60 180 180 180 (nI w.p) (nI w.lim) (nF w.fr) (nF w.to) (nF w.lv) (nF w.ds) (nF w.dc) (nF w.df) (nF w.dt) (nF w.mc) (nF w.mw) (nF w.mf) (nF w.mt) (nI s) (nI t) = some (nI (cnt (isOn w s t) 0 w.p)) := by
  have hp := ok.p
  have := M_cnt5 hn ok hs ht w.p n 0 0 (by omega) (by omega) (by omega)
  rw [Nat.zero_add] at this
  exact this
/-- the order of the row: distance, then number -/
def lto (d : Nat → Nat) (a b : Nat) : Prop := d a < d b ∨ (d a = d b ∧ a < b)
/-- R 0 .. R (m - 1) are the persons below i with P, in order -/
def Row (P : Nat → Bool) (d R : Nat → Nat) (m i : Nat) : Prop := (m = cnt P 0 i) ∧ (∀ j, j < m → R j < i ∧ P (R j) = true) ∧ (∀ a b, a < b → b < m → lto d (R a) (R b)) ∧ (∀ x, x < i → P x = true → ∃ j, j < m ∧ R j = x)
theorem Row.len {P : Nat → Bool} {d R : Nat → Nat} {m i : Nat} (h : Row P d R m i) : m = cnt P 0 i := h.1
theorem Row.mem {P : Nat → Bool} {d R : Nat → Nat} {m i : Nat} (h : Row P d R m i) : ∀ j, j < m → R j < i ∧ P (R j) = true := h.2.1
theorem Row.inc {P : Nat → Bool} {d R : Nat → Nat} {m i : Nat} (h : Row P d R m i) : ∀ a b, a < b → b < m → lto d (R a) (R b) := h.2.2.1
theorem Row.all {P : Nat → Bool} {d R : Nat → Nat} {m i : Nat} (h : Row P d R m i) : ∀ x, x < i → P x = true → ∃ j, j < m ∧ R j = x := h.2.2.2
theorem Row.mk {P : Nat → Bool} {d R : Nat → Nat} {m i : Nat} (h0 : m = cnt P 0 i) (h1 : ∀ j, j < m → R j < i ∧ P (R j) = true) (h2 : ∀ a b, a < b → b < m → lto d (R a) (R b)) (h3 : ∀ x, x < i → P x = true → ∃ j, j < m ∧ R j = x) : Row P d R m i := ⟨h0, h1, h2, h3⟩
theorem cnt_r (P : Nat → Bool) (i k : Nat) : cnt P i (k + 1) = cnt P i k + (if P (i + k) = true then 1 else 0) := by
  rw [cnt_add]
  simp [cnt]
theorem Row_skip {P : Nat → Bool} {d R : Nat → Nat} {m i : Nat} (h : Row P d R m i) (hp : P i = false) : Row P d R m (i + 1) := Row.mk
  (by rw [cnt_r, Nat.zero_add, hp, h.len]; simp)
  (fun j hj => ⟨by have := (h.mem j hj).1; omega, (h.mem j hj).2⟩)
  h.inc
  (fun x hx hq => by
    by_cases hxi : x = i
    · rw [hxi, hp] at hq; cases hq
    · exact h.all x (by omega) hq)
theorem Row_ins {P : Nat → Bool} {d R R' : Nat → Nat} {m i y : Nat} (h : Row P d R m i) (hp : P i = true) (hy : y ≤ m) (h0 : ∀ j, y ≤ j → j < m → d i < d (R j)) (h1 : ∀ j, j < y → d (R j) ≤ d i) (r0 : ∀ j, j < y → R' j = R j) (r1 : R' y = i) (r2 : ∀ j, y ≤ j → j < m → R' (j + 1) = R j) : Row P d R' (m + 1) (i + 1) := Row.mk
  (by rw [cnt_r, Nat.zero_add, hp, h.len]; simp)
  (fun j hj => by
    rcases Nat.lt_trichotomy j y with q | q | q
    · rw [r0 j q]
      exact ⟨by have := (h.mem j (by omega)).1; omega, (h.mem j (by omega)).2⟩
    · rw [q, r1]
      exact ⟨by omega, hp⟩
    · obtain ⟨k, rfl⟩ : ∃ k, j = k + 1 := ⟨j - 1, by omega⟩
      rw [r2 k (by omega) (by omega)]
      exact ⟨by have := (h.mem k (by omega)).1; omega, (h.mem k (by omega)).2⟩)
  (fun a b hab hb => by
    rcases Nat.lt_trichotomy b y with q | q | q
    · rw [r0 a (by omega), r0 b q]
      exact h.inc a b hab (by omega)
    · rw [q, r1, r0 a (by omega)]
      have := h1 a (by omega)
      have := (h.mem a (by omega)).1
      unfold lto
      omega
    · obtain ⟨k, rfl⟩ : ∃ k, b = k + 1 := ⟨b - 1, by omega⟩
      rw [r2 k (by omega) (by omega)]
      rcases Nat.lt_trichotomy a y with u | u | u
      · rw [r0 a u]
        exact h.inc a k (by omega) (by omega)
      · rw [u, r1]
        exact Or.inl (h0 k (by omega) (by omega))
      · obtain ⟨l, rfl⟩ : ∃ l, a = l + 1 := ⟨a - 1, by omega⟩
        rw [r2 l (by omega) (by omega)]
        exact h.inc l k (by omega) (by omega))
  (fun x hx hq => by
    by_cases hxi : x = i
    · exact ⟨y, by omega, by rw [hxi, r1]⟩
    · obtain ⟨j, hj, e⟩ := h.all x (by omega) hq
      rcases Nat.lt_or_ge j y with u | u
      · exact ⟨j, by omega, by rw [r0 j u, e]⟩
      · exact ⟨j + 1, by omega, by rw [r2 j u hj, e]⟩)
theorem P_ins5 {n m p : Nat} {d R : Nat → Nat} (hm : m < 60) (hp : p < 60) (hd : ∀ i, d i ≤ 120) (hR : ∀ j, j < m → R j < 60) :
    ∀ (y q : Nat) (F : Nat → Int32), y ≤ m → y < q → (∀ j, j < y → F j = nI (R j)) → (∀ j, y ≤ j → j < m → F (j + 1) = nI (R j)) → (∀ j, y ≤ j → j < m → d p < d (R j)) →
    ∃ (F' : Nat → Int32) (z : Nat), f_P_insertIntoRow_5 n 60 60 (nF d) (nI p) q (nI y) (nI m) F = some (nI (m + 1), F') ∧ z ≤ m ∧ (∀ j, j < z → F' j = nI (R j)) ∧ F' z = nI p ∧ (∀ j, z ≤ j → j < m → F' (j + 1) = nI (R j)) ∧ (∀ j, z ≤ j → j < m → d p < d (R j)) ∧ (z = 0 ∨ d (R (z - 1)) ≤ d p) := by
  intro y
  induction y with
  | zero =>
    intro q F hy hq h1 h2 h3
    obtain ⟨q, rfl⟩ : ∃ r, q = r + 1 := ⟨q - 1, by omega⟩
    refine ⟨upd F 0 (nI p), 0, ?_, by omega, fun j hj => by omega, if_pos rfl, fun j a b => ?_, h3, Or.inl rfl⟩
    · rw [f_P_insertIntoRow_5_eq]
      simp (disch := omega) only [z_0, z_1, zi_le, zb, zc, sr_nm_eq, nI_add]
      rw [if_pos (by omega)]
    · rw [← h2 j a b]
      exact if_neg (by omega)
  | succ y ih =>
    intro q F hy hq h1 h2 h3
    obtain ⟨q, rfl⟩ : ∃ r, q = r + 1 := ⟨q - 1, by omega⟩
    have hr := hR y (by omega)
    have hd1 := hd (R y)
    have hd2 := hd p
    have e1 : F y = nI (R y) := h1 y (by omega)
    rw [f_P_insertIntoRow_5_eq]
    simp (disch := omega) only [z_0, z_1, zi_le, zs, Nat.add_sub_cancel, zb, zc, sr_nm_eq, nI_add, e1, nF_at]
    rw [if_neg (by omega)]
    by_cases a1 : d (R y) ≤ d p
    · rw [if_pos a1]
      refine ⟨upd F (y + 1) (nI p), y + 1, rfl, hy, fun j hj => ?_, if_pos rfl, fun j a b => ?_, h3, Or.inr a1⟩
      · rw [← h1 j hj]
        exact if_neg (by omega)
      · rw [← h2 j a b]
        exact if_neg (by omega)
    · rw [if_neg a1, show nI (y + 1) + -nI 1 = nI y from (show nI (y + 1) + -nI 1 = nI (y + 1) - nI 1 by rw [Int32.sub_eq_add_neg]).trans (pk_sub (by omega))]
      refine ih q (upd F (y + 1) (nI (R y))) (by omega) (by omega) (fun j hj => ?_) (fun j a b => ?_) (fun j a b => ?_)
      · rw [← h1 j (by omega)]
        exact if_neg (by omega)
      · by_cases hj : j = y
        · rw [hj]
          exact if_pos rfl
        · rw [← h2 j (by omega) b]
          exact if_neg (by omega)
      · by_cases hj : j = y
        · rw [hj]; omega
        · exact h3 j (by omega) b
theorem P_ins {n m i : Nat} {P : Nat → Bool} {d R : Nat → Nat} {F : Nat → Int32} (hn : 100 ≤ n) (hi : i < 60) (hd : ∀ i, d i ≤ 120) (h : Row P d R m i) (hp : P i = true) (hF : ∀ j, j < m → F j = nI (R j)) :
    ∃ (F' : Nat → Int32) (R' : Nat → Nat), f_P_insertIntoRow n 60 60 (nI m) (nF d) F (nI i) = some (nI (m + 1), F') ∧ Row P d R' (m + 1) (i + 1) ∧ ∀ j, j < m + 1 → F' j = nI (R' j) := by
  have hm : m ≤ i := by rw [h.len]; exact cnt_le P i 0
  obtain ⟨F', z, e, hz, h1, h2, h3, h4, h5⟩ := P_ins5 (n := n) (show m < 60 by omega) hi hd (fun j hj => by have := (h.mem j hj).1; omega) m n F (by omega) (by omega) hF (fun j a b => by omega) (fun j a b => by omega)
  refine ⟨F', fun j => if j < z then R j else if j = z then i else R (j - 1), e, Row_ins h hp hz h4 ?_ ?_ ?_ ?_, ?_⟩
  · intro j hj
    rcases h5 with q | q
    · omega
    · by_cases hjz : j = z - 1
      · rw [hjz]; exact q
      · have := h.inc j (z - 1) (by omega) (by omega)
        unfold lto at this
        omega
  · intro j hj
    exact if_pos hj
  · show (if z < z then R z else if z = z then i else R (z - 1)) = i
    rw [if_neg (by omega), if_pos rfl]
  · intro j a b
    show (if j + 1 < z then R (j + 1) else if j + 1 = z then i else R (j + 1 - 1)) = R j
    rw [if_neg (by omega), if_neg (by omega)]
    rfl
  · intro j hj
    show F' j = nI (if j < z then R j else if j = z then i else R (j - 1))
    rcases Nat.lt_trichotomy j z with q | q | q
    · rw [if_pos q, h1 j q]
    · rw [if_neg (by omega), if_pos q, q, h2]
    · obtain ⟨k, rfl⟩ : ∃ k, j = k + 1 := ⟨j - 1, by omega⟩
      rw [if_neg (by omega), if_neg (by omega), h3 k (by omega) (by omega)]
      rfl
theorem P_gath8 {n : Nat} {w : Wd} (hn : 100 ≤ n) (ok : Ok w) {s t : Nat} (hs : s < 12) (ht : t < 100000) : ∀ (k q i m : Nat) (F : Nat → Int32) (R : Nat → Nat), i + k = w.p → k < q → Row (isOn w s t) w.ds R m i → (∀ j, j < m → F j = nI (R j)) →
    ∃ (F' : Nat → Int32) (R' : Nat → Nat) (m' : Nat), f_P_gather_8 n 60 60 60 360 360 60 180 180 180 60 (nI w.p) (nI w.lim) (nF w.lv) (nF w.ds) (nI 6) (nF w.dc) (nF w.df) (nF w.dt) (nI 3) (nF w.mc) (nF w.mf) (nF w.mt) (nF w.mw) (nI s) (nI t) (b01 (tin w.fr w.to t s)) q (nI i) (nI m) F = some (nI m', nI m', F') ∧ Row (isOn w s t) w.ds R' m' w.p ∧ ∀ j, j < m' → F' j = nI (R' j) := by
  intro k
  induction k with
  | zero =>
    intro q i m F R hi hq hR hF
    obtain ⟨q, rfl⟩ : ∃ r, q = r + 1 := ⟨q - 1, by omega⟩
    have hp := ok.p
    refine ⟨F, R, m, ?_, by rw [show w.p = i by omega]; exact hR, hF⟩
    rw [f_P_gather_8_eq, if_pos (nI_le (by omega) (by omega))]
  | succ k ih =>
    intro q i m F R hi hq hR hF
    obtain ⟨q, rfl⟩ : ∃ r, q = r + 1 := ⟨q - 1, by omega⟩
    have hp := ok.p
    have h4 := plc_lt ok t i
    rw [f_P_gather_8_eq, P_duty hn ok (show i < 60 by omega) ht, zd, P_stat hn ok (show i < 60 by omega) ht, zd, zi_le _ _ (by omega) (by omega), if_neg (by omega)]
    simp (disch := omega) only [sr_nm_eq, z_1, nI_add, zi_eq]
    have e : isOn w s t i = (tin w.fr w.to t s && onD w t i && decide (plc w t i = s)) := rfl
    cases c1 : tin w.fr w.to t s with
    | false =>
      rw [c1] at e ih
      rw [if_pos (show b01 false = 0 from rfl)]
      exact ih q (i + 1) m F R (by omega) (by omega) (Row_skip hR (by rw [e]; rfl)) hF
    | true =>
      rw [c1] at e ih
      rw [if_neg (show ¬ b01 true = 0 by decide)]
      cases c2 : onD w t i with
      | false =>
        rw [c2] at e
        rw [if_pos (show b01 false = 0 from rfl)]
        exact ih q (i + 1) m F R (by omega) (by omega) (Row_skip hR (by rw [e]; rfl)) hF
      | true =>
        rw [c2] at e
        rw [if_neg (show ¬ b01 true = 0 by decide)]
        by_cases c3 : plc w t i = s
        · rw [if_pos c3]
          obtain ⟨F', R', e1, hR', hF'⟩ := P_ins (n := n) hn (show i < 60 by omega) ok.ds hR (by rw [e]; simp [c3]) hF
          rw [e1, zd]
          exact ih q (i + 1) (m + 1) F' R' (by omega) (by omega) hR' hF'
        · rw [if_neg c3]
          exact ih q (i + 1) m F R (by omega) (by omega) (Row_skip hR (by rw [e]; simp [c3])) hF
theorem S_gath {n : Nat} {w : Wd} (hn : 100 ≤ n) (ok : Ok w) {s t : Nat} (hs : s < 12) (ht : t < 100000) (rl : Int32) (F : Nat → Int32) :
    ∃ (F' : Nat → Int32) (R : Nat → Nat) (m : Nat), f_S_gatherPersons n 12 12 60 60 60 360 360 60 180 180 180 60 (nF w.fr) (nF w.to) rl (nI w.p) (nI w.lim) (nF w.lv) (nF w.ds) (nI 6) (nF w.dc) (nF w.df) (nF w.dt) (nI 3) (nF w.mc) (nF w.mf) (nF w.mt) (nF w.mw) F (nI s) (nI t) = some (nI m, nI m, F') ∧ Row (isOn w s t) w.ds R m w.p ∧ m ≤ 60 ∧ ∀ j, j < m → F' j = nI (R j) := by
  have hp := ok.p
  obtain ⟨F', R, m, e, h1, h2⟩ := P_gath8 (n := n) hn ok hs ht w.p n 0 0 F (fun _ => 0) (by omega) (by omega) (Row.mk rfl (fun j hj => by omega) (fun a b _ hb => by omega) (fun x hx => by omega)) (fun j hj => by omega)
  refine ⟨F', R, m, ?_, h1, ?_, h2⟩
  · unfold f_S_gatherPersons f_P_gather
    rw [St_there hs (by omega) ok.fr ok.to, zd]
    have e' : f_P_gather_8 n 60 60 60 360 360 60 180 180 180 60 (nI w.p) (nI w.lim) (nF w.lv) (nF w.ds) (nI 6) (nF w.dc) (nF w.df) (nF w.dt) (nI 3) (nF w.mc) (nF w.mf) (nF w.mt) (nF w.mw) (nI s) (nI t) (b01 (tin w.fr w.to t s)) n 0 0 F = _ := e
    rw [e', zd]
  · have := cnt_le (isOn w s t) w.p 0
    rw [h1.len]
    omega
