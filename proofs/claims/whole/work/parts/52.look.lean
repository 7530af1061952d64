
theorem cnt_rm {Q : Nat → Bool} {x : Nat} (hq : Q x = true) : ∀ (k i : Nat), i ≤ x → x < i + k → cnt Q i k = cnt (fun y => Q y && decide (y ≠ x)) i k + 1
  | 0, i, h1, h2 => by omega
  | k + 1, i, h1, h2 => by
    rw [cnt_s, cnt_s]
    by_cases e : i = x
    · rw [cnt_ext (Q := fun y => Q y && decide (y ≠ x)) k (i + 1) (fun j a b => by simp; intro _; omega)]
      rw [e, hq]
      simp
      omega
    · rw [cnt_rm hq k (i + 1) (by omega) (by omega)]
      simp [e]
      omega
theorem cnt_bij {P : Nat → Bool} {d R : Nat → Nat} {m i : Nat} (h : Row P d R m i) : ∀ (c lo : Nat) (Q : Nat → Bool), lo + c = m → (∀ x, x < i → (Q x = true ↔ ∃ j, lo ≤ j ∧ j < m ∧ R j = x)) → cnt Q 0 i = c := by
  intro c
  induction c with
  | zero =>
    intro lo Q hl hq
    refine cnt_none i 0 (fun x _ hx => ?_)
    cases e : Q x with
    | false => rfl
    | true =>
      obtain ⟨j, a, b, -⟩ := (hq x (by omega)).mp e
      omega
  | succ c ih =>
    intro lo Q hl hq
    have hx := (h.mem lo (by omega)).1
    rw [cnt_rm (x := R lo) ((hq (R lo) hx).mpr ⟨lo, Nat.le_refl _, by omega, rfl⟩) i 0 (by omega) (by omega)]
    congr 1
    refine ih (lo + 1) _ (by omega) (fun x hx => ?_)
    constructor
    · intro e
      simp at e
      obtain ⟨j, a, b, e2⟩ := (hq x hx).mp e.1
      refine ⟨j, ?_, b, e2⟩
      rcases Nat.eq_or_lt_of_le a with u | u
      · exact absurd (by rw [← e2, u]) e.2
      · exact u
    · rintro ⟨j, a, b, e2⟩
      simp
      refine ⟨(hq x hx).mpr ⟨j, by omega, b, e2⟩, fun e3 => ?_⟩
      have := Row_inj h b (show lo < m by omega) (e2.trans e3)
      omega
theorem left_eq {P : Nat → Bool} {d R : Nat → Nat} {m i a : Nat} {T : Nat → Int32} (h : Row P d R m i) (ha : a ≤ m) (hT : ∀ j, j < m → T (R j) = b01 (decide (j < a))) : cnt (fun y => decide (T y = 0) && P y) 0 i = m - a := by
  refine cnt_bij h (m - a) a _ (by omega) (fun x hx => ?_)
  constructor
  · intro e
    simp at e
    obtain ⟨j, hj, rfl⟩ := h.all x hx e.2
    refine ⟨j, ?_, hj, rfl⟩
    rcases Nat.lt_or_ge j a with u | u
    · have := hT j hj
      rw [e.1] at this
      simp [u, b01] at this
    · exact u
  · rintro ⟨j, hj, hm, rfl⟩
    simp
    refine ⟨?_, (h.mem j hm).2⟩
    rw [hT j hm]
    simp [b01]
    omega
theorem M_man36 {n : Nat} {w : Wd} (hn : 100 ≤ n) (ok : Ok w) {v t x : Nat} (SF : Nat → Int32) (hv : v < 30) (ht : t < 100000) (hx : x ≤ 9) (T Mn Lo Fa : Nat → Int32) : ∀ (k q c i : Nat), i + k = w.p → k < q → c ≤ i → f_M_man_36 n 12 12 30 30 60 60 60 360 360 60 180 180 180 30 60 30 30 30 (nI w.p) (nI w.lim) (nF w.fr) (nF w.to) (nF w.hm) (nF w.cr) (nF w.lv) (nF w.ds) (nF w.dc) (nF w.df) (nF w.dt) (nF w.mc) (nF w.mw) (nF w.mf) (nF w.mt) SF (nI v) (nI t) q (nI x) (nI c) (nI i) T Mn Lo Fa = if x ≤ c + cnt (fun y => decide (T y = 0) && isOn w (w.hm v) t y) i k then f_M_man_98 n 12 12 30 30 60 60 60 360 360 60 180 180 180 30 60 30 30 30 (nI w.p) (nI w.lim) (nF w.fr) (nF w.to) (nF w.hm) (nF w.cr) (nF w.lv) (nF w.ds) (nF w.dc) (nF w.df) (nF w.dt) (nF w.mc) (nF w.mw) (nF w.mf) (nF w.mt) SF (nI v) (nI t) n (nI x) 0 T Mn (upd Lo v 60) Fa else some (T, Mn, Lo, Fa) := by
  intro k
  induction k with
  | zero =>
    intro q c i hi hq hc
    obtain ⟨q, rfl⟩ : ∃ r, q = r + 1 := ⟨q - 1, by omega⟩
    have hp := ok.p
    rw [f_M_man_36_eq, if_pos (nI_le (by omega) (by omega)), zi_le _ _ (by omega) (by omega), zb _ hv (by omega), zc (by omega)]
    rfl
  | succ k ih =>
    intro q c i hi hq hc
    obtain ⟨q, rfl⟩ : ∃ r, q = r + 1 := ⟨q - 1, by omega⟩
    have hp := ok.p
    rw [f_M_man_36_eq, zi_le (a := w.p) (b := i) _ _ (by omega) (by omega), if_neg (by omega), zb _ (show i < 60 by omega) (by omega), zc (show i < 2147483648 by omega), zb _ hv (by omega), zc (show v < 2147483648 by omega), nF_at, M_isOn hn ok (ok.hm v) (show i < 60 by omega) ht, zd]
    simp only [sr_nm_eq, z_1, nI_add]
    rw [ih q c (i + 1) (by omega) (by omega) (by omega), ih q (c + 1) (i + 1) (by omega) (by omega) (by omega), cnt_s]
    by_cases e : T i = 0
    · rw [if_pos e]
      cases e2 : isOn w (w.hm v) t i with
      | false => simp [e, b01]
      | true => simp [e, b01, Nat.add_assoc]
    · rw [if_neg e]
      simp [e]
theorem wnt_pos {w : Wd} {t v : Nat} (hG : Gsp w (spF w t) (spI w t) w.v) (hout : outB w t v = false) (hor : 0 < w.cr v ∨ spF w t v ≠ none) : 0 < wnt w t v ∧ ((0 < w.cr v ∧ wnt w t v = w.cr v) ∨ ∃ a, ¬ 0 < w.cr v ∧ a < w.v ∧ spF w t v = some a ∧ wnt w t v = w.cr a) := by
  unfold wnt
  rw [hout, if_neg (show ¬ false = true by decide)]
  cases e : spF w t v with
  | none =>
    rcases hor with q | q
    · exact ⟨q, Or.inl ⟨q, rfl⟩⟩
    · exact absurd e q
  | some a =>
    have := hG.1 v a e
    exact ⟨this.2.1, Or.inr ⟨a, by omega, this.1, rfl, rfl⟩⟩
theorem M_man {n : Nat} {w : Wd} (hn : 100 ≤ n) (ok : Ok w) {v t m a : Nat} {R : Nat → Nat} {SF T Mn Lo Fa : Nat → Int32} (hv : v < w.v) (ht : t < 100000) (hR : Row (isOn w (w.hm v) t) w.ds R m w.p) (hm : m ≤ 60) (ha : a ≤ m) (hG : Gsp w (spF w t) (spI w t) w.v) (hF : ∀ j, j < w.v → SF j = fiZ (spF w t j)) (hout : outB w t v = false) (hor : 0 < w.cr v ∨ spF w t v ≠ none) (hT : ∀ i, i < m → T (R i) = b01 (decide (i < a))) (hM : Mn v = 0) (hL : Lo v = -1) (hA : Fa v = 0) :
    ∃ T' Mn' Lo' Fa' : Nat → Int32, f_M_man n 12 12 30 30 60 60 60 360 360 60 180 180 180 30 60 30 30 30 (nI w.p) (nI w.lim) (nF w.fr) (nF w.to) (nF w.hm) (nF w.cr) (nF w.lv) (nF w.ds) (nF w.dc) (nF w.df) (nF w.dt) (nF w.mc) (nF w.mw) (nF w.mf) (nF w.mt) SF T Mn Lo Fa (nI v) (nI t) = some (T', Mn', Lo', Fa') ∧ (∀ i, i < m → T' (R i) = b01 (decide (i < a + tkn m a (wnt w t v)))) ∧ (∀ y, (∀ i, i < m → R i ≠ y) → T' y = T y) ∧ Mn' v = nI (tkn m a (wnt w t v)) ∧ Lo' v = (if tkn m a (wnt w t v) = 0 then -1 else nI (mnR R a (tkn m a (wnt w t v)))) ∧ Fa' v = nI (if tkn m a (wnt w t v) = 0 then 0 else w.ds (R (a + tkn m a (wnt w t v) - 1))) ∧ (∀ u, u ≠ v → Mn' u = Mn u) ∧ (∀ u, u ≠ v → Lo' u = Lo u) ∧ (∀ u, u ≠ v → Fa' u = Fa u) := by
  have h30 := ok.v
  have hp := ok.p
  have hw := wnt_le ok t v
  have hcv := ok.cr v
  obtain ⟨hpos, hcase⟩ := wnt_pos hG hout hor
  have e1 : f_M_man n 12 12 30 30 60 60 60 360 360 60 180 180 180 30 60 30 30 30 (nI w.p) (nI w.lim) (nF w.fr) (nF w.to) (nF w.hm) (nF w.cr) (nF w.lv) (nF w.ds) (nF w.dc) (nF w.df) (nF w.dt) (nF w.mc) (nF w.mw) (nF w.mf) (nF w.mt) SF T Mn Lo Fa (nI v) (nI t) = f_M_man_36 n 12 12 30 30 60 60 60 360 360 60 180 180 180 30 60 30 30 30 (nI w.p) (nI w.lim) (nF w.fr) (nF w.to) (nF w.hm) (nF w.cr) (nF w.lv) (nF w.ds) (nF w.dc) (nF w.df) (nF w.dt) (nF w.mc) (nF w.mw) (nF w.mf) (nF w.mt) SF (nI v) (nI t) n (nI (wnt w t v)) (nI 0) (nI 0) T Mn Lo Fa := by
    unfold f_M_man
    rw [zb _ (show v < 30 by omega) (by omega), zc (show v < 2147483648 by omega), nF_at, z_0, zi_le _ _ (by omega) (by omega)]
    rcases hcase with ⟨q1, q2⟩ | ⟨b, q1, q2, q3, q4⟩
    · rw [if_neg (by omega), zb _ (show v < 30 by omega) (by omega), sr_nm_eq, q2]
    · rw [if_pos (by omega), zb _ (show v < 30 by omega) (by omega), hF v hv, q3, show fiZ (some b) = nI b from rfl, zb _ (show b < 30 by omega) (by omega), zc (by omega), nF_at, sr_nm_eq, q4]
  rw [e1, M_man36 hn ok SF (show v < 30 by omega) ht hw T Mn Lo Fa w.p n 0 0 (by omega) (by omega) (by omega), Nat.zero_add, left_eq hR ha hT]
  by_cases q : wnt w t v ≤ m - a
  · rw [if_pos q, show tkn m a (wnt w t v) = wnt w t v from if_pos q]
    obtain ⟨T', Lo', Fa', c1, c2, c3, c4, c5, c6, c7⟩ := M_man98 (x := wnt w t v) hn ok SF (show v < 30 by omega) ht hR hm (show a + wnt w t v ≤ m by omega) Mn (wnt w t v) n 0 T (upd Lo v 60) Fa (by omega) (by omega) hT (if_pos rfl) hA
    refine ⟨T', upd Mn v (nI (wnt w t v)), Lo', Fa', c1, c2, c3, if_pos rfl, ?_, c5, fun u hu => if_neg hu, fun u hu => (c6 u hu).trans (if_neg hu), c7⟩
    rw [c4, if_neg (by omega)]
  · rw [if_neg q, show tkn m a (wnt w t v) = 0 from if_neg q]
    exact ⟨T, Mn, Lo, Fa, rfl, hT, fun _ _ => rfl, hM, hL, hA, fun _ _ => rfl, fun _ _ => rfl, fun _ _ => rfl⟩
def tkv (w : Wd) (t : Nat) (mm : Nat → Nat) (u : Nat) : Nat := tkn (mm (w.hm u)) (tbf w t (mm (w.hm u)) (w.hm u) 0 0 u) (wnt w t u)
/-- what is told of vehicle u -/
def Rs (w : Wd) (t : Nat) (RR : Nat → Nat → Nat) (mm : Nat → Nat) (Mn Lo Fa : Nat → Int32) (u : Nat) : Prop :=
  Mn u = nI (tkv w t mm u) ∧ Lo u = (if tkv w t mm u = 0 then -1 else nI (mnR (RR (w.hm u)) (tbf w t (mm (w.hm u)) (w.hm u) 0 0 u) (tkv w t mm u))) ∧ Fa u = nI (if tkv w t mm u = 0 then 0 else w.ds (RR (w.hm u) (tbf w t (mm (w.hm u)) (w.hm u) 0 0 u + tkv w t mm u - 1)))
theorem Rs_other {w : Wd} {t : Nat} {RR : Nat → Nat → Nat} {mm : Nat → Nat} {Mn Lo Fa Mn' Lo' Fa' : Nat → Int32} {u : Nat} (h : Rs w t RR mm Mn Lo Fa u) (h1 : Mn' u = Mn u) (h2 : Lo' u = Lo u) (h3 : Fa' u = Fa u) : Rs w t RR mm Mn' Lo' Fa' u := ⟨h1.trans h.1, h2.trans h.2.1, h3.trans h.2.2⟩
theorem M_look30 {n : Nat} {w : Wd} (hn : 100 ≤ n) (ok : Ok w) {t : Nat} {RR : Nat → Nat → Nat} {mm : Nat → Nat} {SF SI : Nat → Int32} (ht : t < 100000) (hRR : ∀ h, Row (isOn w h t) w.ds (RR h) (mm h) w.p) (hG : Gsp w (spF w t) (spI w t) w.v) (hF : ∀ j, j < w.v → SF j = fiZ (spF w t j)) : ∀ (k q i : Nat) (T Mn Lo Fa : Nat → Int32), i + k = w.v → k < q → (∀ h j, j < mm h → T (RR h j) = b01 (decide (j < tbf w t (mm h) h 0 0 i))) → (∀ u, u < i → Rs w t RR mm Mn Lo Fa u) →
    ∃ T' Mn' Lo' Fa' : Nat → Int32, f_M_look_30 n 12 12 30 30 30 30 120 120 60 60 60 360 360 60 180 180 180 30 30 60 30 30 30 (nI w.v) (nI w.p) (nI w.lim) (nF w.fr) (nF w.to) (nF w.hm) (nF w.kd) (nF w.cr) (nF w.oc) (nF w.ou) (nF w.ot) (nF w.lv) (nF w.ds) (nF w.dc) (nF w.df) (nF w.dt) (nF w.mc) (nF w.mw) (nF w.mf) (nF w.mt) (nI t) q (nI i) SF SI T Mn Lo Fa = some (SF, SI, T', Mn', Lo', Fa') ∧ ∀ u, u < w.v → Rs w t RR mm Mn' Lo' Fa' u := by
  intro k
  induction k with
  | zero =>
    intro q i T Mn Lo Fa hi hq hT hS
    obtain ⟨q, rfl⟩ : ∃ r, q = r + 1 := ⟨q - 1, by omega⟩
    have h30 := ok.v
    refine ⟨T, Mn, Lo, Fa, ?_, fun u hu => hS u (by omega)⟩
    rw [f_M_look_30_eq, if_pos (nI_le (by omega) (by omega))]
  | succ k ih =>
    intro q i T Mn Lo Fa hi hq hT hS
    obtain ⟨q, rfl⟩ : ∃ r, q = r + 1 := ⟨q - 1, by omega⟩
    have h30 := ok.v
    have hp := ok.p
    have hcr := ok.cr i
    have hm60 : ∀ h, mm h ≤ 60 := fun h => by rw [(hRR h).len]; have := cnt_le (isOn w h t) w.p 0; omega
    have hale := tbf_le (w := w) (t := t) (m := mm (w.hm i)) (h := w.hm i) i 0 0 (Nat.zero_le _)
    have hskip : tkv w t mm i = 0 → ∃ T' Mn' Lo' Fa' : Nat → Int32, f_M_look_30 n 12 12 30 30 30 30 120 120 60 60 60 360 360 60 180 180 180 30 30 60 30 30 30 (nI w.v) (nI w.p) (nI w.lim) (nF w.fr) (nF w.to) (nF w.hm) (nF w.kd) (nF w.cr) (nF w.oc) (nF w.ou) (nF w.ot) (nF w.lv) (nF w.ds) (nF w.dc) (nF w.df) (nF w.dt) (nF w.mc) (nF w.mw) (nF w.mf) (nF w.mt) (nI t) q (nI (i + 1)) SF SI T (upd Mn i 0) (upd Lo i (-1)) (upd Fa i 0) = some (SF, SI, T', Mn', Lo', Fa') ∧ ∀ u, u < w.v → Rs w t RR mm Mn' Lo' Fa' u := by
      intro hz
      refine ih q (i + 1) T _ _ _ (by omega) (by omega) (fun h j hj => ?_) (fun u hu => ?_)
      · rw [hT h j hj, tbf_r, Nat.zero_add]
        by_cases e : w.hm i = h
        · rw [if_pos e]
          have hz' : tkn (mm h) (tbf w t (mm h) h 0 0 i) (wnt w t i) = 0 := by
            rw [← e]
            exact hz
          rw [hz']
          rfl
        · rw [if_neg e]
      · by_cases e : u = i
        · rw [e]
          refine ⟨?_, ?_, ?_⟩
          · rw [hz]
            exact if_pos rfl
          · rw [hz]
            exact if_pos rfl
          · rw [hz]
            exact if_pos rfl
        · exact Rs_other (hS u (by omega)) (if_neg e) (if_neg e) (if_neg e)
    have hman : outB w t i = false → (0 < w.cr i ∨ spF w t i ≠ none) → ∃ o, f_M_man n 12 12 30 30 60 60 60 360 360 60 180 180 180 30 60 30 30 30 (nI w.p) (nI w.lim) (nF w.fr) (nF w.to) (nF w.hm) (nF w.cr) (nF w.lv) (nF w.ds) (nF w.dc) (nF w.df) (nF w.dt) (nF w.mc) (nF w.mw) (nF w.mf) (nF w.mt) SF T (upd Mn i 0) (upd Lo i (-1)) (upd Fa i 0) (nI i) (nI t) = some o ∧ ∃ T' Mn' Lo' Fa' : Nat → Int32, f_M_look_30 n 12 12 30 30 30 30 120 120 60 60 60 360 360 60 180 180 180 30 30 60 30 30 30 (nI w.v) (nI w.p) (nI w.lim) (nF w.fr) (nF w.to) (nF w.hm) (nF w.kd) (nF w.cr) (nF w.oc) (nF w.ou) (nF w.ot) (nF w.lv) (nF w.ds) (nF w.dc) (nF w.df) (nF w.dt) (nF w.mc) (nF w.mw) (nF w.mf) (nF w.mt) (nI t) q (nI (i + 1)) SF SI o.1 o.2.1 o.2.2.1 o.2.2.2 = some (SF, SI, T', Mn', Lo', Fa') ∧ ∀ u, u < w.v → Rs w t RR mm Mn' Lo' Fa' u := by
      intro hout hor
      obtain ⟨T1, Mn1, Lo1, Fa1, c1, c2, c3, c4, c5, c6, c7, c8, c9⟩ := M_man (n := n) (SF := SF) (T := T) (Mn := upd Mn i 0) (Lo := upd Lo i (-1)) (Fa := upd Fa i 0) hn ok (show i < w.v by omega) ht (hRR (w.hm i)) (hm60 _) hale hG hF hout hor (hT (w.hm i)) (if_pos rfl) (if_pos rfl) (if_pos rfl)
      refine ⟨(T1, Mn1, Lo1, Fa1), c1, ?_⟩
      refine ih q (i + 1) T1 Mn1 Lo1 Fa1 (by omega) (by omega) (fun h j hj => ?_) (fun u hu => ?_)
      · rw [tbf_r, Nat.zero_add]
        by_cases e : w.hm i = h
        · rw [if_pos e]
          subst e
          exact c2 j hj
        · rw [if_neg e, c3 (RR h j) (fun b hb eb => ?_), hT h j hj]
          have k1 := ((hRR h).mem j hj).2
          have k2 := ((hRR (w.hm i)).mem b hb).2
          rw [eb] at k2
          unfold isOn at k1 k2
          simp at k1 k2
          exact e (k2.2.symm.trans k1.2)
      · by_cases e : u = i
        · rw [e]
          exact ⟨c4, c5, c6⟩
        · exact Rs_other (hS u (by omega)) ((c7 u e).trans (if_neg e)) ((c8 u e).trans (if_neg e)) ((c9 u e).trans (if_neg e))
    rw [f_M_look_30_eq, zi_le _ _ (by omega) (by omega), if_neg (by omega)]
    simp (disch := omega) only [zb, zc, nF_at, sr_nm_eq]
    rw [M_there (ok.hm i) (by omega) ok.fr ok.to, zd, M_isOut hn ok (show i < 30 by omega) ht, zd, hF i (by omega), z_1, nI_add, zm1]
    cases c1 : tin w.fr w.to t (w.hm i) with
    | false =>
      rw [if_pos (show b01 false = 0 from rfl)]
      refine hskip ?_
      have hm0 : mm (w.hm i) = 0 := by
        rw [(hRR (w.hm i)).len]
        refine cnt_none w.p 0 (fun j _ _ => ?_)
        unfold isOn
        rw [c1]
        rfl
      unfold tkv tkn
      rw [hm0]
      split <;> omega
    | true =>
      rw [if_neg (show ¬ b01 true = 0 by decide)]
      cases c2 : outB w t i with
      | true =>
        rw [if_neg (show ¬ b01 true = 0 by decide)]
        refine hskip ?_
        unfold tkv tkn
        rw [show wnt w t i = 0 by unfold wnt; rw [c2, if_pos rfl]]
        split <;> rfl
      | false =>
        rw [if_pos (show b01 false = 0 from rfl)]
        by_cases c3 : 0 < w.cr i
        · rw [if_pos (by rw [z_0, nI_ltI (by omega) (by omega)]; exact c3)]
          obtain ⟨o, d1, d2⟩ := hman c2 (Or.inl c3)
          rw [d1, zd]
          exact d2
        · rw [if_neg (by rw [z_0, nI_ltI (by omega) (by omega)]; exact c3)]
          cases c4 : spF w t i with
          | none =>
            rw [if_pos (show fiZ none < 0 by decide)]
            refine hskip ?_
            unfold tkv tkn
            rw [show wnt w t i = 0 by unfold wnt; rw [c2, c4, if_neg (show ¬ false = true by decide)]; show w.cr i = 0; omega]
            split <;> rfl
          | some b =>
            have := (hG.1 i b c4).1
            rw [if_neg (show ¬ fiZ (some b) < 0 from nI_pos (show b < 2147483648 by omega))]
            obtain ⟨o, d1, d2⟩ := hman c2 (Or.inr (by rw [c4]; simp))
            rw [d1, zd]
            exact d2
theorem M_look7 {n : Nat} {w : Wd} (hn : 100 ≤ n) (ok : Ok w) {t : Nat} {RR : Nat → Nat → Nat} {mm : Nat → Nat} {SF SI : Nat → Int32} (ht : t < 100000) (hRR : ∀ h, Row (isOn w h t) w.ds (RR h) (mm h) w.p) (hG : Gsp w (spF w t) (spI w t) w.v) (hF : ∀ j, j < w.v → SF j = fiZ (spF w t j)) (Mn Lo Fa : Nat → Int32) : ∀ (k q i : Nat) (T : Nat → Int32), i + k = w.p → k < q → (∀ x, x < i → T x = 0) →
    ∃ T' Mn' Lo' Fa' : Nat → Int32, f_M_look_7 n 12 12 30 30 30 30 120 120 60 60 60 360 360 60 180 180 180 30 30 60 30 30 30 (nI w.v) (nI w.p) (nI w.lim) (nF w.fr) (nF w.to) (nF w.hm) (nF w.kd) (nF w.cr) (nF w.oc) (nF w.ou) (nF w.ot) (nF w.lv) (nF w.ds) (nF w.dc) (nF w.df) (nF w.dt) (nF w.mc) (nF w.mw) (nF w.mf) (nF w.mt) (nI t) q (nI i) SF SI T Mn Lo Fa = some (SF, SI, T', Mn', Lo', Fa') ∧ ∀ u, u < w.v → Rs w t RR mm Mn' Lo' Fa' u := by
  intro k
  induction k with
  | zero =>
    intro q i T hi hq hT
    obtain ⟨q, rfl⟩ : ∃ r, q = r + 1 := ⟨q - 1, by omega⟩
    have hp := ok.p
    have h30 := ok.v
    rw [f_M_look_7_eq, if_pos (nI_le (by omega) (by omega))]
    exact M_look30 hn ok ht hRR hG hF w.v n 0 T Mn Lo Fa (by omega) (by omega) (fun h j hj => by rw [hT (RR h j) (by have := ((hRR h).mem j hj).1; omega)]; simp [tbf, b01]) (fun u hu => by omega)
  | succ k ih =>
    intro q i T hi hq hT
    obtain ⟨q, rfl⟩ : ∃ r, q = r + 1 := ⟨q - 1, by omega⟩
    have hp := ok.p
    have e1 : vp_nar .boolean 0 = 0 := rfl
    rw [f_M_look_7_eq, zi_le _ _ (by omega) (by omega), if_neg (by omega), zb _ (show i < 60 by omega) (by omega), zc (by omega), sr_nm_eq, z_1, nI_add, e1]
    refine ih q (i + 1) (upd T i 0) (by omega) (by omega) (fun x hx => ?_)
    unfold upd
    by_cases e : x = i
    · rw [if_pos e]
    · rw [if_neg e]
      exact hT x (by omega)
theorem M_look {n : Nat} {w : Wd} (hn : 100 ≤ n) (ok : Ok w) {t : Nat} {RR : Nat → Nat → Nat} {mm : Nat → Nat} (ht : t < 100000) (hRR : ∀ h, Row (isOn w h t) w.ds (RR h) (mm h) w.p) (hG : Gsp w (spF w t) (spI w t) w.v) (SF SI T Mn Lo Fa : Nat → Int32) :
    ∃ SF' SI' T' Mn' Lo' Fa' : Nat → Int32, f_M_look n 12 12 30 30 30 30 120 120 60 60 60 360 360 60 180 180 180 30 30 60 30 30 30 (nI w.v) (nI w.p) (nI w.lim) (nF w.fr) (nF w.to) (nF w.hm) (nF w.kd) (nF w.cr) (nF w.oc) (nF w.ou) (nF w.ot) (nF w.lv) (nF w.ds) (nF w.dc) (nF w.df) (nF w.dt) (nF w.mc) (nF w.mw) (nF w.mf) (nF w.mt) SF SI T Mn Lo Fa (nI t) = some (SF', SI', T', Mn', Lo', Fa') ∧ (∀ u, u < w.v → SF' u = fiZ (spF w t u)) ∧ (∀ u, u < w.v → SI' u = fiZ (spI w t u)) ∧ ∀ u, u < w.v → Rs w t RR mm Mn' Lo' Fa' u := by
  have hp := ok.p
  obtain ⟨SF', SI', e1, h1, h2⟩ := M_sp (n := n) hn ok ht SF SI
  obtain ⟨T', Mn', Lo', Fa', e2, h3⟩ := M_look7 (n := n) (SI := SI') hn ok ht hRR hG h1 Mn Lo Fa w.p n 0 T (by omega) (by omega) (fun x hx => by omega)
  refine ⟨SF', SI', T', Mn', Lo', Fa', ?_, h1, h2, h3⟩
  unfold f_M_look
  rw [e1, zd]
  exact e2
theorem Row_ex (P : Nat → Bool) (d : Nat → Nat) : ∀ i, ∃ R m, Row P d R m i
  | 0 => ⟨fun _ => 0, 0, Row.mk rfl (fun j hj => by omega) (fun a b _ hb => by omega) (fun x hx => by omega)⟩
  | i + 1 => by
    obtain ⟨R, m, h⟩ := Row_ex P d i
    cases hp : P i with
    | false => exact ⟨R, m, Row_skip h hp⟩
    | true =>
      have hz : ∀ y, y ≤ m → (∀ j, y ≤ j → j < m → d i < d (R j)) → ∃ z, z ≤ m ∧ (∀ j, z ≤ j → j < m → d i < d (R j)) ∧ ∀ j, j < z → d (R j) ≤ d i := by
        intro y
        induction y with
        | zero => exact fun h1 h2 => ⟨0, h1, h2, fun j hj => by omega⟩
        | succ y ihy =>
          intro h1 h2
          by_cases e : d (R y) ≤ d i
          · refine ⟨y + 1, h1, h2, fun j hj => ?_⟩
            by_cases ej : j = y
            · rw [ej]; exact e
            · have := h.inc j y (by omega) (by omega)
              unfold lto at this
              omega
          · refine ihy (by omega) (fun j a b => ?_)
            by_cases ej : j = y
            · rw [ej]; omega
            · exact h2 j (by omega) b
      obtain ⟨z, z1, z2, z3⟩ := hz m (Nat.le_refl _) (fun j a b => by omega)
      refine ⟨fun j => if j < z then R j else if j = z then i else R (j - 1), m + 1, Row_ins h hp z1 z2 z3 (fun j hj => if_pos hj) ?_ ?_⟩
      · show (if z < z then R z else if z = z then i else R (z - 1)) = i
        rw [if_neg (by omega), if_pos rfl]
      · intro j a b
        show (if j + 1 < z then R (j + 1) else if j + 1 = z then i else R (j + 1 - 1)) = R j
        rw [if_neg (by omega), if_neg (by omega)]
        rfl
theorem Row_un {P : Nat → Bool} {d R R' : Nat → Nat} {m m' i : Nat} (h : Row P d R m i) (h' : Row P d R' m' i) : m = m' ∧ ∀ j, j < m → R j = R' j := by
  have hm : m = m' := h.len.trans h'.len.symm
  refine ⟨hm, ?_⟩
  subst hm
  have : ∀ k j, j < k → j < m → R j = R' j := by
    intro k
    induction k with
    | zero => intro j hj; omega
    | succ k ih =>
      intro j hj hjm
      have e1 := fol_row h (show j ≤ m by omega)
      have e2 := fol_row h' (show j ≤ m by omega)
      have e3 : rowLast R j = rowLast R' j := by
        cases j with
        | zero => rfl
        | succ j => simp only [rowLast]; rw [ih j (by omega) (by omega)]
      rw [e3, e2] at e1
      unfold rowAt at e1
      rw [if_pos hjm, if_pos hjm] at e1
      exact (Option.some.inj e1).symm
  exact fun j hj => this m j hj hj
