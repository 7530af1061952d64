
/-! who takes whom -/
def wnt (w : Wd) (t u : Nat) : Nat := if outB w t u = true then 0 else match spF w t u with
  | none => w.cr u
  | some a => w.cr a
def tkn (m a x : Nat) : Nat := if x ≤ m - a then x else 0
/-- how many of the m persons of station h the vehicles before have taken -/
def tbf (w : Wd) (t m h : Nat) : Nat → Nat → Nat → Nat
  | a, _, 0 => a
  | a, i, k + 1 => tbf w t m h (if w.hm i = h then a + tkn m a (wnt w t i) else a) (i + 1) k
theorem tbf_s (w : Wd) (t m h a i k : Nat) : tbf w t m h a i (k + 1) = tbf w t m h (if w.hm i = h then a + tkn m a (wnt w t i) else a) (i + 1) k := rfl
theorem tkn_le (m a x : Nat) (h : a ≤ m) : a + tkn m a x ≤ m := by
  unfold tkn
  split <;> omega
theorem tbf_le {w : Wd} {t m h : Nat} : ∀ (k i a : Nat), a ≤ m → tbf w t m h a i k ≤ m
  | 0, _, _, ha => ha
  | k + 1, i, a, ha => by
    rw [tbf_s]
    refine tbf_le k (i + 1) _ ?_
    split
    · exact tkn_le m a _ ha
    · exact ha
theorem tbf_r {w : Wd} {t m h : Nat} : ∀ (k i a : Nat), tbf w t m h a i (k + 1) = if w.hm (i + k) = h then tbf w t m h a i k + tkn m (tbf w t m h a i k) (wnt w t (i + k)) else tbf w t m h a i k
  | 0, _, _ => rfl
  | k + 1, i, a => by
    rw [tbf_s, tbf_r k (i + 1), tbf_s w t m h a i k, show i + 1 + k = i + (k + 1) by omega]
theorem wnt_le {w : Wd} (ok : Ok w) (t u : Nat) : wnt w t u ≤ 9 := by
  unfold wnt
  split
  · omega
  · split
    · exact ok.cr _
    · exact ok.cr _
theorem V_want {n : Nat} {w : Wd} (hn : 100 ≤ n) (ok : Ok w) {t u : Nat} {F : Nat → Int32} (ht : t < 100000) (hu : u < w.v) (hG : Gsp w (spF w t) (spI w t) w.v) (hF : ∀ j, j < w.v → F j = fiZ (spF w t j)) : f_V_wantedBy n 30 30 120 120 30 (nF w.cr) (nI 4) (nF w.oc) (nF w.ou) (nF w.ot) F (nI u) (nI t) = some (nI (wnt w t u)) := by
  have hv := ok.v
  unfold f_V_wantedBy wnt
  rw [V_isOut hn ok (show u < 30 by omega) ht, zd]
  simp (disch := omega) only [zb, zc, nF_at, sr_nm_eq]
  rw [hF u hu]
  cases c1 : outB w t u with
  | true =>
    rw [if_neg (show ¬ b01 true = 0 by decide), if_pos rfl]
    rfl
  | false =>
    rw [if_pos (show b01 false = 0 from rfl), if_neg (show ¬ false = true by decide)]
    cases c2 : spF w t u with
    | none => rw [if_pos (show fiZ none = -1 from rfl)]
    | some a =>
      have := (hG.1 u a c2).1
      rw [if_neg (show ¬ fiZ (some a) = -1 from zi_m1 (show a < 2147483648 by omega)), show fiZ (some a) = nI a from rfl, zb _ (show a < 30 by omega) (by omega), zc (by omega)]
theorem V_tkn {n : Nat} {w : Wd} (hn : 100 ≤ n) (ok : Ok w) {t u m a : Nat} {F : Nat → Int32} (ht : t < 100000) (hu : u < w.v) (hm : m ≤ 60) (ha : a ≤ m) (hG : Gsp w (spF w t) (spI w t) w.v) (hF : ∀ j, j < w.v → F j = fiZ (spF w t j)) : f_V_takenBy n 30 30 120 120 30 (nF w.cr) (nI 4) (nF w.oc) (nF w.ou) (nF w.ot) F (nI u) (nI t) (nI m - nI a) = some (nI (tkn m a (wnt w t u))) := by
  have h1 := wnt_le ok t u
  unfold f_V_takenBy tkn
  rw [V_want hn ok ht hu hG hF, zd, zs ha, zi_lt _ _ (by omega) (by omega)]
  by_cases q : wnt w t u ≤ m - a
  · rw [if_neg (by omega), if_pos q]
  · rw [if_pos (by omega), if_neg q]
    rfl
theorem V_tb6 {n : Nat} {w : Wd} (hn : 100 ≤ n) (ok : Ok w) {t v m : Nat} {F : Nat → Int32} (ht : t < 100000) (hv : v < w.v) (hm : m ≤ 60) (hG : Gsp w (spF w t) (spI w t) w.v) (hF : ∀ j, j < w.v → F j = fiZ (spF w t j)) : ∀ (k q a i : Nat), i + k = v → k < q → a ≤ m → f_V_takenBefore_6 n 30 30 30 120 120 30 (nF w.hm) (nF w.cr) (nI 4) (nF w.oc) (nF w.ou) (nF w.ot) F (nI v) (nI t) (nI m) q (nI a) (nI i) = some (nI (tbf w t m (w.hm v) a i k)) := by
  intro k
  induction k with
  | zero =>
    intro q a i hi hq ha
    obtain ⟨q, rfl⟩ : ∃ r, q = r + 1 := ⟨q - 1, by omega⟩
    have h30 := ok.v
    rw [f_V_takenBefore_6_eq, if_pos (nI_le (by omega) (by omega))]
    rfl
  | succ k ih =>
    intro q a i hi hq ha
    obtain ⟨q, rfl⟩ : ∃ r, q = r + 1 := ⟨q - 1, by omega⟩
    have h30 := ok.v
    have h1 := ok.hm i
    have h2 := ok.hm v
    rw [f_V_takenBefore_6_eq, V_tkn hn ok ht (show i < w.v by omega) hm ha hG hF, zd]
    simp (disch := omega) only [zb, zc, nF_at, zi_le, zi_eq, sr_nm_eq, z_1, nI_add]
    rw [if_neg (by omega), ih q _ (i + 1) (by omega) (by omega) (tkn_le m a _ ha), ih q a (i + 1) (by omega) (by omega) ha, tbf_s]
    by_cases q : w.hm i = w.hm v
    · rw [if_pos q, if_pos q]
    · rw [if_neg q, if_neg q]
theorem P_delay {m a l : Nat} {d R : Nat → Nat} {F : Nat → Int32} (hm : m ≤ 60) (hl : a + l ≤ m) (hR : ∀ j, j < m → R j < 60) (hF : ∀ j, j < m → F j = nI (R j)) : f_P_delayInRow 60 60 (nF d) F (nI a) (nI l) = some (nI (if l = 0 then 0 else d (R (a + l - 1)))) := by
  unfold f_P_delayInRow
  by_cases q : l = 0
  · rw [q]
    rfl
  · have h1 := hR (a + l - 1) (by omega)
    have h2 := hF (a + l - 1) (by omega)
    simp (disch := omega) only [z_0, z_1, zi_eq, nI_add, zs, zb, zc, h2, nF_at]
    rw [if_neg q, if_neg q]
/-- the lowest of R a .. R (a + k - 1) -/
def mnR (R : Nat → Nat) (a : Nat) : Nat → Nat
  | 0 => 60
  | k + 1 => if R (a + k) < mnR R a k then R (a + k) else mnR R a k
theorem mnR_le (R : Nat → Nat) (a : Nat) : ∀ k, mnR R a k ≤ 60
  | 0 => Nat.le_refl _
  | k + 1 => by
    have := mnR_le R a k
    unfold mnR
    split <;> omega
theorem P_low18 {n m a l : Nat} {R : Nat → Nat} {F : Nat → Int32} (hm : m ≤ 60) (hl : a + l ≤ m) (hR : ∀ j, j < m → R j < 60) (hF : ∀ j, j < m → F j = nI (R j)) : ∀ (k q j : Nat), j + k = l → k < q → f_P_lowestInRow_18 n 60 F (nI a) (nI l) q (nI (mnR R a j)) (nI (a + j)) = some (nI (mnR R a l)) := by
  intro k
  induction k with
  | zero =>
    intro q j hj hq
    obtain ⟨q, rfl⟩ : ∃ r, q = r + 1 := ⟨q - 1, by omega⟩
    rw [f_P_lowestInRow_18_eq, nI_add, if_pos (nI_le (by omega) (by omega)), show j = l by omega]
  | succ k ih =>
    intro q j hj hq
    obtain ⟨q, rfl⟩ : ∃ r, q = r + 1 := ⟨q - 1, by omega⟩
    have h1 := hR (a + j) (by omega)
    have h2 := hF (a + j) (by omega)
    have h3 := mnR_le R a j
    rw [f_P_lowestInRow_18_eq]
    simp (disch := omega) only [nI_add, zi_le, zb, zc, h2, zi_lt, sr_nm_eq, z_1]
    rw [if_neg (by omega), show (if R (a + j) < mnR R a j then nI (R (a + j)) else nI (mnR R a j)) = nI (mnR R a (j + 1)) by
      rw [show mnR R a (j + 1) = if R (a + j) < mnR R a j then R (a + j) else mnR R a j from rfl]
      split <;> rfl]
    exact ih q (j + 1) (by omega) (by omega)
theorem P_low {n m a l : Nat} {R : Nat → Nat} {F : Nat → Int32} (hn : 100 ≤ n) (hm : m ≤ 60) (hl : a + l ≤ m) (hR : ∀ j, j < m → R j < 60) (hF : ∀ j, j < m → F j = nI (R j)) : f_P_lowestInRow n 60 F (nI a) (nI l) = some (if l = 0 then -1 else nI (mnR R a l)) := by
  unfold f_P_lowestInRow
  by_cases q : l = 0
  · rw [q]
    rfl
  · have h1 := hR a (by omega)
    have h2 := hF a (by omega)
    rw [z_0, zi_eq _ _ (by omega) (by omega), if_neg q, zb _ (by omega) (by omega), zc (by omega), h2, sr_nm_eq, sr_nm_eq, z_1, nI_add, if_neg q]
    have := P_low18 (n := n) hm hl hR hF (l - 1) n 1 (by omega) (by omega)
    rw [show mnR R a 1 = R a from if_pos (show R (a + 0) < 60 from h1)] at this
    exact this
theorem M_free8 {n : Nat} {w : Wd} (hn : 100 ≤ n) (ok : Ok w) {h t m a : Nat} {R : Nat → Nat} {T : Nat → Int32} (hh : h < 12) (ht : t < 100000) (hR : Row (isOn w h t) w.ds R m w.p) (hm : m ≤ 60) (ha : a < m) (hT : ∀ j, j < m → T (R j) = b01 (decide (j < a))) : ∀ (k q j : Nat), j + k = a → k < q → f_M_free_8 n 12 12 60 60 60 360 360 60 180 180 180 60 (nI w.p) (nI w.lim) (nF w.fr) (nF w.to) (nF w.lv) (nF w.ds) (nF w.dc) (nF w.df) (nF w.dt) (nF w.mc) (nF w.mw) (nF w.mf) (nF w.mt) T (nI h) (nI t) q (nI (R j)) = some (nI (R a)) := by
  intro k
  induction k with
  | zero =>
    intro q j hj hq
    obtain ⟨q, rfl⟩ : ∃ r, q = r + 1 := ⟨q - 1, by omega⟩
    have hp := ok.p
    have h1 := (hR.mem j (by omega)).1
    rw [f_M_free_8_eq, if_neg (nI_pos (show R j < 2147483648 by omega)), zb _ (show R j < 60 by omega) (by omega), zc (by omega), hT j (by omega), show j = a by omega]
    simp [b01]
  | succ k ih =>
    intro q j hj hq
    obtain ⟨q, rfl⟩ : ∃ r, q = r + 1 := ⟨q - 1, by omega⟩
    have hp := ok.p
    have h1 := (hR.mem j (by omega)).1
    have e2 := fol_row hR (show j + 1 ≤ m by omega)
    rw [show rowLast R (j + 1) = some (R j) from rfl, show rowAt R m (j + 1) = some (R (j + 1)) from if_pos (by omega)] at e2
    have e3 : f_M_following n 12 12 60 60 60 360 360 60 180 180 180 (nI w.p) (nI w.lim) (nF w.fr) (nF w.to) (nF w.lv) (nF w.ds) (nF w.dc) (nF w.df) (nF w.dt) (nF w.mc) (nF w.mw) (nF w.mf) (nF w.mt) (nI h) (nI t) (nI (R j)) = some (nI (R (j + 1))) := by
      have := M_fol hn ok hh ht (some (R j)) (fun x hx => by cases hx; omega)
      rw [e2] at this
      exact this
    rw [f_M_free_8_eq, if_neg (nI_pos (show R j < 2147483648 by omega)), zb _ (show R j < 60 by omega) (by omega), zc (by omega), hT j (by omega), if_neg (show ¬ b01 (decide (j < a)) = 0 by rw [show decide (j < a) = true by simp; omega]; decide), e3, zd]
    exact ih q (j + 1) (by omega) (by omega)
theorem M_free {n : Nat} {w : Wd} (hn : 100 ≤ n) (ok : Ok w) {h t m a : Nat} {R : Nat → Nat} {T : Nat → Int32} (hh : h < 12) (ht : t < 100000) (hR : Row (isOn w h t) w.ds R m w.p) (hm : m ≤ 60) (ha : a < m) (hT : ∀ j, j < m → T (R j) = b01 (decide (j < a))) : f_M_free n 12 12 60 60 60 360 360 60 180 180 180 60 (nI w.p) (nI w.lim) (nF w.fr) (nF w.to) (nF w.lv) (nF w.ds) (nF w.dc) (nF w.df) (nF w.dt) (nF w.mc) (nF w.mw) (nF w.mf) (nF w.mt) T (nI h) (nI t) = some (nI (R a)) := by
  have e2 := fol_row hR (Nat.zero_le m)
  rw [show rowLast R 0 = none from rfl, show rowAt R m 0 = some (R 0) from if_pos (by omega)] at e2
  have e3 := M_fol hn ok hh ht none (fun x hx => by cases hx)
  rw [e2] at e3
  have e4 : f_M_following n 12 12 60 60 60 360 360 60 180 180 180 (nI w.p) (nI w.lim) (nF w.fr) (nF w.to) (nF w.lv) (nF w.ds) (nF w.dc) (nF w.df) (nF w.dt) (nF w.mc) (nF w.mw) (nF w.mf) (nF w.mt) (nI h) (nI t) (-1) = some (nI (R 0)) := e3
  unfold f_M_free
  rw [e4, zd]
  exact M_free8 hn ok hh ht hR hm ha hT a n 0 (by omega) (by omega)
theorem Row_inj {P : Nat → Bool} {d R : Nat → Nat} {m i a b : Nat} (h : Row P d R m i) (ha : a < m) (hb : b < m) (e : R a = R b) : a = b := by
  rcases Nat.lt_trichotomy a b with q | q | q
  · have := h.inc a b q hb
    unfold lto at this
    rw [e] at this
    omega
  · exact q
  · have := h.inc b a q ha
    unfold lto at this
    rw [e] at this
    omega
theorem M_man98 {n : Nat} {w : Wd} (hn : 100 ≤ n) (ok : Ok w) {v t m a x : Nat} {R : Nat → Nat} (SF : Nat → Int32) (hv : v < 30) (ht : t < 100000) (hR : Row (isOn w (w.hm v) t) w.ds R m w.p) (hm : m ≤ 60) (hx : a + x ≤ m) (Mn : Nat → Int32) : ∀ (k q j : Nat) (T Lo Fa : Nat → Int32), j + k = x → k < q → (∀ i, i < m → T (R i) = b01 (decide (i < a + j))) → Lo v = nI (mnR R a j) → Fa v = nI (if j = 0 then 0 else w.ds (R (a + j - 1))) →
    ∃ T' Lo' Fa' : Nat → Int32, f_M_man_98 n 12 12 30 30 60 60 60 360 360 60 180 180 180 30 60 30 30 30 (nI w.p) (nI w.lim) (nF w.fr) (nF w.to) (nF w.hm) (nF w.cr) (nF w.lv) (nF w.ds) (nF w.dc) (nF w.df) (nF w.dt) (nF w.mc) (nF w.mw) (nF w.mf) (nF w.mt) SF (nI v) (nI t) q (nI x) (nI j) T Mn Lo Fa = some (T', upd Mn v (nI x), Lo', Fa') ∧ (∀ i, i < m → T' (R i) = b01 (decide (i < a + x))) ∧ (∀ y, (∀ i, i < m → R i ≠ y) → T' y = T y) ∧ Lo' v = nI (mnR R a x) ∧ Fa' v = nI (if x = 0 then 0 else w.ds (R (a + x - 1))) ∧ (∀ u, u ≠ v → Lo' u = Lo u) ∧ (∀ u, u ≠ v → Fa' u = Fa u) := by
  intro k
  induction k with
  | zero =>
    intro q j T Lo Fa hj hq hT hL hA
    obtain ⟨q, rfl⟩ : ∃ r, q = r + 1 := ⟨q - 1, by omega⟩
    refine ⟨T, Lo, Fa, ?_, by rw [← show j = x by omega]; exact hT, fun _ _ => rfl, by rw [← show j = x by omega]; exact hL, by rw [← show j = x by omega]; exact hA, fun _ _ => rfl, fun _ _ => rfl⟩
    rw [f_M_man_98_eq, if_pos (nI_le (by omega) (by omega)), zb _ hv (by omega), zc (by omega)]
  | succ k ih =>
    intro q j T Lo Fa hj hq hT hL hA
    obtain ⟨q, rfl⟩ : ∃ r, q = r + 1 := ⟨q - 1, by omega⟩
    have hp := ok.p
    have h1 := (hR.mem (a + j) (by omega)).1
    have h2 := ok.ds (R (a + j))
    have h3 := mnR_le R a j
    have h4 : (if j = 0 then 0 else w.ds (R (a + j - 1))) ≤ w.ds (R (a + j)) := by
      split
      · omega
      · have := hR.inc (a + j - 1) (a + j) (by omega) (by omega)
        unfold lto at this
        omega
    have e1 : vp_nar .boolean 1 = 1 := rfl
    rw [f_M_man_98_eq, zi_le _ _ (by omega) (by omega), if_neg (by omega), zb _ hv (by omega), zc (show v < 2147483648 by omega), nF_at, M_free hn ok (ok.hm v) ht hR hm (show a + j < m by omega) hT, zd, e1]
    have hT' : ∀ i, i < m → upd T (R (a + j)) 1 (R i) = b01 (decide (i < a + (j + 1))) := by
      intro i hi
      unfold upd
      by_cases e : R i = R (a + j)
      · have := Row_inj hR hi (by omega) e
        rw [if_pos e]
        simp [b01]
        omega
      · have hne : i ≠ a + j := fun e' => e (by rw [e'])
        rw [if_neg e, hT i hi]
        congr 1
        simp
        omega
    have hTn : ∀ y, (∀ i, i < m → R i ≠ y) → upd T (R (a + j)) 1 y = T y := fun y hy => if_neg (fun e => hy (a + j) (by omega) e.symm)
    have hL' : mnR R a (j + 1) = if R (a + j) < mnR R a j then R (a + j) else mnR R a j := rfl
    have hA' : (if j + 1 = 0 then 0 else w.ds (R (a + (j + 1) - 1))) = w.ds (R (a + j)) := if_neg (by omega)
    simp (disch := omega) only [zb, zc, nF_at, hL, hA, zi_le, sr_nm_eq]
    rw [z_1, nI_add, show nI 1 = 1 from rfl]
    have hfin : ∀ Lo2 Fa2 : Nat → Int32, Lo2 v = nI (mnR R a (j + 1)) → Fa2 v = nI (w.ds (R (a + j))) → (∀ u, u ≠ v → Lo2 u = Lo u) → (∀ u, u ≠ v → Fa2 u = Fa u) → ∃ T' Lo' Fa' : Nat → Int32, f_M_man_98 n 12 12 30 30 60 60 60 360 360 60 180 180 180 30 60 30 30 30 (nI w.p) (nI w.lim) (nF w.fr) (nF w.to) (nF w.hm) (nF w.cr) (nF w.lv) (nF w.ds) (nF w.dc) (nF w.df) (nF w.dt) (nF w.mc) (nF w.mw) (nF w.mf) (nF w.mt) SF (nI v) (nI t) q (nI x) (nI (j + 1)) (upd T (R (a + j)) 1) Mn Lo2 Fa2 = some (T', upd Mn v (nI x), Lo', Fa') ∧ (∀ i, i < m → T' (R i) = b01 (decide (i < a + x))) ∧ (∀ y, (∀ i, i < m → R i ≠ y) → T' y = T y) ∧ Lo' v = nI (mnR R a x) ∧ Fa' v = nI (if x = 0 then 0 else w.ds (R (a + x - 1))) ∧ (∀ u, u ≠ v → Lo' u = Lo u) ∧ (∀ u, u ≠ v → Fa' u = Fa u) := by
      intro Lo2 Fa2 b1 b2 b3 b4
      obtain ⟨T', Lo', Fa', c1, c2, c3, c4, c5, c6, c7⟩ := ih q (j + 1) (upd T (R (a + j)) 1) Lo2 Fa2 (by omega) (by omega) hT' b1 (by rw [hA']; exact b2)
      exact ⟨T', Lo', Fa', c1, c2, fun y hy => (c3 y hy).trans (hTn y hy), c4, c5, fun u hu => (c6 u hu).trans (b3 u hu), fun u hu => (c7 u hu).trans (b4 u hu)⟩
    by_cases q1 : mnR R a j ≤ R (a + j)
    · rw [if_pos q1]
      have hL2 : Lo v = nI (mnR R a (j + 1)) := by rw [hL, hL', if_neg (by omega)]
      by_cases q2 : w.ds (R (a + j)) ≤ (if j = 0 then 0 else w.ds (R (a + j - 1)))
      · rw [if_pos q2]
        exact hfin Lo Fa hL2 (by rw [hA]; congr 1; omega) (fun _ _ => rfl) (fun _ _ => rfl)
      · rw [if_neg q2]
        exact hfin Lo _ hL2 (if_pos rfl) (fun _ _ => rfl) (fun u hu => if_neg hu)
    · rw [if_neg q1]
      have hL2 : upd Lo v (nI (R (a + j))) v = nI (mnR R a (j + 1)) := by rw [show upd Lo v (nI (R (a + j))) v = nI (R (a + j)) from if_pos rfl, hL', if_pos (by omega)]
      by_cases q2 : w.ds (R (a + j)) ≤ (if j = 0 then 0 else w.ds (R (a + j - 1)))
      · rw [if_pos q2]
        exact hfin _ Fa hL2 (by rw [hA]; congr 1; omega) (fun u hu => if_neg hu) (fun _ _ => rfl)
      · rw [if_neg q2]
        exact hfin _ _ hL2 (if_pos rfl) (fun u hu => if_neg hu) (fun u hu => if_neg hu)
