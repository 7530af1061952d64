
/-! the reference's next person -/
def beh (d : Nat → Nat) (l : Option Nat) (x : Nat) : Bool := match l with
  | none => true
  | some a => decide (d a < d x) || (decide (d x = d a) && decide (a < x))
def bst (d : Nat → Nat) (b : Option Nat) (x : Nat) : Option Nat := match b with
  | none => some x
  | some a => if d a ≤ d x then some a else some x
def fol (P : Nat → Bool) (d : Nat → Nat) (l : Option Nat) : Option Nat → Nat → Nat → Option Nat
  | b, _, 0 => b
  | b, i, k + 1 => fol P d l (if (P i && beh d l i) = true then bst d b i else b) (i + 1) k
theorem fol_s (P : Nat → Bool) (d : Nat → Nat) (l b : Option Nat) (i k : Nat) : fol P d l b i (k + 1) = fol P d l (if (P i && beh d l i) = true then bst d b i else b) (i + 1) k := rfl
theorem fiZ_neg (o : Option Nat) (h : ∀ j, o = some j → j < 2147483648) : fiZ o < 0 ↔ o = none := by
  cases o with
  | none => simp [fiZ]
  | some j => simp only [fiZ]; exact ⟨fun q => absurd q (nI_pos (h j rfl)), fun q => by cases q⟩
theorem M_fol6 {n : Nat} {w : Wd} (hn : 100 ≤ n) (ok : Ok w) {s t : Nat} (hs : s < 12) (ht : t < 100000) (l : Option Nat) (hl : ∀ j, l = some j → j < 60) : ∀ (k q i : Nat) (b : Option Nat), i + k = w.p → k < q → (∀ j, b = some j → j < 60) → f_M_following_6 n 12 12 60 60 60 360 360 60 180 180 180 (nI w.p) (nI w.lim) (nF w.fr) (nF w.to) (nF w.lv) (nF w.ds) (nF w.dc) (nF w.df) (nF w.dt) (nF w.mc) (nF w.mw) (nF w.mf) (nF w.mt) (nI s) (nI t) (fiZ l) q (fiZ b) (nI i) = some (fiZ (fol (isOn w s t) w.ds l b i k)) := by
  intro k
  induction k with
  | zero =>
    intro q i b hi hq hb
    obtain ⟨q, rfl⟩ : ∃ r, q = r + 1 := ⟨q - 1, by omega⟩
    have hp := ok.p
    rw [f_M_following_6_eq, if_pos (nI_le (by omega) (by omega))]
    rfl
  | succ k ih =>
    intro q i b hi hq hb
    obtain ⟨q, rfl⟩ : ∃ r, q = r + 1 := ⟨q - 1, by omega⟩
    have hp := ok.p
    have hi60 : i < 60 := by omega
    have h1 := ok.ds i
    have ihi := ih q (i + 1) (some i) (by omega) (by omega) (fun j hj => by cases hj; omega)
    have ihb := ih q (i + 1) b (by omega) (by omega) hb
    rw [show fiZ (some i) = nI i from rfl] at ihi
    rw [f_M_following_6_eq, M_isOn hn ok hs hi60 ht, zd, zi_le _ _ (by omega) (by omega), if_neg (by omega), fol_s]
    simp only [sr_nm_eq, z_1, nI_add]
    rw [show nI 1 = 1 from rfl]
    simp only [ihi, ihb]
    cases hP : isOn w s t i with
    | false => simp [b01]
    | true =>
      cases l with
      | none =>
        simp only [fiZ]
        cases b with
        | none =>
          simp [b01, beh, bst, fiZ]
        | some a =>
          have ha := hb a rfl
          have h2 := ok.ds a
          simp only [fiZ] at *
          simp (disch := omega) only [zb, zc, nF_at, zi_le]
          by_cases a1 : w.ds a ≤ w.ds i
          · simp [b01, beh, bst, a1, nI_pos (show a < 2147483648 by omega)]
          · simp [b01, beh, bst, a1, nI_pos (show a < 2147483648 by omega)]
      | some c =>
        have hc := hl c rfl
        have h3 := ok.ds c
        simp only [fiZ] at *
        simp (disch := omega) only [zb, zc, nF_at, zi_le, zi_lt, zi_eq]
        cases b with
        | none =>
          simp only [fiZ] at *
          by_cases a1 : w.ds c < w.ds i
          · simp [b01, beh, bst, a1, nI_pos (show c < 2147483648 by omega)]
          · by_cases a2 : w.ds i = w.ds c
            · by_cases a3 : i ≤ c
              · simp [b01, beh, bst, a2, a3, nI_pos (show c < 2147483648 by omega), show ¬ c < i by omega]
              · simp [b01, beh, bst, a2, a3, nI_pos (show c < 2147483648 by omega), show c < i by omega]
            · simp [b01, beh, bst, a1, a2, nI_pos (show c < 2147483648 by omega)]
        | some a =>
          have ha := hb a rfl
          have h2 := ok.ds a
          simp only [fiZ] at *
          simp (disch := omega) only [zb, zc, nF_at, zi_le]
          by_cases a0 : w.ds a ≤ w.ds i
          · by_cases a1 : w.ds c < w.ds i
            · simp [b01, beh, bst, a0, a1, nI_pos (show c < 2147483648 by omega), nI_pos (show a < 2147483648 by omega)]
            · by_cases a2 : w.ds i = w.ds c
              · by_cases a3 : i ≤ c
                · simp [b01, beh, bst, a2, a3, nI_pos (show c < 2147483648 by omega), nI_pos (show a < 2147483648 by omega), show ¬ c < i by omega]
                · rw [a2] at a0
                  simp [b01, beh, bst, a0, a2, a3, nI_pos (show c < 2147483648 by omega), nI_pos (show a < 2147483648 by omega), show c < i by omega]
              · simp [b01, beh, bst, a1, a2, nI_pos (show c < 2147483648 by omega), nI_pos (show a < 2147483648 by omega)]
          · by_cases a1 : w.ds c < w.ds i
            · simp [b01, beh, bst, a0, a1, nI_pos (show c < 2147483648 by omega), nI_pos (show a < 2147483648 by omega)]
            · by_cases a2 : w.ds i = w.ds c
              · by_cases a3 : i ≤ c
                · simp [b01, beh, bst, a2, a3, nI_pos (show c < 2147483648 by omega), nI_pos (show a < 2147483648 by omega), show ¬ c < i by omega]
                · rw [a2] at a0
                  simp [b01, beh, bst, a0, a2, a3, nI_pos (show c < 2147483648 by omega), nI_pos (show a < 2147483648 by omega), show c < i by omega]
              · simp [b01, beh, bst, a1, a2, nI_pos (show c < 2147483648 by omega), nI_pos (show a < 2147483648 by omega)]
theorem M_fol {n : Nat} {w : Wd} (hn : 100 ≤ n) (ok : Ok w) {s t : Nat} (hs : s < 12) (ht : t < 100000) (l : Option Nat) (hl : ∀ j, l = some j → j < 60) : f_M_following n 12 12 60 60 60 360 360 60 180 180 180 (nI w.p) (nI w.lim) (nF w.fr) (nF w.to) (nF w.lv) (nF w.ds) (nF w.dc) (nF w.df) (nF w.dt) (nF w.mc) (nF w.mw) (nF w.mf) (nF w.mt) (nI s) (nI t) (fiZ l) = some (fiZ (fol (isOn w s t) w.ds l none 0 w.p)) := by
  have hp := ok.p
  exact M_fol6 hn ok hs ht l hl w.p n 0 none (by omega) (by omega) (fun j hj => by cases hj)
/-- b is the first of those below i with Q -/
def Bst (Q : Nat → Bool) (d : Nat → Nat) (i : Nat) (b : Option Nat) : Prop := match b with
  | none => ∀ x, x < i → Q x = false
  | some a => a < i ∧ Q a = true ∧ ∀ x, x < i → Q x = true → a = x ∨ lto d a x
theorem fol_bst {P : Nat → Bool} {d : Nat → Nat} {l : Option Nat} : ∀ (k i : Nat) (b : Option Nat), Bst (fun x => P x && beh d l x) d i b → Bst (fun x => P x && beh d l x) d (i + k) (fol P d l b i k)
  | 0, _, _, h => h
  | k + 1, i, b, h => by
    rw [fol_s, show i + (k + 1) = i + 1 + k by omega]
    refine fol_bst k (i + 1) _ ?_
    by_cases hq : (P i && beh d l i) = true
    · rw [if_pos hq]
      cases b with
      | none =>
        refine ⟨by omega, hq, fun x hx hqx => ?_⟩
        by_cases hxi : x = i
        · exact Or.inl hxi.symm
        · exact absurd (h x (by omega)) (by rw [hqx]; decide)
      | some a =>
        obtain ⟨h1, h2, h3⟩ := h
        unfold bst
        by_cases hd : d a ≤ d i
        · simp only [if_pos hd]
          refine ⟨by omega, h2, fun x hx hqx => ?_⟩
          by_cases hxi : x = i
          · right
            unfold lto
            rw [hxi]
            omega
          · exact h3 x (by omega) hqx
        · simp only [if_neg hd]
          refine ⟨by omega, hq, fun x hx hqx => ?_⟩
          by_cases hxi : x = i
          · exact Or.inl hxi.symm
          · right
            rcases h3 x (by omega) hqx with u | u
            · rw [← u]; unfold lto; omega
            · unfold lto at *; omega
    · rw [if_neg hq]
      cases b with
      | none =>
        intro x hx
        by_cases hxi : x = i
        · rw [hxi]; exact Bool.not_eq_true _ |>.mp hq
        · exact h x (by omega)
      | some a =>
        obtain ⟨h1, h2, h3⟩ := h
        refine ⟨by omega, h2, fun x hx hqx => ?_⟩
        by_cases hxi : x = i
        · rw [hxi] at hqx; exact absurd hqx hq
        · exact h3 x (by omega) hqx
/-- the row's place j -/
def rowAt (R : Nat → Nat) (m j : Nat) : Option Nat := if j < m then some (R j) else none
def rowLast (R : Nat → Nat) (j : Nat) : Option Nat := match j with
  | 0 => none
  | i + 1 => some (R i)
theorem beh_row {P : Nat → Bool} {d R : Nat → Nat} {m i j a : Nat} (h : Row P d R m i) (hj : j ≤ m) (ha : a < m) : beh d (rowLast R j) (R a) = true ↔ j ≤ a := by
  cases j with
  | zero => simp [rowLast, beh]
  | succ j =>
    simp only [rowLast, beh]
    constructor
    · intro q
      rcases Nat.lt_trichotomy a j with u | u | u
      · have := h.inc a j u (by omega)
        unfold lto at this
        simp at q
        omega
      · rw [u] at q
        simp at q
      · omega
    · intro q
      have := h.inc j a (by omega) ha
      unfold lto at this
      simp
      omega
theorem fol_row {P : Nat → Bool} {d R : Nat → Nat} {m i j : Nat} (h : Row P d R m i) (hj : j ≤ m) : fol P d (rowLast R j) none 0 i = rowAt R m j := by
  have hb := fol_bst (P := P) (d := d) (l := rowLast R j) i 0 none (fun x hx => by omega)
  rw [Nat.zero_add] at hb
  cases hf : fol P d (rowLast R j) none 0 i with
  | none =>
    rw [hf] at hb
    unfold rowAt
    by_cases q : j < m
    · have := hb (R j) (h.mem j q).1
      simp only [(h.mem j q).2, (beh_row h hj q).mpr (Nat.le_refl _)] at this
      cases this
    · rw [if_neg q]
  | some a =>
    rw [hf] at hb
    obtain ⟨h1, h2, h3⟩ := hb
    simp at h2
    obtain ⟨u, hu, rfl⟩ := h.all a h1 h2.1
    have hju := (beh_row h hj hu).mp h2.2
    unfold rowAt
    rw [if_pos (by omega)]
    rcases Nat.lt_or_ge j u with q | q
    · have h4 := h.inc j u q hu
      have h5 := h3 (R j) (h.mem j (by omega)).1 (by simp [(h.mem j (show j < m by omega)).2, (beh_row h hj (show j < m by omega)).mpr (Nat.le_refl _)])
      unfold lto at *
      rcases h5 with h5 | h5
      · rw [h5] at h4; omega
      · omega
    · rw [show u = j by omega]
theorem rowAt_lt {P : Nat → Bool} {d R : Nat → Nat} {m i j a : Nat} (h : Row P d R m i) (e : rowAt R m j = some a) : j < m ∧ a = R j ∧ a < i := by
  unfold rowAt at e
  by_cases q : j < m
  · rw [if_pos q] at e
    cases e
    exact ⟨q, rfl, (h.mem j q).1⟩
  · rw [if_neg q] at e
    cases e
theorem M_at45 {n : Nat} {w : Wd} (hn : 100 ≤ n) (ok : Ok w) {s t r m : Nat} {R : Nat → Nat} (hs : s < 12) (ht : t < 100000) (hr : r < 2147483648) (hR : Row (isOn w s t) w.ds R m w.p) (hm : m ≤ 60) (x th : Int32) : ∀ (k q j : Nat), j + k = m → k < q → j ≤ r → f_M_at_45 n 12 12 60 60 60 360 360 60 180 180 180 x (nI w.p) (nI w.lim) (nF w.fr) (nF w.to) (nF w.lv) (nF w.ds) (nF w.dc) (nF w.df) (nF w.dt) (nF w.mc) (nF w.mw) (nF w.mf) (nF w.mt) (nI s) (nI t) (nI r) q (fiZ (rowAt R m j)) (nI j) th = some (fiZ (rowAt R m r), th) := by
  intro k
  induction k with
  | zero =>
    intro q j hi hq hj
    obtain ⟨q, rfl⟩ : ∃ r, q = r + 1 := ⟨q - 1, by omega⟩
    have e1 : rowAt R m j = none := if_neg (by omega)
    have e2 : rowAt R m r = none := if_neg (by omega)
    rw [f_M_at_45_eq, e1, e2]
    rw [zi_le _ _ (by omega) (by omega), if_pos (show fiZ none < 0 by decide)]
    by_cases a1 : r ≤ j
    · rw [if_pos a1]
    · rw [if_neg a1]
  | succ k ih =>
    intro q j hi hq hj
    obtain ⟨q, rfl⟩ : ∃ r, q = r + 1 := ⟨q - 1, by omega⟩
    have hp := ok.p
    have e1 : rowAt R m j = some (R j) := if_pos (by omega)
    have hb := (hR.mem j (by omega)).1
    rw [f_M_at_45_eq, zi_le _ _ (by omega) (by omega)]
    by_cases a1 : r ≤ j
    · rw [if_pos a1, show r = j by omega]
    · rw [if_neg a1, e1, if_neg (show ¬ fiZ (some (R j)) < 0 from nI_pos (by omega)), M_fol hn ok hs ht (some (R j)) (fun a ha => by cases ha; omega), zd, sr_nm_eq, z_1, nI_add]
      have e2 := fol_row hR (show j + 1 ≤ m by omega)
      rw [show rowLast R (j + 1) = some (R j) from rfl] at e2
      rw [e2]
      exact ih q (j + 1) (by omega) (by omega) (by omega)
theorem ag_on {n : Nat} {w : Wd} (hn : 100 ≤ n) (ok : Ok w) (rl : Int32) (F : Nat → Int32) (O : Nat → Int64) (th x y : Int32) :
    (∃ k : Int32, f_L_on n 12 12 60 60 60 360 360 60 180 180 180 60 1 (nI w.s) (nF w.fr) (nF w.to) rl (nI w.p) (nI w.lim) (nF w.lv) (nF w.ds) (nI 6) (nF w.dc) (nF w.df) (nF w.dt) (nI 3) (nF w.mc) (nF w.mf) (nF w.mt) (nF w.mw) F O x y = some (k, rl, F, O) ∧ f_M_on n 12 12 60 60 60 360 360 60 180 180 180 th (nI w.s) (nI w.p) (nI w.lim) (nF w.fr) (nF w.to) (nF w.lv) (nF w.ds) (nF w.dc) (nF w.df) (nF w.dt) (nF w.mc) (nF w.mw) (nF w.mf) (nF w.mt) x y = some (0, k) ∧ ¬ k = 0) ∨
    ∃ (r rl' : Int32) (F' : Nat → Int32), f_L_on n 12 12 60 60 60 360 360 60 180 180 180 60 1 (nI w.s) (nF w.fr) (nF w.to) rl (nI w.p) (nI w.lim) (nF w.lv) (nF w.ds) (nI 6) (nF w.dc) (nF w.df) (nF w.dt) (nI 3) (nF w.mc) (nF w.mf) (nF w.mt) (nF w.mw) F O x y = some (0, rl', F', vp_updL O 0 r.toInt64) ∧ f_M_on n 12 12 60 60 60 360 360 60 180 180 180 th (nI w.s) (nI w.p) (nI w.lim) (nF w.fr) (nF w.to) (nF w.lv) (nF w.ds) (nF w.dc) (nF w.df) (nF w.dt) (nF w.mc) (nF w.mw) (nF w.mf) (nF w.mt) x y = some (r, 0) := by
  have hs := ok.s
  unfold f_L_on f_S_on f_M_on
  simp only [S_minute, M_minute, S_kn, M_st (show w.s < 1000000 by omega), zd, f_St_count, M_goes3 (show 6 ≤ n by omega)]
  rcases kn_cases w.s (by omega) x with ⟨h0, -⟩ | ⟨a, ha, rfl, h0⟩
  · exact Or.inl ⟨1, by simp [h0, zd], by simp [h0], by decide⟩
  · rcases rg01_01 y 0 99999 with h1 | h1
    · exact Or.inl ⟨2, by simp [h0, h1, zd], by simp [h0, h1], by decide⟩
    · obtain ⟨t, ht, rfl⟩ := rg_of (b := 99999) (by omega) rfl h1
      obtain ⟨F', R, m, e, hR, hm, hF⟩ := S_gath (n := n) hn ok (show a < 12 by omega) (show t < 100000 by omega) rl F
      refine Or.inr ⟨nI m, nI m, F', ?_, ?_⟩
      · simp [h0, h1, zd, e]
        rfl
      · simp [h0, h1, zd, M_cnt hn ok (show a < 12 by omega) (show t < 100000 by omega), hR.len]
theorem ag_at {n : Nat} {w : Wd} (hn : 100 ≤ n) (ok : Ok w) (rl : Int32) (F : Nat → Int32) (O : Nat → Int64) (th x y z : Int32) :
    (∃ k : Int32, f_L_at n 12 12 60 60 60 360 360 60 180 180 180 60 1 (nI w.s) (nF w.fr) (nF w.to) rl (nI w.p) (nI w.lim) (nF w.lv) (nF w.ds) (nI 6) (nF w.dc) (nF w.df) (nF w.dt) (nI 3) (nF w.mc) (nF w.mf) (nF w.mt) (nF w.mw) F O x y z = some (k, rl, F, O) ∧ f_M_at n 12 12 60 60 60 360 360 60 180 180 180 th (nI w.s) (nI w.p) (nI w.lim) (nF w.fr) (nF w.to) (nF w.lv) (nF w.ds) (nF w.dc) (nF w.df) (nF w.dt) (nF w.mc) (nF w.mw) (nF w.mf) (nF w.mt) x y z = some (0, k) ∧ ¬ k = 0) ∨
    ∃ (r rl' : Int32) (F' : Nat → Int32), f_L_at n 12 12 60 60 60 360 360 60 180 180 180 60 1 (nI w.s) (nF w.fr) (nF w.to) rl (nI w.p) (nI w.lim) (nF w.lv) (nF w.ds) (nI 6) (nF w.dc) (nF w.df) (nF w.dt) (nI 3) (nF w.mc) (nF w.mf) (nF w.mt) (nF w.mw) F O x y z = some (0, rl', F', vp_updL O 0 r.toInt64) ∧ f_M_at n 12 12 60 60 60 360 360 60 180 180 180 th (nI w.s) (nI w.p) (nI w.lim) (nF w.fr) (nF w.to) (nF w.lv) (nF w.ds) (nF w.dc) (nF w.df) (nF w.dt) (nF w.mc) (nF w.mw) (nF w.mf) (nF w.mt) x y z = some (r, 0) := by
  have hs := ok.s
  have hp := ok.p
  unfold f_L_at f_S_at f_M_at
  simp only [S_minute, M_minute, S_kn, M_st (show w.s < 1000000 by omega), zd, f_St_count, M_goes3 (show 6 ≤ n by omega), f_S_requirePlace]
  rcases kn_cases w.s (by omega) x with ⟨h0, -⟩ | ⟨a, ha, rfl, h0⟩
  · refine Or.inl ⟨1, by simp [h0, zd], ?_, by decide⟩
    by_cases h3 : rg01 y 0 99999 = 0 <;> by_cases h2 : z < 0 <;> simp [h0, h2, h3]
  · rcases rg01_01 y 0 99999 with h1 | h1
    · exact Or.inl ⟨2, by simp [h0, h1, zd], by simp [h0, h1], by decide⟩
    · by_cases h2 : z < 0
      · have h3 : ¬ (0 : Int32) ≤ z := Int32.not_le.mpr h2
        exact Or.inl ⟨2, by simp [h0, h1, h3, zd], by simp [h0, h1, h2], by decide⟩
      · have h3 : (0 : Int32) ≤ z := Int32.not_lt.mp h2
        obtain ⟨r, hr, rfl⟩ := nI_of h2
        obtain ⟨t, ht, rfl⟩ := rg_of (b := 99999) (by omega) rfl h1
        obtain ⟨F', R, m, e, hR, hm, hF⟩ := S_gath (n := n) hn ok (show a < 12 by omega) (show t < 100000 by omega) rl F
        have e1 : f_M_following n 12 12 60 60 60 360 360 60 180 180 180 (nI w.p) (nI w.lim) (nF w.fr) (nF w.to) (nF w.lv) (nF w.ds) (nF w.dc) (nF w.df) (nF w.dt) (nF w.mc) (nF w.mw) (nF w.mf) (nF w.mt) (nI a) (nI t) (-1) = some (fiZ (rowAt R m 0)) := by
          rw [← fol_row hR (Nat.zero_le m)]
          exact M_fol hn ok (show a < 12 by omega) (show t < 100000 by omega) none (fun j hj => by cases hj)
        have e2 : f_M_at_45 n 12 12 60 60 60 360 360 60 180 180 180 (nI w.s) (nI w.p) (nI w.lim) (nF w.fr) (nF w.to) (nF w.lv) (nF w.ds) (nF w.dc) (nF w.df) (nF w.dt) (nF w.mc) (nF w.mw) (nF w.mf) (nF w.mt) (nI a) (nI t) (nI r) n (fiZ (rowAt R m 0)) 0 0 = some (fiZ (rowAt R m r), 0) := M_at45 hn ok (show a < 12 by omega) (show t < 100000 by omega) hr hR hm (nI w.s) 0 m n 0 (by omega) (by omega) (by omega)
        refine Or.inr ⟨fiZ (rowAt R m r), nI m, F', ?_, ?_⟩
        · by_cases q : r < m
          · have e3 : f_P_inRow 60 F' (nI r) = some (fiZ (rowAt R m r)) := by
              unfold f_P_inRow rowAt
              rw [zb _ (by omega) (by omega), zc (by omega), if_pos q, hF r q]
              rfl
            have q2 : ¬ nI m ≤ nI r := nI_ge q (by omega)
            simp [h0, h1, h3, zd, e, q2, e3]
            rfl
          · have q2 : nI m ≤ nI r := nI_le (by omega) (by omega)
            have e3 : rowAt R m r = none := if_neg q
            simp [h0, h1, h3, zd, e, q2, e3]
            rfl
        · simp [h0, h1, h2, zd, e1, e2]
theorem ag_lacks {n : Nat} {w : Wd} (hn : 100 ≤ n) (ok : Ok w) (rl : Int32) (F : Nat → Int32) (O : Nat → Int64) (th x y : Int32) :
    (∃ k : Int32, f_L_lacks n 12 12 60 60 60 360 360 60 180 180 180 60 288 1 (nI w.s) (nF w.fr) (nF w.to) rl (nI w.p) (nI w.lim) (nF w.lv) (nF w.ds) (nI 6) (nF w.dc) (nF w.df) (nF w.dt) (nI 3) (nF w.mc) (nF w.mf) (nF w.mt) (nF w.mw) F (nF w.nd) O x y = some (k, rl, F, O) ∧ f_M_lacks n 12 12 60 60 60 360 360 60 180 180 180 288 th (nI w.s) (nI w.p) (nI w.lim) (nF w.fr) (nF w.to) (nF w.lv) (nF w.ds) (nF w.dc) (nF w.df) (nF w.dt) (nF w.mc) (nF w.mw) (nF w.mf) (nF w.mt) (nF w.nd) x y = some (0, k) ∧ ¬ k = 0) ∨
    ∃ (r rl' : Int32) (F' : Nat → Int32), f_L_lacks n 12 12 60 60 60 360 360 60 180 180 180 60 288 1 (nI w.s) (nF w.fr) (nF w.to) rl (nI w.p) (nI w.lim) (nF w.lv) (nF w.ds) (nI 6) (nF w.dc) (nF w.df) (nF w.dt) (nI 3) (nF w.mc) (nF w.mf) (nF w.mt) (nF w.mw) F (nF w.nd) O x y = some (0, rl', F', vp_updL O 0 r.toInt64) ∧ f_M_lacks n 12 12 60 60 60 360 360 60 180 180 180 288 th (nI w.s) (nI w.p) (nI w.lim) (nF w.fr) (nF w.to) (nF w.lv) (nF w.ds) (nF w.dc) (nF w.df) (nF w.dt) (nF w.mc) (nF w.mw) (nF w.mf) (nF w.mt) (nF w.nd) x y = some (r, 0) := by
  have hs := ok.s
  unfold f_L_lacks f_S_lacks f_M_lacks
  simp only [S_minute, M_minute, S_kn, M_st (show w.s < 1000000 by omega), zd, f_St_count, M_goes3 (show 6 ≤ n by omega)]
  rcases kn_cases w.s (by omega) x with ⟨h0, -⟩ | ⟨a, ha, rfl, h0⟩
  · exact Or.inl ⟨1, by simp [h0, zd], by simp [h0], by decide⟩
  · rcases rg01_01 y 0 99999 with h1 | h1
    · exact Or.inl ⟨2, by simp [h0, h1, zd], by simp [h0, h1], by decide⟩
    · obtain ⟨t, ht, rfl⟩ := rg_of (b := 99999) (by omega) rfl h1
      obtain ⟨F', R, m, e, hR, hm, hF⟩ := S_gath (n := n) hn ok (show a < 12 by omega) (show t < 100000 by omega) rl F
      have hnd := ok.nd (24 * a + t / 60 % 24)
      have e1 : nI t / 60 - nI t / 60 / 24 * 24 = nI (t / 60 % 24) := by
        rw [z_60, z_24, pk_div (by omega) (by omega) (by omega), pk_rem (by omega) (by omega) (by omega)]
      have e2 : f_Ne_neededAt 288 (nF w.nd) (nI a) (nI t) = some (nI (w.nd (24 * a + t / 60 % 24))) := by
        unfold f_Ne_neededAt
        rw [e1, z_24, pk_mul, nI_add, Nat.mul_comm a 24, zb _ (by omega) (by omega), zc (by omega), nF_at]
      rw [e1, z_24, pk_mul, nI_add, zb _ (show 24 * a + t / 60 % 24 < 288 by omega) (by omega), zc (show 24 * a + t / 60 % 24 < 2147483648 by omega), nF_at, M_cnt hn ok (show a < 12 by omega) (show t < 100000 by omega), zd, ← hR.len, e2, zd, St_there (show a < 12 by omega) (show t < 1000000 by omega) ok.fr ok.to, M_there (show a < 12 by omega) (show t < 1000000 by omega) ok.fr ok.to]
      cases hth : tin w.fr w.to t a with
      | false =>
        refine Or.inr ⟨0, rl, F, ?_, ?_⟩
        · simp [h0, h1, zd, b01]
          rfl
        · simp [h0, h1, zd, b01, sr_nm_eq]
      | true =>
        refine Or.inr ⟨if 0 < nI (w.nd (24 * a + t / 60 % 24)) - nI m then nI (w.nd (24 * a + t / 60 % 24)) - nI m else 0, nI m, F', ?_, ?_⟩
        · simp [h0, h1, zd, b01, e]
          rfl
        · by_cases q : 0 < nI (w.nd (24 * a + t / 60 % 24)) - nI m
          · have q2 : ¬ nI (w.nd (24 * a + t / 60 % 24)) - nI m ≤ 0 := Int32.not_le.mpr q
            simp [h0, h1, zd, b01, sr_nm_eq, q, q2]
          · have q2 : nI (w.nd (24 * a + t / 60 % 24)) - nI m ≤ 0 := Int32.not_lt.mp q
            simp [h0, h1, zd, b01, sr_nm_eq, q, q2]
