/-- how many of the places i .. i + k - 1 -/
def cnt (P : Nat → Bool) : Nat → Nat → Nat
  | _, 0 => 0
  | i, k + 1 => (if P i = true then 1 else 0) + cnt P (i + 1) k
theorem cnt_s (P : Nat → Bool) (i k : Nat) : cnt P i (k + 1) = (if P i = true then 1 else 0) + cnt P (i + 1) k := rfl
theorem cnt_le (P : Nat → Bool) : ∀ (k i : Nat), cnt P i k ≤ k
  | 0, _ => Nat.le_refl _
  | k + 1, i => by
    rw [cnt_s]
    have := cnt_le P k (i + 1)
    by_cases h : P i = true <;> simp [h] <;> omega
theorem P_lim {n p l : Nat} {d : Nat → Nat} (hp : p ≤ 60) (hl : l ≤ 120) (hd : ∀ i, d i ≤ 120) (x : Int32) : ∀ (k q a i : Nat), i + k = p → k < q → a + k < 1000 → f_P_changeLimit_9 n 60 (nI p) (nF d) x q (nI a) (nI i) (nI l) = some (nI (a + cnt (fun j => decide (l < d j)) i k), nI l) := by
  intro k
  induction k with
  | zero =>
    intro q a i hi hq ha
    obtain ⟨q, rfl⟩ : ∃ r, q = r + 1 := ⟨q - 1, by omega⟩
    rw [f_P_changeLimit_9_eq, if_pos (nI_le (by omega) (by omega))]
    rfl
  | succ k ih =>
    intro q a i hi hq ha
    obtain ⟨q, rfl⟩ : ∃ r, q = r + 1 := ⟨q - 1, by omega⟩
    have h1 := hd i
    rw [f_P_changeLimit_9_eq]
    simp (disch := omega) only [zi_le, zb, zc, nF_at, sr_nm_eq, z_1, nI_add]
    rw [if_neg (by omega), ih q _ (i + 1) (by omega) (by omega) (by omega), ih q _ (i + 1) (by omega) (by omega) (by omega), cnt_s]
    by_cases h : l < d i
    · rw [if_neg (by omega), if_pos (by simp; omega), Nat.add_assoc]
    · rw [if_pos (by omega), if_neg (by simp; omega), Nat.zero_add]
theorem M_lim {n p l : Nat} {d : Nat → Nat} (hp : p ≤ 60) (hl : l ≤ 120) (hd : ∀ i, d i ≤ 120) (th x : Int32) : ∀ (k q a i : Nat), i + k = p → k < q → a + k < 1000 → f_M_limit_29 n 60 (nI p) (nF d) (nI l) q (nI a) (nI i) th x = some (nI (a + cnt (fun j => decide (l < d j)) i k), th, x) := by
  intro k
  induction k with
  | zero =>
    intro q a i hi hq ha
    obtain ⟨q, rfl⟩ : ∃ r, q = r + 1 := ⟨q - 1, by omega⟩
    rw [f_M_limit_29_eq, if_pos (nI_le (by omega) (by omega))]
    rfl
  | succ k ih =>
    intro q a i hi hq ha
    obtain ⟨q, rfl⟩ : ∃ r, q = r + 1 := ⟨q - 1, by omega⟩
    have h1 := hd i
    rw [f_M_limit_29_eq]
    simp (disch := omega) only [zi_le, zb, zc, nF_at, sr_nm_eq, z_1, nI_add]
    rw [if_neg (by omega), ih q _ (i + 1) (by omega) (by omega) (by omega), ih q _ (i + 1) (by omega) (by omega) (by omega), cnt_s]
    by_cases h : l < d i
    · rw [if_neg (by omega), if_pos (by simp; omega), Nat.add_assoc]
    · rw [if_pos (by omega), if_neg (by simp; omega), Nat.zero_add]
theorem ag_limit {n p l : Nat} {d : Nat → Nat} (hn : 100 ≤ n) (hp : p ≤ 60) (hd : ∀ i, d i ≤ 120) (O : Nat → Int64) (th x : Int32) :
    (∃ k : Int32, f_L_limit n 60 1 (nI p) (nI l) (nF d) O x = some (k, nI l, O) ∧ f_M_limit n 60 th (nI p) (nI l) (nF d) x = some (0, k, nI l) ∧ ¬ k = 0) ∨
    ∃ (l' : Nat) (r : Int32), l' ≤ 120 ∧ f_L_limit n 60 1 (nI p) (nI l) (nF d) O x = some (0, nI l', vp_updL O 0 r.toInt64) ∧ f_M_limit n 60 th (nI p) (nI l) (nF d) x = some (r, 0, nI l') := by
  unfold f_L_limit f_S_limit f_M_limit f_P_changeLimit
  simp only [S_rg, M_rg, zd, M_goes2 (show 6 ≤ n by omega)]
  rcases rg01_01 x 0 120 with h | h
  · exact Or.inl ⟨1, by simp [h, zd], by simp [h, zd], by decide⟩
  · obtain ⟨b, hb, rfl⟩ := rg_of (b := 120) (by omega) rfl h
    have e1 : f_P_changeLimit_9 n 60 (nI p) (nF d) (nI b) n 0 0 (nI b) = _ := P_lim hp hb hd (nI b) p n 0 0 (by omega) (by omega) (by omega)
    have e2 : f_M_limit_29 n 60 (nI p) (nF d) (nI b) n 0 0 0 (nI b) = _ := M_lim hp hb hd 0 (nI b) p n 0 0 (by omega) (by omega) (by omega)
    refine Or.inr ⟨b, nI (0 + cnt (fun j => decide (b < d j)) 0 p), hb, ?_, ?_⟩
    · simp [h, zd, e1]
      rfl
    · simp [h, zd, e2]
theorem V_cnt {n v : Nat} {h : Nat → Nat} (hv : v ≤ 30) (x : Int32) : ∀ (k q a i : Nat), i + k = v → k < q → a + k < 1000 → f_V_countOf_4 n 30 (nI v) (nF h) x q (nI a) (nI i) = some (nI (a + cnt (fun j => decide (nI (h j) = x)) i k)) := by
  intro k
  induction k with
  | zero =>
    intro q a i hi hq ha
    obtain ⟨q, rfl⟩ : ∃ r, q = r + 1 := ⟨q - 1, by omega⟩
    rw [f_V_countOf_4_eq, if_pos (nI_le (by omega) (by omega))]
    rfl
  | succ k ih =>
    intro q a i hi hq ha
    obtain ⟨q, rfl⟩ : ∃ r, q = r + 1 := ⟨q - 1, by omega⟩
    rw [f_V_countOf_4_eq]
    simp (disch := omega) only [zi_le, zb, zc, nF_at, sr_nm_eq, z_1, nI_add]
    rw [if_neg (by omega), ih q _ (i + 1) (by omega) (by omega) (by omega), ih q _ (i + 1) (by omega) (by omega) (by omega), cnt_s]
    by_cases h : nI (h i) = x
    · rw [if_pos h, if_pos (by simp; exact h), Nat.add_assoc]
    · rw [if_neg h, if_neg (by simp; exact h), Nat.zero_add]
theorem M_vcnt {n v : Nat} {h : Nat → Nat} (hv : v ≤ 30) (st x y z th : Int32) (D K C : Nat → Int32) : ∀ (k q a i : Nat), i + k = v → a + k < 1000 → f_M_vehicle_6 n 12 30 30 30 st D x y z (q + k) (nI a) (nI i) th (nI v) (nF h) K C = f_M_vehicle_6 n 12 30 30 30 st D x y z q (nI (a + cnt (fun j => decide (nI (h j) = x)) i k)) (nI v) th (nI v) (nF h) K C := by
  intro k
  induction k with
  | zero =>
    intro q a i hi ha
    rw [show i = v by omega]
    rfl
  | succ k ih =>
    intro q a i hi ha
    rw [show q + (k + 1) = q + k + 1 from rfl, f_M_vehicle_6_eq, zi_le _ _ (by omega) (by omega), if_neg (by omega), zb _ (by omega) (by omega)]
    simp (disch := omega) only [zc, nF_at, sr_nm_eq, z_1, nI_add]
    rw [ih q _ (i + 1) (by omega) (by omega), ih q _ (i + 1) (by omega) (by omega), cnt_s]
    by_cases h : nI (h i) = x
    · rw [if_pos h, if_pos (by simp; exact h), Nat.add_assoc]
    · rw [if_neg h, if_neg (by simp; exact h), Nat.zero_add]
theorem V_add {p : Nat} (hp : p < 30) (h d e : Nat → Nat) (a b c : Nat) : f_V_add 30 30 30 (nI p) (nF h) (nF d) (nF e) (nI a) (nI b) (nI c) = some (nI p, nI (p + 1), nF (fup h p a), nF (fup d p b), nF (fup e p c)) := by
  unfold f_V_add
  simp (disch := omega) only [zb, sr_nm_eq, z_1, nI_add, zc, up_nF]
theorem ag_vehicle {n s v : Nat} {d h kd c : Nat → Nat} (hn : 100 ≤ n) (hs : s ≤ 12) (hv : v ≤ 30) (O : Nat → Int64) (th x y z : Int32) :
    (∃ k : Int32, f_L_vehicle n 12 30 30 30 1 (nI s) (nF d) (nI v) (nF h) (nF kd) (nF c) O x y z = some (k, nI v, nF h, nF kd, nF c, O) ∧ f_M_vehicle n 12 30 30 30 th (nI s) (nI v) (nF d) (nF h) (nF kd) (nF c) x y z = some (0, k, nI v, nF h, nF kd, nF c) ∧ ¬ k = 0) ∨
    ∃ a b e, a < s ∧ b ≤ 9 ∧ e ≤ 9 ∧ v < 30 ∧ f_L_vehicle n 12 30 30 30 1 (nI s) (nF d) (nI v) (nF h) (nF kd) (nF c) O x y z = some (0, nI (v + 1), nF (fup h v a), nF (fup kd v b), nF (fup c v e), vp_updL O 0 (nI v).toInt64) ∧ f_M_vehicle n 12 30 30 30 th (nI s) (nI v) (nF d) (nF h) (nF kd) (nF c) x y z = some (nI v, 0, nI (v + 1), nF (fup h v a), nF (fup kd v b), nF (fup c v e)) := by
  have e2 : f_M_vehicle n 12 30 30 30 th (nI s) (nI v) (nF d) (nF h) (nF kd) (nF c) x y z = f_M_vehicle_6 n 12 30 30 30 (nI s) (nF d) x y z (n - v - 1 + 1) (nI (0 + cnt (fun j => decide (nI (h j) = x)) 0 v)) (nI v) th (nI v) (nF h) (nF kd) (nF c) := by
    rw [← M_vcnt hv (nI s) x y z th (nF d) (nF kd) (nF c) v (n - v - 1 + 1) 0 0 (by omega) (by omega), show n - v - 1 + 1 + v = n by omega]
    rfl
  rw [e2, f_M_vehicle_6_eq, if_pos (nI_le (Nat.le_refl _) (by omega))]
  have e1 : f_V_countOf n 30 (nI v) (nF h) x = some (nI (0 + cnt (fun j => decide (nI (h j) = x)) 0 v)) := V_cnt hv x v n 0 0 (by omega) (by omega) (by omega)
  unfold f_L_vehicle f_S_vehicle
  rw [e1]
  generalize nI (0 + cnt (fun j => decide (nI (h j) = x)) 0 v) = C
  simp only [S_rg, M_rg, S_kn, M_st (show s < 1000000 by omega), zd, f_St_count, f_V_count, M_goes11 (show 6 ≤ n by omega), f_S_requireRoom, f_St_doorsOf]
  rcases kn_cases s (by omega) x with ⟨h0, -⟩ | ⟨a, ha, rfl, h0⟩
  · refine Or.inl ⟨1, by simp [h0, zd], ?_, by decide⟩
    rcases rg01_01 y 0 9 with h1 | h1 <;> rcases rg01_01 z 0 9 with h2 | h2 <;> by_cases h3 : (30 : Int32) ≤ nI v <;> simp [h0, h1, h2, h3, zd]
  · rw [zb _ (show a < 12 by omega) (by omega)]
    simp only [zb _ (show a < 12 by omega) (show 12 < 2147483648 by omega), zd, zc (show a < 2147483648 by omega)]
    rcases rg01_01 y 0 9 with h1 | h1
    · refine Or.inl ⟨2, by simp [h0, h1, zd], ?_, by decide⟩
      by_cases h3 : (30 : Int32) ≤ nI v <;> by_cases h4 : nF d a ≤ C <;> simp [h0, h1, h3, h4, zd]
    · rcases rg01_01 z 0 9 with h2 | h2
      · refine Or.inl ⟨2, by simp [h0, h1, h2, zd], ?_, by decide⟩
        by_cases h3 : (30 : Int32) ≤ nI v <;> by_cases h4 : nF d a ≤ C <;> simp [h0, h1, h2, h3, h4, zd]
      · by_cases h5 : v < 30
        · have h3 : ¬ (30 : Int32) ≤ nI v := fun q => (le_c (C := 30) rfl hv (by omega)).mp q h5
          by_cases h4 : nF d a ≤ C
          · exact Or.inl ⟨3, by simp [h0, h1, h2, h3, h4, zd], by simp [h0, h1, h2, h3, h4, zd], by decide⟩
          · obtain ⟨b, hb, rfl⟩ := rg_of (b := 9) (by omega) rfl h1
            obtain ⟨e, he, rfl⟩ := rg_of (b := 9) (by omega) rfl h2
            refine Or.inr ⟨a, b, e, ha, hb, he, h5, ?_, ?_⟩
            · simp [h0, h1, h2, h3, h4, zd, V_add h5]
              rfl
            · simp [h0, h1, h2, h3, h4, zd]
              simp (disch := omega) only [zb, sr_nm_eq, z_1, nI_add, zc, up_nF, zs]
              rfl
        · have h3 : (30 : Int32) ≤ nI v := (le_c (C := 30) rfl hv (by omega)).mpr h5
          exact Or.inl ⟨3, by simp [h0, h1, h2, h3, zd], by simp [h0, h1, h2, h3, zd], by decide⟩
