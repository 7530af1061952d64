
/-! adding times -/
/-- the reference's free flag over the times i .. i + k - 1 of the owner at o -/
def mfr (x y : Int32) (F T : Nat → Int32) (o : Nat) : Int32 → Nat → Nat → Int32
  | u, _, 0 => u
  | u, i, k + 1 => mfr x y F T o (if u = 0 then 0 else if T (o + i) ≤ x then 1 else if y ≤ F (o + i) then 1 else 0) (i + 1) k
theorem mfr_01 (x y : Int32) (F T : Nat → Int32) (o : Nat) : ∀ (k i : Nat) (u : Int32), u = 0 ∨ u = 1 → mfr x y F T o u i k = 0 ∨ mfr x y F T o u i k = 1
  | 0, _, _, h => h
  | k + 1, i, u, h => by
    unfold mfr
    refine mfr_01 x y F T o k (i + 1) _ ?_
    split
    · exact Or.inl rfl
    · split
      · exact Or.inr rfl
      · split
        · exact Or.inr rfl
        · exact Or.inl rfl
theorem mfr_0 (x y : Int32) (F T : Nat → Int32) (o : Nat) : ∀ (k i : Nat), mfr x y F T o 0 i k = 0
  | 0, _ => rfl
  | k + 1, i => by
    unfold mfr
    rw [if_pos rfl]
    exact mfr_0 x y F T o k (i + 1)
theorem mfr_1 {a b : Nat} {f t : Nat → Nat} (ha : a < 1000000) (hb : b < 1000000) (hf : ∀ k, f k < 1000000) (ht : ∀ k, t k < 1000000) (o : Nat) : ∀ (k i : Nat), mfr (nI a) (nI b) (nF f) (nF t) o 1 i k = if (fi (fun j => tmeet f t a b (o + j)) i k).isSome = true then 0 else 1
  | 0, _ => rfl
  | k + 1, i => by
    have hfo := hf (o + i)
    have hto := ht (o + i)
    unfold mfr
    rw [if_neg (by decide), fi_s]
    simp (disch := omega) only [nF_at, zi_le]
    by_cases a1 : t (o + i) ≤ a
    · rw [if_pos a1, if_neg (show ¬ tmeet f t a b (o + i) = true by unfold tmeet; simp; omega)]
      exact mfr_1 ha hb hf ht o k (i + 1)
    · rw [if_neg a1]
      by_cases a2 : b ≤ f (o + i)
      · rw [if_pos a2, if_neg (show ¬ tmeet f t a b (o + i) = true by unfold tmeet; simp; omega)]
        exact mfr_1 ha hb hf ht o k (i + 1)
      · rw [if_neg a2, if_pos (show tmeet f t a b (o + i) = true by unfold tmeet; simp; omega), mfr_0]
        rfl
/-- the owner's new time -/
theorem S_addTime {n N NF NT m o a b : Nat} {c f t : Nat → Nat} (hn : c o < n) (ho : o < N) (hN : N < 65536) (hc : c o ≤ m) (hm : m < 1000) (hF : o * m + m ≤ NF) (hT : o * m + m ≤ NT) (h1 : NF < 65536) (h2 : NT < 65536) (ha : a < 1000000) (hb : b < 1000000) (hf : ∀ k, f k < 1000000) (ht : ∀ k, t k < 1000000) :
    f_S_addTime n N NF NT (nI m) (nF c) (nF f) (nF t) (nI o) (nI a) (nI b) = some (if (fi (fun j => tmeet f t a b (o * m + j)) 0 (c o)).isSome = true then (3, nF c, nF f, nF t) else if m ≤ c o then (4, nF c, nF f, nF t) else (0, nF (fup c o (c o + 1)), nF (fup f (o * m + c o) a), nF (fup t (o * m + c o) b))) := by
  unfold f_S_addTime
  rw [T_meets hn ho hN (by omega) (by omega) h1 h2 ha hb hf ht, zd]
  unfold b01
  by_cases h : (fi (fun j => tmeet f t a b (o * m + j)) 0 (c o)).isSome = true
  · simp [h, f_S_requireState, zd]
  · have e1 : f_T_hasRoom N (nI m) (nF c) (nI o) = some (if m ≤ c o then 0 else 1) := by
      unfold f_T_hasRoom
      simp (disch := omega) only [zb, zc, nF_at, zi_le]
      split <;> rfl
    by_cases hr : m ≤ c o
    · simp [h, f_S_requireState, f_S_requireRoom, zd, e1, hr]
    · have e2 : f_T_add N NF NT (nI m) (nF c) (nF f) (nF t) (nI o) (nI a) (nI b) = some (nF (fup c o (c o + 1)), nF (fup f (o * m + c o) a), nF (fup t (o * m + c o) b)) := by
        unfold f_T_add
        simp (disch := omega) only [zb, zc, nF_at, pk_mul, nI_add, sr_nm_eq, z_1, up_nF]
      simp [h, f_S_requireState, f_S_requireRoom, zd, e1, hr, e2]

theorem M_outf {n o : Nat} {c f t : Nat → Nat} (ho : o < 30) (hc : c o ≤ 4) (V x y th : Int32) : ∀ (k q i : Nat) (u : Int32), u = 0 ∨ u = 1 → i + k = c o → f_M_out_13 n 30 120 120 V (nI o) x y (q + k) 1 u (nI i) th (nF c) (nF f) (nF t) = f_M_out_13 n 30 120 120 V (nI o) x y q 1 (mfr x y (nF f) (nF t) (4 * o) u i k) (nI (c o)) th (nF c) (nF f) (nF t) := by
  intro k
  induction k with
  | zero =>
    intro q i u hu hi
    rw [show i = c o by omega]
    rfl
  | succ k ih =>
    intro q i u hu hi
    rw [show q + (k + 1) = q + k + 1 from rfl, f_M_out_13_eq, if_neg (by decide), zb _ ho (by omega), zc (show o < 2147483648 by omega), nF_at, zi_le _ _ (by omega) (by omega), if_neg (by omega)]
    rcases hu with rfl | rfl
    · rw [if_pos rfl]
      simp (disch := omega) only [sr_nm_eq, z_1, nI_add]
      rw [show nI 1 = 1 from rfl, ih q (i + 1) 0 (Or.inl rfl) (by omega)]
      rfl
    · rw [if_neg (by decide)]
      unfold mfr
      rw [if_neg (by decide)]
      unfold f_M_meet
      simp (disch := omega) only [sr_nm_eq, z_1, nI_add, z_4, pk_mul, zb, zc]
      rw [show nI 1 = 1 from rfl, ih q (i + 1) 1 (Or.inr rfl) (by omega), ih q (i + 1) 0 (Or.inl rfl) (by omega)]
      by_cases a1 : nF t (4 * o + i) ≤ x
      · simp [a1, zd]
      · by_cases a2 : y ≤ nF f (4 * o + i)
        · simp [a1, a2, zd]
        · simp [a1, a2, zd]
theorem ag_out {n v : Nat} {c f t : Nat → Nat} (hn : 100 ≤ n) (hv : v ≤ 30) (hc : ∀ i, c i ≤ 4) (hf : ∀ k, f k ≤ 100000) (ht : ∀ k, t k ≤ 100000) (th x y z : Int32) :
    (∃ k : Int32, f_L_out n 30 120 120 (nI v) (nI 4) (nF c) (nF f) (nF t) x y z = some (k, nF c, nF f, nF t) ∧ f_M_out n 30 120 120 th (nI v) (nF c) (nF f) (nF t) x y z = some (k, nF c, nF f, nF t)) ∨
    ∃ o a b, o < v ∧ a < b ∧ b < 100000 ∧ c o < 4 ∧ f_L_out n 30 120 120 (nI v) (nI 4) (nF c) (nF f) (nF t) x y z = some (0, nF (fup c o (c o + 1)), nF (fup f (o * 4 + c o) a), nF (fup t (o * 4 + c o) b)) ∧ f_M_out n 30 120 120 th (nI v) (nF c) (nF f) (nF t) x y z = some (0, nF (fup c o (c o + 1)), nF (fup f (o * 4 + c o) a), nF (fup t (o * 4 + c o) b)) := by
  unfold f_L_out f_S_out f_M_out
  simp only [S_time, S_kn, M_ve (show v < 1000000 by omega), zd, f_V_count, f_V_outs]
  rcases kn_cases v (by omega) x with ⟨h0, -⟩ | ⟨o, ho, rfl, h0⟩
  · refine Or.inl ⟨1, by simp [h0, zd], ?_⟩
    obtain ⟨q, hq⟩ : ∃ q, n = q + 1 := ⟨n - 1, by omega⟩
    have e : ∀ _u _w _z : Nat, f_M_out_13 n 30 120 120 (nI v) x y z n 0 1 0 th (nF c) (nF f) (nF t) = some (1, nF c, nF f, nF t) := by
      intro _ _ _
      have e0 : ∀ r, r = q + 1 → f_M_out_13 n 30 120 120 (nI v) x y z r 0 1 0 th (nF c) (nF f) (nF t) = some (1, nF c, nF f, nF t) := by
        rintro r rfl
        rw [f_M_out_13_eq]
        simp [M_time, M_goes15 (show 6 ≤ n by omega), zd]
      exact e0 n hq
    rw [h0]
    exact e 0 0 0
  · have hco := hc o
    have hb1 : ∀ k, f k < 1000000 := fun k => by have := hf k; omega
    have hb2 : ∀ k, t k < 1000000 := fun k => by have := ht k; omega
    have e2 : f_M_out_13 n 30 120 120 (nI v) (nI o) y z n 1 1 0 th (nF c) (nF f) (nF t) = f_M_out_13 n 30 120 120 (nI v) (nI o) y z (n - c o - 1 + 1) 1 (mfr y z (nF f) (nF t) (4 * o) 1 0 (c o)) (nI (c o)) th (nF c) (nF f) (nF t) := by
      rw [← M_outf (show o < 30 by omega) hco (nI v) y z th (c o) (n - c o - 1 + 1) 0 1 (Or.inr rfl) (by omega), show n - c o - 1 + 1 + c o = n by omega]
      rfl
    simp only [h0, if_true]
    rw [e2, f_M_out_13_eq, if_neg (show ¬ (1 : Int32) = 0 by decide), zb _ (show o < 30 by omega) (by omega), zc (show o < 2147483648 by omega), nF_at, if_pos (nI_le (Nat.le_refl _) (by omega))]
    simp only [M_time, zd, M_goes15 (show 6 ≤ n by omega)]
    have hm := mfr_01 y z (nF f) (nF t) (4 * o) (c o) 0 1 (Or.inr rfl)
    rcases tm_01 y z with h1 | h1
    · refine Or.inl ⟨2, by simp [h1, zd], ?_⟩
      by_cases h2 : (4 : Int32) ≤ nI (c o) <;> simp [h1, h2, zd, zb _ (show o < 30 by omega) (show 30 < 2147483648 by omega)]
    · obtain ⟨a, b, hab, hb, rfl, rfl⟩ := tm_of h1
      rw [mfr_1 (by omega) (by omega) hb1 hb2, S_addTime (by omega) (show o < 30 by omega) (by omega) hco (by omega) (by omega) (by omega) (by omega) (by omega) (by omega) (by omega) hb1 hb2, Nat.mul_comm 4 o]
      by_cases h3 : (fi (fun j => tmeet f t a b (o * 4 + j)) 0 (c o)).isSome = true
      · refine Or.inl ⟨3, by simp [h1, h3, zd], ?_⟩
        by_cases h2 : (4 : Int32) ≤ nI (c o) <;> simp [h1, h2, h3, zd, zb _ (show o < 30 by omega) (show 30 < 2147483648 by omega)]
      · by_cases h4 : c o < 4
        · have h2 : ¬ (4 : Int32) ≤ nI (c o) := fun q => (le_c (C := 4) rfl hco (by omega)).mp q h4
          refine Or.inr ⟨o, a, b, ho, hab, hb, h4, ?_, ?_⟩
          · simp [h1, h3, show ¬ 4 ≤ c o by omega, zd]
          · simp [h1, h2, h3, zd, zb _ (show o < 30 by omega) (show 30 < 2147483648 by omega)]
            simp (disch := omega) only [z_4, z_1, pk_mul, nI_add, zb, zc, nF_at, up_nF]
            rw [Nat.mul_comm 4 o]
        · have h2 : (4 : Int32) ≤ nI (c o) := (le_c (C := 4) rfl hco (by omega)).mpr h4
          exact Or.inl ⟨4, by simp [h1, h3, show 4 ≤ c o by omega, zd], by simp [h1, h2, h3, zd, zb _ (show o < 30 by omega) (show 30 < 2147483648 by omega)]⟩

theorem M_dutyf {n o : Nat} {c f t : Nat → Nat} (ho : o < 60) (hc : c o ≤ 6) (V x y th : Int32) : ∀ (k q i : Nat) (u : Int32), u = 0 ∨ u = 1 → i + k = c o → f_M_duty_13 n 60 360 360 V (nI o) x y (q + k) 1 u (nI i) th (nF c) (nF f) (nF t) = f_M_duty_13 n 60 360 360 V (nI o) x y q 1 (mfr x y (nF f) (nF t) (6 * o) u i k) (nI (c o)) th (nF c) (nF f) (nF t) := by
  intro k
  induction k with
  | zero =>
    intro q i u hu hi
    rw [show i = c o by omega]
    rfl
  | succ k ih =>
    intro q i u hu hi
    rw [show q + (k + 1) = q + k + 1 from rfl, f_M_duty_13_eq, if_neg (by decide), zb _ ho (by omega), zc (show o < 2147483648 by omega), nF_at, zi_le _ _ (by omega) (by omega), if_neg (by omega)]
    rcases hu with rfl | rfl
    · rw [if_pos rfl]
      simp (disch := omega) only [sr_nm_eq, z_1, nI_add]
      rw [show nI 1 = 1 from rfl, ih q (i + 1) 0 (Or.inl rfl) (by omega)]
      rfl
    · rw [if_neg (by decide)]
      unfold mfr
      rw [if_neg (by decide)]
      unfold f_M_meet
      simp (disch := omega) only [sr_nm_eq, z_1, nI_add, z_6, pk_mul, zb, zc]
      rw [show nI 1 = 1 from rfl, ih q (i + 1) 1 (Or.inr rfl) (by omega), ih q (i + 1) 0 (Or.inl rfl) (by omega)]
      by_cases a1 : nF t (6 * o + i) ≤ x
      · simp [a1, zd]
      · by_cases a2 : y ≤ nF f (6 * o + i)
        · simp [a1, a2, zd]
        · simp [a1, a2, zd]
theorem ag_duty {n v : Nat} {c f t : Nat → Nat} (hn : 100 ≤ n) (hv : v ≤ 60) (hc : ∀ i, c i ≤ 6) (hf : ∀ k, f k ≤ 100000) (ht : ∀ k, t k ≤ 100000) (th x y z : Int32) :
    (∃ k : Int32, f_L_duty n 60 360 360 (nI v) (nI 6) (nF c) (nF f) (nF t) x y z = some (k, nF c, nF f, nF t) ∧ f_M_duty n 60 360 360 th (nI v) (nF c) (nF f) (nF t) x y z = some (k, nF c, nF f, nF t)) ∨
    ∃ o a b, o < v ∧ a < b ∧ b < 100000 ∧ c o < 6 ∧ f_L_duty n 60 360 360 (nI v) (nI 6) (nF c) (nF f) (nF t) x y z = some (0, nF (fup c o (c o + 1)), nF (fup f (o * 6 + c o) a), nF (fup t (o * 6 + c o) b)) ∧ f_M_duty n 60 360 360 th (nI v) (nF c) (nF f) (nF t) x y z = some (0, nF (fup c o (c o + 1)), nF (fup f (o * 6 + c o) a), nF (fup t (o * 6 + c o) b)) := by
  unfold f_L_duty f_S_duty f_M_duty
  simp only [S_time, S_kn, M_pe (show v < 1000000 by omega), zd, f_P_count, f_P_duties]
  rcases kn_cases v (by omega) x with ⟨h0, -⟩ | ⟨o, ho, rfl, h0⟩
  · refine Or.inl ⟨1, by simp [h0, zd], ?_⟩
    obtain ⟨q, hq⟩ : ∃ q, n = q + 1 := ⟨n - 1, by omega⟩
    have e : ∀ _u _w _z : Nat, f_M_duty_13 n 60 360 360 (nI v) x y z n 0 1 0 th (nF c) (nF f) (nF t) = some (1, nF c, nF f, nF t) := by
      intro _ _ _
      have e0 : ∀ r, r = q + 1 → f_M_duty_13 n 60 360 360 (nI v) x y z r 0 1 0 th (nF c) (nF f) (nF t) = some (1, nF c, nF f, nF t) := by
        rintro r rfl
        rw [f_M_duty_13_eq]
        simp [M_time, M_goes15 (show 6 ≤ n by omega), zd]
      exact e0 n hq
    rw [h0]
    exact e 0 0 0
  · have hco := hc o
    have hb1 : ∀ k, f k < 1000000 := fun k => by have := hf k; omega
    have hb2 : ∀ k, t k < 1000000 := fun k => by have := ht k; omega
    have e2 : f_M_duty_13 n 60 360 360 (nI v) (nI o) y z n 1 1 0 th (nF c) (nF f) (nF t) = f_M_duty_13 n 60 360 360 (nI v) (nI o) y z (n - c o - 1 + 1) 1 (mfr y z (nF f) (nF t) (6 * o) 1 0 (c o)) (nI (c o)) th (nF c) (nF f) (nF t) := by
      rw [← M_dutyf (show o < 60 by omega) hco (nI v) y z th (c o) (n - c o - 1 + 1) 0 1 (Or.inr rfl) (by omega), show n - c o - 1 + 1 + c o = n by omega]
      rfl
    simp only [h0, if_true]
    rw [e2, f_M_duty_13_eq, if_neg (show ¬ (1 : Int32) = 0 by decide), zb _ (show o < 60 by omega) (by omega), zc (show o < 2147483648 by omega), nF_at, if_pos (nI_le (Nat.le_refl _) (by omega))]
    simp only [M_time, zd, M_goes15 (show 6 ≤ n by omega)]
    have hm := mfr_01 y z (nF f) (nF t) (6 * o) (c o) 0 1 (Or.inr rfl)
    rcases tm_01 y z with h1 | h1
    · refine Or.inl ⟨2, by simp [h1, zd], ?_⟩
      by_cases h2 : (6 : Int32) ≤ nI (c o) <;> simp [h1, h2, zd, zb _ (show o < 60 by omega) (show 60 < 2147483648 by omega)]
    · obtain ⟨a, b, hab, hb, rfl, rfl⟩ := tm_of h1
      rw [mfr_1 (by omega) (by omega) hb1 hb2, S_addTime (by omega) (show o < 60 by omega) (by omega) hco (by omega) (by omega) (by omega) (by omega) (by omega) (by omega) (by omega) hb1 hb2, Nat.mul_comm 6 o]
      by_cases h3 : (fi (fun j => tmeet f t a b (o * 6 + j)) 0 (c o)).isSome = true
      · refine Or.inl ⟨3, by simp [h1, h3, zd], ?_⟩
        by_cases h2 : (6 : Int32) ≤ nI (c o) <;> simp [h1, h2, h3, zd, zb _ (show o < 60 by omega) (show 60 < 2147483648 by omega)]
      · by_cases h4 : c o < 6
        · have h2 : ¬ (6 : Int32) ≤ nI (c o) := fun q => (le_c (C := 6) rfl hco (by omega)).mp q h4
          refine Or.inr ⟨o, a, b, ho, hab, hb, h4, ?_, ?_⟩
          · simp [h1, h3, show ¬ 6 ≤ c o by omega, zd]
          · simp [h1, h2, h3, zd, zb _ (show o < 60 by omega) (show 60 < 2147483648 by omega)]
            simp (disch := omega) only [z_6, z_1, pk_mul, nI_add, zb, zc, nF_at, up_nF]
            rw [Nat.mul_comm 6 o]
        · have h2 : (6 : Int32) ≤ nI (c o) := (le_c (C := 6) rfl hco (by omega)).mpr h4
          exact Or.inl ⟨4, by simp [h1, h3, show 6 ≤ c o by omega, zd], by simp [h1, h2, h3, zd, zb _ (show o < 60 by omega) (show 60 < 2147483648 by omega)]⟩
