theorem cnt_ext {P Q : Nat → Bool} : ∀ (k i : Nat), (∀ j, i ≤ j → j < i + k → P j = Q j) → cnt P i k = cnt Q i k
  | 0, _, _ => rfl
  | k + 1, i, h => by
    rw [cnt_s, cnt_s, h i (Nat.le_refl _) (by omega), cnt_ext k (i + 1) (fun j h1 h2 => h j (by omega) (by omega))]
theorem cnt_none {P : Nat → Bool} : ∀ (k i : Nat), (∀ j, i ≤ j → j < i + k → P j = false) → cnt P i k = 0
  | 0, _, _ => rfl
  | k + 1, i, h => by
    rw [cnt_s, h i (Nat.le_refl _) (by omega), cnt_none k (i + 1) (fun j h1 h2 => h j (by omega) (by omega))]
    rfl
theorem cnt_add (P : Nat → Bool) : ∀ (k m i : Nat), cnt P i (k + m) = cnt P i k + cnt P (i + k) m
  | 0, m, i => by rw [Nat.zero_add]; simp [cnt]
  | k + 1, m, i => by
    rw [show k + 1 + m = k + m + 1 by omega, cnt_s, cnt_s, cnt_add P k m (i + 1), show i + 1 + k = i + (k + 1) by omega]
    omega
/-- the r-th place from i on, of k, where P holds -/
def nth (P : Nat → Bool) : Nat → Nat → Nat → Option Nat
  | _, 0, _ => none
  | i, k + 1, r => if P i = true then (if r = 0 then some i else nth P (i + 1) k (r - 1)) else nth P (i + 1) k r
theorem nth_s (P : Nat → Bool) (i k r : Nat) : nth P i (k + 1) r = if P i = true then (if r = 0 then some i else nth P (i + 1) k (r - 1)) else nth P (i + 1) k r := rfl
theorem nth_none {P : Nat → Bool} : ∀ (k i r : Nat), (∀ j, i ≤ j → j < i + k → P j = false) → nth P i k r = none
  | 0, _, _, _ => rfl
  | k + 1, i, r, h => by
    rw [nth_s, h i (Nat.le_refl _) (by omega), if_neg (by decide), nth_none k (i + 1) r (fun j h1 h2 => h j (by omega) (by omega))]
theorem nth_more {P : Nat → Bool} : ∀ (k m i r : Nat), (∀ j, i + k ≤ j → j < i + (k + m) → P j = false) → nth P i (k + m) r = nth P i k r
  | 0, m, i, r, h => by
    rw [Nat.zero_add]
    exact nth_none m i r (fun j h1 h2 => h j (by omega) (by omega))
  | k + 1, m, i, r, h => by
    rw [show k + 1 + m = k + m + 1 by omega, nth_s, nth_s, nth_more k m (i + 1) (r - 1) (fun j h1 h2 => h j (by omega) (by omega)), nth_more k m (i + 1) r (fun j h1 h2 => h j (by omega) (by omega))]
/-- the reference's keys -/
def kF (h : Nat → Nat) : Nat → Int32 := fun j => b01 ((h (j % 100)).testBit (j / 100))
theorem kF_at (h : Nat → Nat) {k j : Nat} (hk : k < 100) : kF h (100 * j + k) = b01 ((h k).testBit j) := by
  unfold kF
  rw [show (100 * j + k) % 100 = k by omega, show (100 * j + k) / 100 = j by omega]
theorem b01_0 (b : Bool) : b01 b = 0 ↔ b = false := by cases b <;> decide
theorem b01_1 (b : Bool) : b01 b = 1 ↔ b = true := by cases b <;> decide
theorem K_isAt (h : Nat → Nat) {k j : Nat} (hk : k < 100) (hj : j < 12) : f_Ky_isAt 100 (nF h) (nI k) (nI j) = some (b01 ((h k).testBit j)) := by
  unfold f_Ky_isAt
  rw [zb _ hk (by omega), zc (by omega), nF_at, zic (nI_at hj)]
  cases (h k).testBit j <;> rfl
theorem K_flip (h : Nat → Nat) {k j : Nat} (hk : k < 100) (hj : j < 12) : f_Ky_flip 100 (nF h) (nI k) (nI j) = some (nF (fup h k (h k ^^^ 2 ^ j))) := by
  unfold f_Ky_flip
  rw [zb _ hk (by omega), zb _ hk (by omega), zc (by omega), nF_at, nI_fl hj, up_nF]
theorem kF_up (h : Nat → Nat) {k j : Nat} (hk : k < 100) (hj : j < 12) : upd (kF h) (100 * j + k) (b01 (! (h k).testBit j)) = kF (fup h k (h k ^^^ 2 ^ j)) := by
  funext i
  unfold upd kF fup
  by_cases hi : i = 100 * j + k
  · rw [if_pos hi, hi, show (100 * j + k) % 100 = k by omega, show (100 * j + k) / 100 = j by omega, if_pos rfl, Nat.testBit_xor, Nat.testBit_two_pow]
    simp
  · rw [if_neg hi]
    by_cases h1 : i % 100 = k
    · rw [if_pos h1, Nat.testBit_xor, Nat.testBit_two_pow, h1]
      have : ¬ j = i / 100 := by omega
      simp [this]
    · rw [if_neg h1]
theorem ag_key {n s : Nat} {h : Nat → Nat} (hn : 100 ≤ n) (hs : s ≤ 12) (hh : ∀ i, h i < 2 ^ s) (th x y : Int32) (b : Bool) :
    ∃ (k : Int32) (h' : Nat → Nat), f_L_key 100 (nI s) (nF h) x y (b01 b) = some (k, nF h') ∧ f_M_key n 1200 th (nI s) (kF h) x y (b01 b) = some (k, kF h') ∧ ∀ i, h' i < 2 ^ s := by
  unfold f_L_key f_S_key f_M_key
  simp only [S_rg, M_rg, S_kn, M_st (show s < 1000000 by omega), zd, f_St_count, M_goes7 (show 6 ≤ n by omega), f_S_requireState]
  rcases kn_cases s (by omega) x with ⟨h0, -⟩ | ⟨a, ha, rfl, h0⟩
  · exact ⟨1, h, by simp [h0, zd], by simp [h0, zd], hh⟩
  · rcases rg01_01 y 0 99 with h1 | h1
    · exact ⟨2, h, by simp [h0, h1, zd], by simp [h0, h1, zd], hh⟩
    · obtain ⟨c, hc, rfl⟩ := rg_of (b := 99) (by omega) rfl h1
      have e0 : (100 : Int32) * nI a + nI c = nI (100 * a + c) := by rw [z_100, pk_mul, nI_add]
      have hin : 100 * a + c < 1200 := by omega
      have eb : vp_nar .boolean (b01 b) = b01 b := by cases b <;> rfl
      simp only [K_isAt h (show c < 100 by omega) (show a < 12 by omega), zd, e0, zb _ hin (show 1200 < 2147483648 by omega), zc (show 100 * a + c < 2147483648 by omega), kF_at h (show c < 100 by omega), eb, K_flip h (show c < 100 by omega) (show a < 12 by omega)]
      by_cases hb : (h c).testBit a = b
      · refine ⟨3, h, ?_, ?_, hh⟩
        · simp [h0, h1, hb, zd]
        · simp [h0, h1, hb, zd]
      · have hb1 : ¬ b01 ((h c).testBit a) = b01 b := fun q => hb (by
          revert q
          cases (h c).testBit a <;> cases b <;> simp [b01])
        have hb2 : b = ! (h c).testBit a := by
          revert hb
          cases (h c).testBit a <;> cases b <;> simp
        refine ⟨0, fup h c (h c ^^^ 2 ^ a), ?_, ?_, ?_⟩
        · simp [h0, h1, hb1, zd]
        · simp [h0, h1, hb1, zd]
          rw [hb2]
          exact kF_up h (by omega) (by omega)
        · intro i
          unfold fup
          split
          · exact Nat.xor_lt_two_pow (hh c) (Nat.pow_lt_pow_right (by omega) ha)
          · exact hh i
theorem K_row {n r c : Nat} {h : Nat → Nat} (hr : r < 2147483648) (hc : c < 100) : ∀ (k q b i : Nat), i + k = 12 → k < q → b ≤ i → b ≤ r → f_Ky_stationInRow_5 n 100 (nF h) (nI c) (nI r) q (nI b) (nI i) = some (fiZ (nth (h c).testBit i k (r - b))) := by
  intro k
  induction k with
  | zero =>
    intro q b i hi hq hb hbr
    obtain ⟨q, rfl⟩ : ∃ r, q = r + 1 := ⟨q - 1, by omega⟩
    rw [f_Ky_stationInRow_5_eq, show i = 12 by omega]
    rfl
  | succ k ih =>
    intro q b i hi hq hb hbr
    obtain ⟨q, rfl⟩ : ∃ r, q = r + 1 := ⟨q - 1, by omega⟩
    rw [f_Ky_stationInRow_5_eq, K_isAt h hc (show i < 12 by omega), zd]
    simp (disch := omega) only [z_12, zi_le, zi_eq, z_1, sr_nm_eq, nI_add]
    rw [if_neg (by omega), nth_s]
    cases hp : (h c).testBit i with
    | false =>
      rw [if_pos (show b01 false = 0 from rfl), ih q b (i + 1) (by omega) (by omega) (by omega) hbr]
      rfl
    | true =>
      rw [if_neg (show ¬ b01 true = 0 by decide), if_pos rfl]
      by_cases hq : b = r
      · rw [if_pos hq, if_pos (by omega)]
        rfl
      · rw [if_neg hq, if_neg (by omega), ih q (b + 1) (i + 1) (by omega) (by omega) (by omega) (by omega)]
        rfl
theorem M_row {n s c : Nat} {h : Nat → Nat} (hs : s ≤ 12) (hc : c < 100) (x th : Int32) : ∀ (k q r i : Nat), i + k = s → k < q → r < 2147483648 → f_M_holder_37 n 1200 (nI s) (kF h) (nI c) x q (nI r) (nI i) th = some (fiZ (nth (h c).testBit i k r), th) := by
  intro k
  induction k with
  | zero =>
    intro q r i hi hq hr
    obtain ⟨q, rfl⟩ : ∃ r, q = r + 1 := ⟨q - 1, by omega⟩
    rw [f_M_holder_37_eq, if_pos (nI_le (by omega) (by omega))]
    rfl
  | succ k ih =>
    intro q r i hi hq hr
    obtain ⟨q, rfl⟩ : ∃ r, q = r + 1 := ⟨q - 1, by omega⟩
    rw [f_M_holder_37_eq]
    simp (disch := omega) only [z_100, pk_mul, zi_le, zi_eq, z_1, z_0, sr_nm_eq, nI_add, zb, zc]
    rw [if_neg (by omega), kF_at h hc, nth_s]
    cases hp : (h c).testBit i with
    | false =>
      rw [if_pos (show b01 false = nI 0 from rfl), ih q r (i + 1) (by omega) (by omega) hr]
      rfl
    | true =>
      rw [if_neg (show ¬ b01 true = nI 0 by decide), if_pos rfl]
      by_cases hq : r = 0
      · rw [if_pos hq, if_pos hq]
        rfl
      · rw [if_neg hq, if_neg hq, show nI r + -nI 1 = nI (r - 1) from (show nI r + -nI 1 = nI r - nI 1 by rw [Int32.sub_eq_add_neg]).trans (pk_sub (by omega)), ih q (r - 1) (i + 1) (by omega) (by omega) (by omega)]
theorem tb_hi {h s j : Nat} (hh : h < 2 ^ s) (hj : s ≤ j) : h.testBit j = false := Nat.testBit_lt_two_pow (Nat.lt_of_lt_of_le hh (Nat.pow_le_pow_right (by omega) hj))
theorem ag_holder {n s : Nat} {h : Nat → Nat} (hn : 100 ≤ n) (hs : s ≤ 12) (hh : ∀ i, h i < 2 ^ s) (O : Nat → Int64) (th x y : Int32) :
    (∃ k : Int32, f_L_holder n 100 1 (nF h) O x y = some (k, O) ∧ f_M_holder n 1200 th (nI s) (kF h) x y = some (0, k) ∧ ¬ k = 0) ∨
    ∃ r : Int32, f_L_holder n 100 1 (nF h) O x y = some (0, vp_updL O 0 r.toInt64) ∧ f_M_holder n 1200 th (nI s) (kF h) x y = some (r, 0) := by
  unfold f_L_holder f_S_holder f_M_holder
  simp only [S_rg, M_rg, zd, M_goes2 (show 6 ≤ n by omega), f_S_requirePlace]
  rcases rg01_01 x 0 99 with h1 | h1
  · exact Or.inl ⟨1, by simp [h1, zd], by simp [h1], by decide⟩
  · obtain ⟨c, hc, rfl⟩ := rg_of (b := 99) (by omega) rfl h1
    by_cases h2 : y < 0
    · have h3 : ¬ (0 : Int32) ≤ y := Int32.not_le.mpr h2
      exact Or.inl ⟨1, by simp [h1, h3, zd], by simp [h1, h2], by decide⟩
    · have h3 : (0 : Int32) ≤ y := Int32.not_lt.mp h2
      obtain ⟨r, hr, rfl⟩ := nI_of h2
      have e1 : f_Ky_stationInRow n 100 (nF h) (nI c) (nI r) = some (fiZ (nth (h c).testBit 0 s r)) := by
        rw [← nth_more s (12 - s) 0 r (fun j h1 _ => tb_hi (hh c) (by omega)), show s + (12 - s) = 12 by omega]
        exact K_row hr (by omega) 12 n 0 0 (by omega) (by omega) (by omega) (by omega)
      have e2 : f_M_holder_37 n 1200 (nI s) (kF h) (nI c) (nI r) n (nI r) 0 0 = some (fiZ (nth (h c).testBit 0 s r), 0) := M_row hs (by omega) (nI r) 0 s n r 0 (by omega) (by omega) hr
      refine Or.inr ⟨fiZ (nth (h c).testBit 0 s r), ?_, ?_⟩
      · simp [h1, h3, zd, e1]
        rfl
      · simp [h1, h2, e2]
theorem K_sev {n s : Nat} {h : Nat → Nat} (hs : s ≤ 12) (hh : ∀ i, h i < 2 ^ s) : ∀ (k q c i : Nat), i + k = 100 → k < q → c ≤ i → f_Ky_countAtSeveral_4 n 100 (nF h) q (nI c) (nI i) = some (nI (c + cnt (fun j => decide (2 ≤ cnt (h j).testBit 0 s)) i k)) := by
  intro k
  induction k with
  | zero =>
    intro q c i hi hq hc
    obtain ⟨q, rfl⟩ : ∃ r, q = r + 1 := ⟨q - 1, by omega⟩
    rw [f_Ky_countAtSeveral_4_eq, show i = 100 by omega]
    rfl
  | succ k ih =>
    intro q c i hi hq hc
    obtain ⟨q, rfl⟩ : ∃ r, q = r + 1 := ⟨q - 1, by omega⟩
    have hl : h i < 4096 := Nat.lt_of_lt_of_le (hh i) (Nat.pow_le_pow_right (n := 2) (by omega) hs)
    have e : cnt (h i).testBit 0 12 = cnt (h i).testBit 0 s := by
      rw [show 12 = s + (12 - s) by omega, cnt_add, cnt_none (12 - s) (0 + s) (fun j h1 _ => tb_hi (hh i) (by omega))]
      rfl
    have hcl := cnt_le (h i).testBit s 0
    rw [f_Ky_countAtSeveral_4_eq]
    simp (disch := omega) only [z_100, zi_le, zb, zc, nF_at]
    rw [J_bits hl, zd, e]
    simp (disch := omega) only [z_2, z_1, zi_lt, sr_nm_eq, nI_add]
    rw [if_neg (by omega), ih q c (i + 1) (by omega) (by omega) (by omega), ih q (c + 1) (i + 1) (by omega) (by omega) (by omega), cnt_s]
    by_cases hp : 2 ≤ cnt (h i).testBit 0 s
    · rw [if_neg (by omega), if_pos (by simp; exact hp), Nat.add_assoc]
    · rw [if_pos (by omega), if_neg (by simp; omega), Nat.zero_add]
theorem M_tw20 {n s c : Nat} {h : Nat → Nat} (hs : s ≤ 12) (hc : c < 100) (K : Int32 → Int32 → Int32 → Option (Int32 × Int32)) (th : Int32) (t : Nat) : ∀ (k q m i : Nat), i + k = s → k < q → m ≤ i → f_M_twice_20 n 1200 (nI s) (kF h) K q (nI t) (nI c) (nI m) (nI i) th = if 2 ≤ m + cnt (h c).testBit i k then K (nI (t + 1)) (nI (c + 1)) th else K (nI t) (nI (c + 1)) th := by
  intro k
  induction k with
  | zero =>
    intro q m i hi hq hm
    obtain ⟨q, rfl⟩ : ∃ r, q = r + 1 := ⟨q - 1, by omega⟩
    rw [f_M_twice_20_eq, if_pos (nI_le (by omega) (by omega))]
    simp (disch := omega) only [z_1, zi_le, sr_nm_eq, nI_add]
    unfold cnt
    by_cases hp : 2 ≤ m + 0
    · rw [if_neg (by omega), if_pos hp]
    · rw [if_pos (by omega), if_neg hp]
  | succ k ih =>
    intro q m i hi hq hm
    obtain ⟨q, rfl⟩ : ∃ r, q = r + 1 := ⟨q - 1, by omega⟩
    rw [f_M_twice_20_eq, zi_le _ _ (by omega) (by omega), if_neg (by omega)]
    simp (disch := omega) only [z_100, pk_mul, z_1, z_0, sr_nm_eq, nI_add, zb, zc]
    rw [kF_at h hc, cnt_s, ih q m (i + 1) (by omega) (by omega) (by omega), ih q (m + 1) (i + 1) (by omega) (by omega) (by omega)]
    cases hp : (h c).testBit i with
    | false =>
      rw [if_pos (show b01 false = nI 0 from rfl), if_neg (show ¬ false = true by decide), Nat.zero_add]
    | true =>
      rw [if_neg (show ¬ b01 true = nI 0 by decide), if_pos rfl, Nat.add_assoc]
theorem M_tw {n s : Nat} {h : Nat → Nat} (hn : 100 ≤ n) (hs : s ≤ 12) (th : Int32) : ∀ (k q c i : Nat), i + k = 100 → k < q → c ≤ i → f_M_twice_9 n 1200 (nI s) (kF h) q (nI c) (nI i) th = some (nI (c + cnt (fun j => decide (2 ≤ cnt (h j).testBit 0 s)) i k), th) := by
  intro k
  induction k with
  | zero =>
    intro q c i hi hq hc
    obtain ⟨q, rfl⟩ : ∃ r, q = r + 1 := ⟨q - 1, by omega⟩
    rw [f_M_twice_9_eq, show i = 100 by omega]
    rfl
  | succ k ih =>
    intro q c i hi hq hc
    obtain ⟨q, rfl⟩ : ∃ r, q = r + 1 := ⟨q - 1, by omega⟩
    rw [f_M_twice_9_eq, z_100, zi_le _ _ (by omega) (by omega), if_neg (by omega), z_0, M_tw20 hs (by omega) _ th c s n 0 0 (by omega) (by omega) (by omega), ih q c (i + 1) (by omega) (by omega) (by omega), ih q (c + 1) (i + 1) (by omega) (by omega) (by omega), cnt_s, Nat.zero_add]
    by_cases hp : 2 ≤ cnt (h i).testBit 0 s
    · rw [if_pos hp, if_pos (by simp; exact hp), Nat.add_assoc]
    · rw [if_neg hp, if_neg (by simp; omega), Nat.zero_add]
theorem ag_twice {n s : Nat} {h : Nat → Nat} (hn : 200 ≤ n) (hs : s ≤ 12) (hh : ∀ i, h i < 2 ^ s) (th : Int32) :
    ∃ r : Int32, f_S_twice n 100 (nF h) = some r ∧ f_M_twice n 1200 th (nI s) (kF h) = some (r, 0) := by
  refine ⟨nI (0 + cnt (fun j => decide (2 ≤ cnt (h j).testBit 0 s)) 0 100), ?_, ?_⟩
  · have e : f_Ky_countAtSeveral n 100 (nF h) = _ := K_sev hs hh 100 n 0 0 (by omega) (by omega) (by omega)
    unfold f_S_twice
    rw [e]
    rfl
  · exact M_tw (by omega) hs 0 100 n 0 0 (by omega) (by omega) (by omega)
