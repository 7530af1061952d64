/-! PURE: the programs over natural numbers. nF f: an int array that holds naturals -/
def nF (f : Nat → Nat) : Nat → Int32 := fun j => nI (f j)
def fup (f : Nat → Nat) (a x : Nat) : Nat → Nat := fun j => if j = a then x else f j
theorem nF_at (f : Nat → Nat) (a : Nat) : nF f a = nI (f a) := Eq.trans rfl rfl
theorem up_nF (f : Nat → Nat) (a x : Nat) : upd (nF f) a (nI x) = nF (fup f a x) := by
  funext j
  unfold upd nF fup
  by_cases h : j = a <;> simp [h]
theorem fup_s (f : Nat → Nat) (a x : Nat) : fup f a x a = x := if_pos rfl
theorem fup_n {f : Nat → Nat} {a x j : Nat} (h : j ≠ a) : fup f a x j = f j := if_neg h
theorem z_0 : (0 : Int32) = nI 0 := Eq.trans rfl rfl
theorem z_1 : (1 : Int32) = nI 1 := Eq.trans rfl rfl
theorem z_2 : (2 : Int32) = nI 2 := Eq.trans rfl rfl
theorem z_3 : (3 : Int32) = nI 3 := Eq.trans rfl rfl
theorem z_4 : (4 : Int32) = nI 4 := Eq.trans rfl rfl
theorem z_5 : (5 : Int32) = nI 5 := Eq.trans rfl rfl
theorem z_6 : (6 : Int32) = nI 6 := Eq.trans rfl rfl
theorem z_9 : (9 : Int32) = nI 9 := Eq.trans rfl rfl
theorem z_10 : (10 : Int32) = nI 10 := Eq.trans rfl rfl
theorem z_12 : (12 : Int32) = nI 12 := Eq.trans rfl rfl
theorem z_23 : (23 : Int32) = nI 23 := Eq.trans rfl rfl
theorem z_24 : (24 : Int32) = nI 24 := Eq.trans rfl rfl
theorem z_30 : (30 : Int32) = nI 30 := Eq.trans rfl rfl
theorem z_60 : (60 : Int32) = nI 60 := Eq.trans rfl rfl
theorem z_99 : (99 : Int32) = nI 99 := Eq.trans rfl rfl
theorem z_100 : (100 : Int32) = nI 100 := Eq.trans rfl rfl
theorem z_120 : (120 : Int32) = nI 120 := Eq.trans rfl rfl
theorem z_200 : (200 : Int32) = nI 200 := Eq.trans rfl rfl
theorem z_9999 : (9999 : Int32) = nI 9999 := Eq.trans rfl rfl
theorem z_99999 : (99999 : Int32) = nI 99999 := Eq.trans rfl rfl
theorem z_100000 : (100000 : Int32) = nI 100000 := Eq.trans rfl rfl
theorem zic {α : Type} {p q : Prop} [Decidable p] [Decidable q] (h : p ↔ q) (A B : α) : (if p then A else B) = (if q then A else B) := by
  by_cases hp : p
  · rw [if_pos hp, if_pos (h.mp hp)]
  · rw [if_neg hp, if_neg (fun hq => hp (h.mpr hq))]
/-- a test of numbers is a test of naturals -/
theorem zi_le {α : Type} {a b : Nat} {d : Decidable (nI a ≤ nI b)} (A B : α) (ha : a < 2147483648) (hb : b < 2147483648) : (if nI a ≤ nI b then A else B) = (if a ≤ b then A else B) := zic (nI_leI ha hb) A B
theorem zi_lt {α : Type} {a b : Nat} {d : Decidable (nI a < nI b)} (A B : α) (ha : a < 2147483648) (hb : b < 2147483648) : (if nI a < nI b then A else B) = (if a < b then A else B) := zic (nI_ltI ha hb) A B
theorem zi_eq {α : Type} {a b : Nat} {d : Decidable (nI a = nI b)} (A B : α) (ha : a < 2147483648) (hb : b < 2147483648) : (if nI a = nI b then A else B) = (if a = b then A else B) := zic (nI_eq ha hb) A B
theorem zi_m1 {a : Nat} (ha : a < 2147483648) : ¬ nI a = -1 := fun h => by
  have h1 := congrArg Int32.toInt h
  rw [nI_toInt ha] at h1
  have h2 : (-1 : Int32).toInt = -1 := by decide
  omega
theorem zi_em1 {α : Type} {a : Nat} (A B : α) (ha : a < 2147483648) : (if nI a = -1 then A else B) = B := if_neg (zi_m1 ha)
theorem zb {β : Type} {a N : Nat} (k : Option β) (h : a < N) (hN : N < 2147483648) : sr_bk (nI a) N k = k := sr_bk_in (vp_in_nI h hN)
theorem zc {a : Nat} (h : a < 2147483648) : (nI a).toNatClampNeg = a := nI_clamp h
theorem zs {a b : Nat} (h : b ≤ a) : nI a - nI b = nI (a - b) := pk_sub h
theorem zd {α β : Type} (x : α) (k : α → Option β) : sr_bd (some x) k = k x := rfl
/-- the first place from i on, of k, where P holds -/
def fi (P : Nat → Bool) : Nat → Nat → Option Nat
  | _, 0 => none
  | i, k + 1 => if P i = true then some i else fi P (i + 1) k
theorem fi_s (P : Nat → Bool) (i k : Nat) : fi P i (k + 1) = if P i = true then some i else fi P (i + 1) k := rfl
theorem fi_shift (Q : Nat → Bool) (b : Nat) : ∀ (k i : Nat), fi Q (b + i) k = (fi (fun j => Q (b + j)) i k).map (fun j => b + j)
  | 0, _ => rfl
  | k + 1, i => by
    unfold fi
    by_cases h : Q (b + i) = true
    · simp [h]
    · simp only [h, if_false, Bool.false_eq_true]
      rw [show b + i + 1 = b + (i + 1) from rfl]
      exact fi_shift Q b k (i + 1)
theorem fi_lt {P : Nat → Bool} : ∀ {k i j : Nat}, fi P i k = some j → i ≤ j ∧ j < i + k ∧ P j = true
  | 0, _, _, h => by cases h
  | k + 1, i, j, h => by
    unfold fi at h
    by_cases hp : P i = true
    · rw [if_pos hp] at h
      cases h
      exact ⟨Nat.le_refl _, by omega, hp⟩
    · rw [if_neg hp] at h
      obtain ⟨h1, h2, h3⟩ := fi_lt h
      exact ⟨by omega, by omega, h3⟩
/-- an answer of a search, as a number -/
def fiZ (o : Option Nat) : Int32 := match o with
  | none => -1
  | some j => nI j
/-! times -/
/-- the minute x lies in the k-th time -/
def tin (f t : Nat → Nat) (x k : Nat) : Bool := decide (f k ≤ x) && decide (x < t k)
theorem T_ix {n N NF NT m o x : Nat} {c f t : Nat → Nat} (ho : o < N) (hN : N < 65536) (hF : o * m + c o ≤ NF) (hT : o * m + c o ≤ NT) (h1 : NF < 65536) (h2 : NT < 65536) (hx : x < 1000000) (hf : ∀ k, f k < 1000000) (ht : ∀ k, t k < 1000000) :
    ∀ (k q i : Nat), i + k = c o → k < q → f_T_indexAt_10 n N NF NT (nI m) (nF c) (nF f) (nF t) (nI o) (nI x) q (nI (o * m)) (nI i) = some (fiZ (fi (fun j => tin f t x (o * m + j)) i k)) := by
  intro k
  induction k with
  | zero =>
    intro q i hi hq
    obtain ⟨q, rfl⟩ : ∃ r, q = r + 1 := ⟨q - 1, by omega⟩
    rw [f_T_indexAt_10_eq, zb _ ho (by omega)]
    simp (disch := omega) only [zc, nF_at, zi_le]
    rw [if_pos (by omega)]
    rfl
  | succ k ih =>
    intro q i hi hq
    obtain ⟨q, rfl⟩ : ∃ r, q = r + 1 := ⟨q - 1, by omega⟩
    have hfo := hf (o * m + i)
    have hto := ht (o * m + i)
    rw [f_T_indexAt_10_eq, zb _ ho (by omega)]
    simp (disch := omega) only [zc, nF_at, zi_le, nI_add, sr_nm_eq, z_1]
    rw [if_neg (by omega), zb _ (by omega) (by omega), zb _ (by omega) (by omega)]
    simp (disch := omega) only [zi_lt, zi_le]
    rw [ih q (i + 1) (by omega) (by omega)]
    rw [fi_s]
    unfold tin
    by_cases a1 : x < f (o * m + i)
    · rw [if_pos a1, if_neg (by simp; omega)]
    · rw [if_neg a1]
      by_cases a2 : t (o * m + i) ≤ x
      · rw [if_pos a2, if_neg (by simp; omega)]
      · rw [if_neg a2, if_pos (by simp; omega)]
        rfl
theorem T_indexAt {n N NF NT m o x : Nat} {c f t : Nat → Nat} (hn : c o < n) (ho : o < N) (hN : N < 65536) (hF : o * m + c o ≤ NF) (hT : o * m + c o ≤ NT) (h1 : NF < 65536) (h2 : NT < 65536) (hx : x < 1000000) (hf : ∀ k, f k < 1000000) (ht : ∀ k, t k < 1000000) :
    f_T_indexAt n N NF NT (nI m) (nF c) (nF f) (nF t) (nI o) (nI x) = some (fiZ (fi (fun j => tin f t x (o * m + j)) 0 (c o))) := by
  unfold f_T_indexAt
  rw [sr_nm_eq, pk_mul]
  exact T_ix ho hN hF hT h1 h2 hx hf ht (c o) n 0 (by omega) hn
/-- some time of the owner has a minute in common with [a, b) -/
def tmeet (f t : Nat → Nat) (a b k : Nat) : Bool := decide (a < t k) && decide (f k < b)
def b01 (b : Bool) : Int32 := if b = true then 1 else 0
theorem T_mx {n N NF NT m o a b : Nat} {c f t : Nat → Nat} (ho : o < N) (hN : N < 65536) (hF : o * m + c o ≤ NF) (hT : o * m + c o ≤ NT) (h1 : NF < 65536) (h2 : NT < 65536) (ha : a < 1000000) (hb : b < 1000000) (hf : ∀ k, f k < 1000000) (ht : ∀ k, t k < 1000000) :
    ∀ (k q i : Nat), i + k = c o → k < q → f_T_meets_12 n N NF NT (nI m) (nF c) (nF f) (nF t) (nI o) (nI a) (nI b) q (nI (o * m)) (nI (o * m + i)) = some (b01 (fi (fun j => tmeet f t a b (o * m + j)) i k).isSome) := by
  intro k
  induction k with
  | zero =>
    intro q i hi hq
    obtain ⟨q, rfl⟩ : ∃ r, q = r + 1 := ⟨q - 1, by omega⟩
    rw [f_T_meets_12_eq, zb _ ho (by omega)]
    simp (disch := omega) only [zc, nF_at, nI_add, zi_le]
    rw [if_pos (by omega)]
    rfl
  | succ k ih =>
    intro q i hi hq
    obtain ⟨q, rfl⟩ : ∃ r, q = r + 1 := ⟨q - 1, by omega⟩
    have hfo := hf (o * m + i)
    have hto := ht (o * m + i)
    rw [f_T_meets_12_eq, zb _ ho (by omega)]
    simp (disch := omega) only [zc, nF_at, zi_le, nI_add, sr_nm_eq, z_1]
    rw [if_neg (by omega), zb _ (by omega) (by omega), zb _ (by omega) (by omega)]
    rw [show o * m + i + 1 = o * m + (i + 1) from rfl, ih q (i + 1) (by omega) (by omega)]
    rw [fi_s]
    unfold tmeet
    by_cases a1 : t (o * m + i) ≤ a
    · rw [if_pos a1, if_neg (by simp; omega)]
    · rw [if_neg a1]
      by_cases a2 : b ≤ f (o * m + i)
      · rw [if_pos a2, if_neg (by simp; omega)]
      · rw [if_neg a2, if_pos (by simp; omega)]
        rfl
theorem T_meets {n N NF NT m o a b : Nat} {c f t : Nat → Nat} (hn : c o < n) (ho : o < N) (hN : N < 65536) (hF : o * m + c o ≤ NF) (hT : o * m + c o ≤ NT) (h1 : NF < 65536) (h2 : NT < 65536) (ha : a < 1000000) (hb : b < 1000000) (hf : ∀ k, f k < 1000000) (ht : ∀ k, t k < 1000000) :
    f_T_meets n N NF NT (nI m) (nF c) (nF f) (nF t) (nI o) (nI a) (nI b) = some (b01 (fi (fun j => tmeet f t a b (o * m + j)) 0 (c o)).isSome) := by
  unfold f_T_meets
  rw [sr_nm_eq, pk_mul]
  exact T_mx ho hN hF hT h1 h2 ha hb hf ht (c o) n 0 (by omega) hn
/-! the reference's tests -/
theorem M_in (x a b : Int32) : f_M_in x a b = some (if x < a then 0 else if b < x then 0 else 1) := by
  unfold f_M_in
  split
  · rfl
  · split <;> rfl
theorem kn {s : Nat} (hs : s < 1000000) (x : Int32) (h0 : ¬ x < 0) : (nI s - 1 < x) ↔ ¬ x < nI s := by
  rw [z_1, Int32.lt_iff_toInt_lt, Int32.lt_iff_toInt_lt, pk_sub_toInt (by omega) (by omega), nI_toInt (by omega)]
  omega
/-- a number is known: 0 .. s - 1 -/
def kn01 (s : Nat) (x : Int32) : Int32 := if x < 0 then 0 else if x < nI s then 1 else 0
theorem kn01_01 (s : Nat) (x : Int32) : kn01 s x = 0 ∨ kn01 s x = 1 := by
  unfold kn01
  split
  · exact Or.inl rfl
  · split
    · exact Or.inr rfl
    · exact Or.inl rfl
theorem M_kn {s : Nat} (hs : s < 1000000) (x : Int32) : (sr_bd (f_M_in x 0 (nI s - 1)) fun o1 => sr_bz o1 (some o1)) = some (kn01 s x) := by
  rw [M_in, zd]
  have e : (if x < 0 then (0 : Int32) else if nI s - 1 < x then 0 else 1) = kn01 s x := by
    unfold kn01
    by_cases h0 : x < 0
    · rw [if_pos h0, if_pos h0]
    · rw [if_neg h0, if_neg h0]
      by_cases h1 : x < nI s
      · rw [if_neg (fun q => (kn hs x h0).mp q h1), if_pos h1]
      · rw [if_pos ((kn hs x h0).mpr h1), if_neg h1]
  rw [e, sr_bz_in (kn01_01 s x)]
theorem kn_cases (s : Nat) (hs : s < 1000000) (x : Int32) : kn01 s x = 0 ∧ (x < 0 ∨ ¬ x < nI s) ∨ ∃ a, a < s ∧ x = nI a ∧ kn01 s x = 1 := by
  by_cases h0 : x < 0
  · exact Or.inl ⟨if_pos h0, Or.inl h0⟩
  · by_cases h1 : x < nI s
    · refine Or.inr ?_
      obtain ⟨j, hj, rfl⟩ := nI_of h0
      refine ⟨j, ?_, rfl, by unfold kn01; rw [if_neg h0, if_pos h1]⟩
      rcases Nat.lt_or_ge j s with h | h
      · exact h
      · exact absurd h1 (nI_nlt h (by omega))
    · exact Or.inl ⟨by unfold kn01; rw [if_neg h0, if_neg h1], Or.inr h1⟩
theorem S_kn (s : Nat) (x : Int32) : f_S_requireKnown x (nI s) = some (if kn01 s x = 1 then 0 else 1) := by
  unfold f_S_requireKnown kn01
  by_cases h0 : x < 0
  · rw [if_pos h0, if_pos h0, if_neg (by decide)]
  · rw [if_neg h0, if_neg h0]
    by_cases h1 : x < nI s
    · rw [if_pos h1, if_pos h1, if_pos rfl]
    · rw [if_neg h1, if_neg h1, if_neg (by decide)]
/-- a number within a range -/
def rg01 (x a b : Int32) : Int32 := if x < a then 0 else if b < x then 0 else 1
theorem rg01_01 (x a b : Int32) : rg01 x a b = 0 ∨ rg01 x a b = 1 := by
  unfold rg01
  split
  · exact Or.inl rfl
  · split
    · exact Or.inl rfl
    · exact Or.inr rfl
theorem S_rg (x a b : Int32) : f_S_requireRange x a b = some (if rg01 x a b = 1 then 0 else 2) := by
  unfold f_S_requireRange rg01
  by_cases h0 : x < a
  · rw [if_pos h0, if_pos h0, if_neg (by decide)]
  · rw [if_neg h0, if_neg h0]
    by_cases h1 : b < x
    · rw [if_pos h1, if_neg (Int32.not_le.mpr h1), if_neg (by decide)]
    · rw [if_neg h1, if_pos (Int32.not_lt.mp h1), if_pos rfl]
/-- a time: two minutes, the first below the second -/
def tm01 (x y : Int32) : Int32 := if rg01 x 0 99999 = 0 then 0 else if rg01 y 0 99999 = 0 then 0 else if x < y then 1 else 0
theorem M_minute (x : Int32) : f_M_isMinute x = some (rg01 x 0 99999) := by
  unfold f_M_isMinute
  rw [M_in, zd]
  exact sr_bz_in (rg01_01 x 0 99999)
theorem M_time (x y : Int32) : f_M_isTime x y = some (tm01 x y) := by
  unfold f_M_isTime tm01
  rw [M_minute, zd]
  by_cases h0 : rg01 x 0 99999 = 0
  · rw [if_pos h0, if_pos h0]
  · rw [if_neg h0, if_neg h0, M_minute, zd]
    by_cases h1 : rg01 y 0 99999 = 0
    · rw [if_pos h1, if_pos h1]
    · rw [if_neg h1, if_neg h1]
      by_cases h2 : x < y
      · rw [if_pos h2, if_neg (Int32.not_le.mpr h2)]
      · rw [if_neg h2, if_pos (Int32.not_lt.mp h2)]
theorem S_minute (x : Int32) : f_S_requireMinute x = some (if rg01 x 0 99999 = 1 then 0 else 2) := by
  unfold f_S_requireMinute
  rw [S_rg, zd]
  rcases rg01_01 x 0 99999 with h | h <;> rw [h] <;> rfl
theorem S_time (x y : Int32) : f_S_requireTime x y = some (if tm01 x y = 1 then 0 else 2) := by
  unfold f_S_requireTime tm01
  rw [S_minute, zd]
  rcases rg01_01 x 0 99999 with h | h
  · rw [h]; rfl
  · rw [h, if_pos rfl, if_pos rfl, S_minute, zd]
    rcases rg01_01 y 0 99999 with h2 | h2
    · rw [h2]; rfl
    · rw [h2, if_pos rfl, if_pos rfl]
      by_cases h3 : x < y
      · rw [if_pos h3, if_pos h3]; rfl
      · rw [if_neg h3, if_neg h3]; rfl
theorem rg_of {x : Int32} {b : Nat} (hb : b < 1000000) {B : Int32} (hB : B = nI b) (h : rg01 x 0 B = 1) : ∃ j, j ≤ b ∧ x = nI j := by
  unfold rg01 at h
  by_cases h0 : x < 0
  · rw [if_pos h0] at h; exact absurd h (by decide)
  · rw [if_neg h0] at h
    by_cases h1 : B < x
    · rw [if_pos h1] at h; exact absurd h (by decide)
    · obtain ⟨j, hj, rfl⟩ := nI_of h0
      refine ⟨j, ?_, rfl⟩
      rcases Nat.lt_or_ge b j with q | q
      · exact absurd (by rw [hB]; exact nI_lt q (by omega)) h1
      · exact q
theorem tm_of {x y : Int32} (h : tm01 x y = 1) : ∃ a b, a < b ∧ b < 100000 ∧ x = nI a ∧ y = nI b := by
  unfold tm01 at h
  rcases rg01_01 x 0 99999 with h0 | h0
  · rw [if_pos h0] at h; exact absurd h (by decide)
  · rw [if_neg (by rw [h0]; decide)] at h
    rcases rg01_01 y 0 99999 with h1 | h1
    · rw [if_pos h1] at h; exact absurd h (by decide)
    · rw [if_neg (by rw [h1]; decide)] at h
      obtain ⟨a, ha, rfl⟩ := rg_of (b := 99999) (by omega) rfl h0
      obtain ⟨b, hb, rfl⟩ := rg_of (b := 99999) (by omega) rfl h1
      by_cases h2 : nI a < nI b
      · exact ⟨a, b, (nI_ltI (by omega) (by omega)).mp h2, by omega, rfl, rfl⟩
      · rw [if_neg h2] at h; exact absurd h (by decide)
theorem tm_01 (x y : Int32) : tm01 x y = 0 ∨ tm01 x y = 1 := by
  unfold tm01
  split
  · exact Or.inl rfl
  · split
    · exact Or.inl rfl
    · split
      · exact Or.inr rfl
      · exact Or.inl rfl
/-! which refusal: the first of known, range, state, room that isn't so, counted among those that the call has -/
def gst (a b c d : Int32) : Nat := if a = 0 then 1 else if b = 0 then 2 else if c = 0 then 3 else if d = 0 then 4 else 0
theorem M_goes (K c1 c2 c3 c4 : Int32) {n : Nat} (th a b c d : Int32) (h1 : ∀ q r s u v : Int32, f_M_goes_46 n K q r s u n 1 1 0 = some (0, c1)) (h2 : ∀ q r s u v : Int32, f_M_goes_46 n K q r s u n 2 1 0 = some (0, c2)) (h3 : ∀ q r s u v : Int32, f_M_goes_46 n K q r s u n 4 1 0 = some (0, c3)) (h4 : ∀ q r s u v : Int32, f_M_goes_46 n K q r s u n 8 1 0 = some (0, c4)) (h0 : ∀ q r s u v : Int32, f_M_goes_46 n K q r s u n 0 1 0 = some (1, 0)) :
    f_M_goes n th K a b c d = some (if a = 0 then (0, c1) else if b = 0 then (0, c2) else if c = 0 then (0, c3) else if d = 0 then (0, c4) else (1, 0)) := by
  unfold f_M_goes
  by_cases ha : a = 0
  · rw [if_pos ha, if_pos ha]; exact h1 _ _ _ _ 0
  · rw [if_neg ha, if_neg ha]
    by_cases hb : b = 0
    · rw [if_pos hb, if_pos hb]; exact h2 _ _ _ _ 0
    · rw [if_neg hb, if_neg hb]
      by_cases hc : c = 0
      · rw [if_pos hc, if_pos hc]; exact h3 _ _ _ _ 0
      · rw [if_neg hc, if_neg hc]
        by_cases hd : d = 0
        · rw [if_pos hd, if_pos hd]; exact h4 _ _ _ _ 0
        · rw [if_neg hd, if_neg hd]; exact h0 _ _ _ _ 0
theorem M_goes15 {n : Nat} (hn : 6 ≤ n) (th a b c d : Int32) : f_M_goes n th 15 a b c d = some (if a = 0 then (0, 1) else if b = 0 then (0, 2) else if c = 0 then (0, 3) else if d = 0 then (0, 4) else (1, 0)) := by
  obtain ⟨m, rfl⟩ : ∃ m, n = m + 6 := ⟨n - 6, by omega⟩
  exact M_goes 15 1 2 3 4 th a b c d (fun _ _ _ _ _ => rfl) (fun _ _ _ _ _ => rfl) (fun _ _ _ _ _ => rfl) (fun _ _ _ _ _ => rfl) (fun _ _ _ _ _ => rfl)
theorem M_goes11 {n : Nat} (hn : 6 ≤ n) (th a b c d : Int32) : f_M_goes n th 11 a b c d = some (if a = 0 then (0, 1) else if b = 0 then (0, 2) else if c = 0 then (0, 2) else if d = 0 then (0, 3) else (1, 0)) := by
  obtain ⟨m, rfl⟩ : ∃ m, n = m + 6 := ⟨n - 6, by omega⟩
  exact M_goes 11 1 2 2 3 th a b c d (fun _ _ _ _ _ => rfl) (fun _ _ _ _ _ => rfl) (fun _ _ _ _ _ => rfl) (fun _ _ _ _ _ => rfl) (fun _ _ _ _ _ => rfl)
theorem M_goes10 {n : Nat} (hn : 6 ≤ n) (th a b c d : Int32) : f_M_goes n th 10 a b c d = some (if a = 0 then (0, 0) else if b = 0 then (0, 1) else if c = 0 then (0, 1) else if d = 0 then (0, 2) else (1, 0)) := by
  obtain ⟨m, rfl⟩ : ∃ m, n = m + 6 := ⟨n - 6, by omega⟩
  exact M_goes 10 0 1 1 2 th a b c d (fun _ _ _ _ _ => rfl) (fun _ _ _ _ _ => rfl) (fun _ _ _ _ _ => rfl) (fun _ _ _ _ _ => rfl) (fun _ _ _ _ _ => rfl)
theorem M_goes7 {n : Nat} (hn : 6 ≤ n) (th a b c d : Int32) : f_M_goes n th 7 a b c d = some (if a = 0 then (0, 1) else if b = 0 then (0, 2) else if c = 0 then (0, 3) else if d = 0 then (0, 3) else (1, 0)) := by
  obtain ⟨m, rfl⟩ : ∃ m, n = m + 6 := ⟨n - 6, by omega⟩
  exact M_goes 7 1 2 3 3 th a b c d (fun _ _ _ _ _ => rfl) (fun _ _ _ _ _ => rfl) (fun _ _ _ _ _ => rfl) (fun _ _ _ _ _ => rfl) (fun _ _ _ _ _ => rfl)
theorem M_goes3 {n : Nat} (hn : 6 ≤ n) (th a b c d : Int32) : f_M_goes n th 3 a b c d = some (if a = 0 then (0, 1) else if b = 0 then (0, 2) else if c = 0 then (0, 2) else if d = 0 then (0, 2) else (1, 0)) := by
  obtain ⟨m, rfl⟩ : ∃ m, n = m + 6 := ⟨n - 6, by omega⟩
  exact M_goes 3 1 2 2 2 th a b c d (fun _ _ _ _ _ => rfl) (fun _ _ _ _ _ => rfl) (fun _ _ _ _ _ => rfl) (fun _ _ _ _ _ => rfl) (fun _ _ _ _ _ => rfl)
theorem M_goes2 {n : Nat} (hn : 6 ≤ n) (th a b c d : Int32) : f_M_goes n th 2 a b c d = some (if a = 0 then (0, 0) else if b = 0 then (0, 1) else if c = 0 then (0, 1) else if d = 0 then (0, 1) else (1, 0)) := by
  obtain ⟨m, rfl⟩ : ∃ m, n = m + 6 := ⟨n - 6, by omega⟩
  exact M_goes 2 0 1 1 1 th a b c d (fun _ _ _ _ _ => rfl) (fun _ _ _ _ _ => rfl) (fun _ _ _ _ _ => rfl) (fun _ _ _ _ _ => rfl) (fun _ _ _ _ _ => rfl)
