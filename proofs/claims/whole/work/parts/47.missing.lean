theorem St_there {f t : Nat → Nat} {s x : Nat} (hs : s < 12) (hx : x < 1000000) (hf : ∀ k, f k ≤ 100000) (ht : ∀ k, t k ≤ 100000) : f_St_isThere 12 12 (nF f) (nF t) (nI s) (nI x) = some (b01 (tin f t x s)) := by
  unfold f_St_isThere tin
  have h1 := hf s
  have h2 := ht s
  simp (disch := omega) only [zb, zc, nF_at, zi_lt, zi_le]
  by_cases a1 : x < f s
  · rw [if_pos a1]
    simp [b01, show ¬ f s ≤ x by omega]
  · rw [if_neg a1]
    by_cases a2 : t s ≤ x
    · rw [if_pos a2]
      simp [b01, show ¬ x < t s by omega]
    · rw [if_neg a2]
      simp [b01, show x < t s by omega, show f s ≤ x by omega]
theorem M_there {f t : Nat → Nat} {s x : Nat} (hs : s < 12) (hx : x < 1000000) (hf : ∀ k, f k ≤ 100000) (ht : ∀ k, t k ≤ 100000) : f_M_isThere 12 12 (nF f) (nF t) (nI s) (nI x) = some (b01 (tin f t x s)) := St_there hs hx hf ht
theorem J_fil {n N : Nat} (hN : N < 10000) (x : Int32) : ∀ (k q i : Nat) (F : Nat → Int32), i + k = N → k < q → ∃ F', f_J_fill_5 n N x q (nI i) (nI N) F = some F' ∧ (∀ j, i ≤ j → j < N → F' j = x) ∧ ∀ j, j < i → F' j = F j := by
  intro k
  induction k with
  | zero =>
    intro q i F hi hq
    obtain ⟨q, rfl⟩ : ∃ r, q = r + 1 := ⟨q - 1, by omega⟩
    refine ⟨F, ?_, fun j h1 h2 => by omega, fun _ _ => rfl⟩
    rw [f_J_fill_5_eq, if_pos (nI_le (by omega) (by omega))]
  | succ k ih =>
    intro q i F hi hq
    obtain ⟨q, rfl⟩ : ∃ r, q = r + 1 := ⟨q - 1, by omega⟩
    obtain ⟨F', e, h1, h2⟩ := ih q (i + 1) (upd F i x) (by omega) (by omega)
    refine ⟨F', ?_, ?_, ?_⟩
    · rw [f_J_fill_5_eq]
      simp (disch := omega) only [zi_le, zb, zc, sr_nm_eq, z_1, nI_add]
      rw [if_neg (by omega), e]
    · intro j a1 a2
      by_cases hj : j = i
      · rw [h2 j (by omega), hj]
        exact if_pos rfl
      · exact h1 j (by omega) a2
    · intro j a1
      rw [h2 j (by omega)]
      exact if_neg (by omega)
theorem J_fill {n N : Nat} (hN : N < 10000) (hn : N < n) (x : Int32) (F : Nat → Int32) : ∃ F', f_J_fill n N F x = some F' ∧ ∀ j, j < N → F' j = x := by
  obtain ⟨F', e, h1, -⟩ := J_fil (n := n) hN x N n 0 F (by omega) hn
  exact ⟨F', e, fun j h => h1 j (by omega) h⟩
/-- a check of place x, done by t, at minute c or later -/
def dq (P M : Nat → Nat) (t x c j : Nat) : Bool := decide (P j = x) && decide (M j ≤ t) && decide (c ≤ M j)
theorem C_late {n c t : Nat} {P M : Nat → Nat} (hc : c ≤ 200) (ht : t < 100000) (hP : ∀ i, P i < 60) (hM : ∀ i, M i < 100000) : ∀ (k q i : Nat) (F : Nat → Int32) (G : Nat → Nat), i + k = c → k < q → (∀ x, x < 60 → F x = nI (G x) - 1 ∧ G x ≤ 100000) →
    ∃ (F' : Nat → Int32) (G' : Nat → Nat), f_Ch_findLatest_10 n 60 200 200 (nI c) (nF P) (nF M) (nI t) q (nI i) F = some F' ∧ ∀ x, x < 60 → F' x = nI (G' x) - 1 ∧ G' x ≤ 100000 ∧ ∀ d, d < G' x ↔ (d < G x ∨ (fi (dq P M t x d) i k).isSome = true) := by
  intro k
  induction k with
  | zero =>
    intro q i F G hi hq hF
    obtain ⟨q, rfl⟩ : ∃ r, q = r + 1 := ⟨q - 1, by omega⟩
    refine ⟨F, G, ?_, fun x hx => ⟨(hF x hx).1, (hF x hx).2, fun d => ?_⟩⟩
    · rw [f_Ch_findLatest_10_eq, if_pos (nI_le (by omega) (by omega))]
    · simp [fi]
  | succ k ih =>
    intro q i F G hi hq hF
    obtain ⟨q, rfl⟩ : ∃ r, q = r + 1 := ⟨q - 1, by omega⟩
    have h1 := hP i
    have h2 := hM i
    obtain ⟨h3, h4⟩ := hF (P i) h1
    rw [f_Ch_findLatest_10_eq]
    simp (disch := omega) only [zi_le, zb, zc, nF_at, sr_nm_eq, z_1, nI_add, zi_lt]
    rw [if_neg (by omega)]
    by_cases a1 : t < M i
    · rw [if_pos a1]
      obtain ⟨F', G', e, h⟩ := ih q (i + 1) F G (by omega) (by omega) hF
      refine ⟨F', G', e, fun x hx => ⟨(h x hx).1, (h x hx).2.1, fun d => ?_⟩⟩
      rw [(h x hx).2.2 d, fi_s, if_neg (show ¬ dq P M t x d i = true by unfold dq; simp; omega)]
    · rw [if_neg a1, h3]
      have hle : nI (M i) ≤ nI (G (P i)) - 1 ↔ M i + 1 ≤ G (P i) := by
        rw [z_1, Int32.le_iff_toInt_le, pk_sub_toInt (by omega) (by omega), nI_toInt (by omega)]
        omega
      by_cases a2 : M i + 1 ≤ G (P i)
      · rw [if_pos (hle.mpr a2)]
        obtain ⟨F', G', e, h⟩ := ih q (i + 1) F G (by omega) (by omega) hF
        refine ⟨F', G', e, fun x hx => ⟨(h x hx).1, (h x hx).2.1, fun d => ?_⟩⟩
        rw [(h x hx).2.2 d, fi_s]
        by_cases hd : dq P M t x d i = true
        · rw [if_pos hd]
          unfold dq at hd
          simp at hd
          rw [← hd.1.1]
          simp
          left
          omega
        · rw [if_neg hd]
      · rw [if_neg (fun w => a2 (hle.mp w))]
        obtain ⟨F', G', e, h⟩ := ih q (i + 1) (upd F (P i) (nI (M i))) (fup G (P i) (M i + 1)) (by omega) (by omega) (fun x hx => by
          unfold upd fup
          by_cases hj : x = P i
          · rw [if_pos hj, if_pos hj]
            exact ⟨(nI_pred (M i)).symm, by omega⟩
          · rw [if_neg hj, if_neg hj]
            exact hF x hx)
        refine ⟨F', G', e, fun x hx => ⟨(h x hx).1, (h x hx).2.1, fun d => ?_⟩⟩
        rw [(h x hx).2.2 d, fi_s]
        unfold fup
        by_cases hj : x = P i
        · rw [if_pos hj, hj]
          by_cases hd : dq P M t (P i) d i = true
          · rw [if_pos hd]
            unfold dq at hd
            simp at hd
            simp
            left
            omega
          · rw [if_neg hd]
            have hd2 : ¬ d ≤ M i := fun w => hd (by unfold dq; simp; omega)
            constructor
            · rintro (w | w)
              · omega
              · exact Or.inr w
            · rintro (w | w)
              · omega
              · exact Or.inr w
        · rw [if_neg hj, if_neg (show ¬ dq P M t x d i = true by unfold dq; simp; intro w; exact absurd w.symm hj)]
/-- the check of the place is missing at t -/
def msg (pr P M : Nat → Nat) (c t x : Nat) : Bool := decide (0 < pr x) && decide (pr x ≤ t + 1) && ! (fi (dq P M t x (t + 1 - pr x)) 0 c).isSome
theorem C_miss {c t st ck : Nat} {pr P M G : Nat → Nat} {F : Nat → Int32} (ht : t < 100000) (hst : st < 12) (hck : ck < 5) (hp : ∀ i, pr i ≤ 9999) (hF : ∀ x, x < 60 → F x = nI (G x) - 1 ∧ G x ≤ 100000 ∧ ∀ d, d < G x ↔ (fi (dq P M t x d) 0 c).isSome = true) :
    f_Ch_isMissing 60 60 (nF pr) F (nI st) (nI ck) (nI t) = some (b01 (msg pr P M c t (5 * st + ck))) := by
  have h1 := hp (5 * st + ck)
  obtain ⟨h2, h3, h4⟩ := hF (5 * st + ck) (by omega)
  unfold f_Ch_isMissing f_Ch_placeOf
  rw [zd]
  simp (disch := omega) only [z_5, pk_mul, nI_add, zb, zc, nF_at, sr_nm_eq]
  rw [show st * 5 + ck = 5 * st + ck by omega]
  simp (disch := omega) only [zb, zc, nF_at, h2]
  unfold msg
  generalize 5 * st + ck = x at *
  by_cases a1 : pr x = 0
  · rw [a1]
    rfl
  · rw [if_neg (by rw [z_0, nI_leI (by omega) (by omega)]; omega), z_1, zs (show 1 ≤ pr x by omega), zi_lt _ _ (by omega) (by omega)]
    by_cases a2 : t < pr x - 1
    · rw [if_pos a2]
      simp [show ¬ pr x ≤ t + 1 by omega]
      rfl
    · rw [if_neg a2]
      have hle : nI t - nI (pr x) < nI (G x) - nI 1 ↔ t + 1 - pr x < G x := by
        rw [Int32.lt_iff_toInt_lt, pk_sub_toInt (by omega) (by omega), pk_sub_toInt (by omega) (by omega)]
        omega
      rw [zic (hle.trans (h4 _))]
      by_cases a3 : (fi (dq P M t x (t + 1 - pr x)) 0 c).isSome = true
      · rw [if_pos a3, a3]
        simp
        rfl
      · rw [if_neg a3]
        simp [a3, show 0 < pr x by omega, show pr x ≤ t + 1 by omega]
        rfl
theorem M_miss23 {n c t x p : Nat} {pr P M : Nat → Nat} (hc : c ≤ 200) (ht : t < 100000) (hx : x < 60) (hp : p ≤ t + 1) (hP : ∀ i, P i < 60) (hM : ∀ i, M i < 100000) : ∀ (k q i : Nat), i + k = c → k < q → f_M_isMissing_23 n 60 200 200 (nI c) (nF pr) (nF M) (nF P) (nI x) (nI t) q (nI p) (nI i) = some (b01 (! (fi (dq P M t x (t + 1 - p)) i k).isSome)) := by
  intro k
  induction k with
  | zero =>
    intro q i hi hq
    obtain ⟨q, rfl⟩ : ∃ r, q = r + 1 := ⟨q - 1, by omega⟩
    rw [f_M_isMissing_23_eq, if_pos (nI_le (by omega) (by omega))]
    rfl
  | succ k ih =>
    intro q i hi hq
    obtain ⟨q, rfl⟩ : ∃ r, q = r + 1 := ⟨q - 1, by omega⟩
    have h1 := hP i
    have h2 := hM i
    have hle : nI (M i) ≤ nI t - nI p ↔ ¬ t + 1 - p ≤ M i := by
      rw [Int32.le_iff_toInt_le, pk_sub_toInt (by omega) (by omega), nI_toInt (by omega)]
      omega
    rw [f_M_isMissing_23_eq]
    simp (disch := omega) only [zi_le, zi_eq, zi_lt, zb, zc, nF_at, sr_nm_eq, z_1, nI_add]
    rw [if_neg (by omega), ih q (i + 1) (by omega) (by omega), fi_s]
    by_cases a1 : P i = x
    · rw [if_pos a1]
      by_cases a2 : t < M i
      · rw [if_pos a2, if_neg (show ¬ dq P M t x (t + 1 - p) i = true by unfold dq; simp; omega)]
      · rw [if_neg a2]
        by_cases a3 : t + 1 - p ≤ M i
        · rw [if_neg (fun w => hle.mp w a3), if_pos (show dq P M t x (t + 1 - p) i = true by unfold dq; simp; omega)]
          rfl
        · rw [if_pos (hle.mpr a3), if_neg (show ¬ dq P M t x (t + 1 - p) i = true by unfold dq; simp; omega)]
    · rw [if_neg a1, if_neg (show ¬ dq P M t x (t + 1 - p) i = true by unfold dq; simp; omega)]
theorem M_miss {n c t x : Nat} {pr P M : Nat → Nat} (hn : 300 ≤ n) (hc : c ≤ 200) (ht : t < 100000) (hx : x < 60) (hp : ∀ i, pr i ≤ 9999) (hP : ∀ i, P i < 60) (hM : ∀ i, M i < 100000) : f_M_isMissing n 60 200 200 (nI c) (nF pr) (nF M) (nF P) (nI x) (nI t) = some (b01 (msg pr P M c t x)) := by
  have h1 := hp x
  unfold f_M_isMissing msg
  simp (disch := omega) only [zb, zc, nF_at, sr_nm_eq, z_0, zi_eq]
  by_cases a1 : pr x = 0
  · rw [if_pos a1]
    simp [a1]
    rfl
  · rw [if_neg a1, z_1, zs (show 1 ≤ pr x by omega), zi_le _ _ (by omega) (by omega)]
    by_cases a2 : pr x - 1 ≤ t
    · rw [if_pos a2, M_miss23 hc ht hx (by omega) hP hM c n 0 (by omega) (by omega)]
      simp [show 0 < pr x by omega, show pr x ≤ t + 1 by omega]
    · rw [if_neg a2]
      simp [show ¬ pr x ≤ t + 1 by omega]
      rfl
theorem nth_split {P : Nat → Bool} : ∀ (k m i r : Nat), nth P i (k + m) r = match nth P i k r with | some x => some x | none => nth P (i + k) m (r - cnt P i k)
  | 0, m, i, r => by rw [Nat.zero_add]; rfl
  | k + 1, m, i, r => by
    rw [show k + 1 + m = k + m + 1 by omega, nth_s, nth_s, cnt_s, show i + (k + 1) = i + 1 + k by omega]
    by_cases h : P i = true
    · simp only [h, if_true]
      by_cases hr : r = 0
      · simp [hr]
      · rw [if_neg hr, if_neg hr, nth_split k m (i + 1) (r - 1), show r - 1 - cnt P (i + 1) k = r - (1 + cnt P (i + 1) k) by omega]
    · simp only [h, if_false, Bool.false_eq_true, Nat.zero_add]
      exact nth_split k m (i + 1) r
theorem nth_cnt {P : Nat → Bool} : ∀ (k i r : Nat), nth P i k r = none → cnt P i k ≤ r
  | 0, _, _, _ => Nat.zero_le _
  | k + 1, i, r, h => by
    rw [nth_s] at h
    rw [cnt_s]
    by_cases hp : P i = true
    · rw [if_pos hp] at h
      by_cases hr : r = 0
      · rw [if_pos hr] at h; cases h
      · rw [if_neg hr] at h
        have := nth_cnt k (i + 1) (r - 1) h
        rw [if_pos hp]; omega
    · rw [if_neg hp] at h
      have := nth_cnt k (i + 1) r h
      rw [if_neg hp]; omega
theorem nth_lt {P : Nat → Bool} : ∀ {k i r x : Nat}, nth P i k r = some x → i ≤ x ∧ x < i + k
  | 0, _, _, _, h => by cases h
  | k + 1, i, r, x, h => by
    rw [nth_s] at h
    by_cases hp : P i = true
    · rw [if_pos hp] at h
      by_cases hr : r = 0
      · rw [if_pos hr] at h; cases h; omega
      · rw [if_neg hr] at h
        have := nth_lt h
        omega
    · rw [if_neg hp] at h
      have := nth_lt h
      omega
/-- station and check of a place, as the answer shows them -/
def msZ (o : Option Nat) : Int32 := match o with
  | none => -1
  | some x => nI (10 * (x / 5) + x % 5)
/-- the place is that of a missing check of a station that is there -/
def mR (fr to pr P M : Nat → Nat) (c t x : Nat) : Bool := tin fr to t (x / 5) && msg pr P M c t x
theorem C_mi52 {n s c t st r : Nat} {fr to pr P M G : Nat → Nat} {F : Nat → Int32} (hs : s ≤ 12) (hr : r < 2147483648) (ht : t < 100000) (hst : st < 12) (hth : tin fr to t st = true) (hp : ∀ i, pr i ≤ 9999) (hF : ∀ x, x < 60 → F x = nI (G x) - 1 ∧ G x ≤ 100000 ∧ ∀ d, d < G x ↔ (fi (dq P M t x d) 0 c).isSome = true) (K : Int32 → Int32 → (Nat → Int32) → Option (Nat × Int32 × (Nat → Int32))) :
    ∀ (k q b ck : Nat), ck + k = 5 → k < q → b ≤ 5 * st + ck → b ≤ r → f_S_missing_52 n 12 12 60 60 200 200 (nI s) (nF fr) (nF to) (nI c) (nF pr) (nF P) (nF M) (nI t) (nI r) K q (nI b) (nI st) (nI ck) F = match nth (mR fr to pr P M c t) (5 * st + ck) k (r - b) with | some x => some (0, msZ (some x), F) | none => K (nI (b + cnt (mR fr to pr P M c t) (5 * st + ck) k)) (nI (st + 1)) F := by
  intro k
  induction k with
  | zero =>
    intro q b ck hi hq hb hbr
    obtain ⟨q, rfl⟩ : ∃ r, q = r + 1 := ⟨q - 1, by omega⟩
    rw [f_S_missing_52_eq, z_5, if_pos (nI_le (by omega) (by omega)), sr_nm_eq, z_1, nI_add]
    rfl
  | succ k ih =>
    intro q b ck hi hq hb hbr
    obtain ⟨q, rfl⟩ : ∃ r, q = r + 1 := ⟨q - 1, by omega⟩
    have hm : mR fr to pr P M c t (5 * st + ck) = msg pr P M c t (5 * st + ck) := by
      unfold mR
      rw [show (5 * st + ck) / 5 = st by omega, hth]
      rfl
    rw [f_S_missing_52_eq, C_miss ht hst (by omega) hp hF, zd, ← hm, z_5, zi_le _ _ (by omega) (by omega), if_neg (by omega), nth_s, cnt_s]
    simp (disch := omega) only [zi_eq, sr_nm_eq, z_1, nI_add, z_10, pk_mul]
    cases hv : mR fr to pr P M c t (5 * st + ck) with
    | false =>
      rw [if_pos (show b01 false = 0 from rfl), ih q b (ck + 1) (by omega) (by omega) (by omega) hbr]
      simp only [Bool.false_eq_true, if_false, Nat.zero_add]
      rfl
    | true =>
      rw [if_neg (show ¬ b01 true = 0 by decide), if_pos rfl, if_pos rfl]
      by_cases hq : b = r
      · rw [if_pos hq, if_pos (by omega)]
        simp only [msZ]
        rw [show (5 * st + ck) / 5 = st by omega, show (5 * st + ck) % 5 = ck by omega]
      · rw [if_neg hq, if_neg (by omega), ih q (b + 1) (ck + 1) (by omega) (by omega) (by omega) (by omega), show r - (b + 1) = r - b - 1 by omega, Nat.add_assoc b 1]
        rfl
theorem C_mi21 {n s c t r : Nat} {fr to pr P M G : Nat → Nat} {F : Nat → Int32} (hn : 100 ≤ n) (hs : s ≤ 12) (hr : r < 2147483648) (ht : t < 100000) (hfr : ∀ k, fr k ≤ 100000) (hto : ∀ k, to k ≤ 100000) (hp : ∀ i, pr i ≤ 9999) (hF : ∀ x, x < 60 → F x = nI (G x) - 1 ∧ G x ≤ 100000 ∧ ∀ d, d < G x ↔ (fi (dq P M t x d) 0 c).isSome = true) :
    ∀ (k q b st : Nat), st + k = s → k < q → b ≤ 5 * st → b ≤ r → f_S_missing_21 n 12 12 60 60 200 200 (nI s) (nF fr) (nF to) (nI c) (nF pr) (nF P) (nF M) (nI t) (nI r) q (nI b) (nI st) F = some (0, msZ (nth (mR fr to pr P M c t) (5 * st) (5 * k) (r - b)), F) := by
  intro k
  induction k with
  | zero =>
    intro q b st hi hq hb hbr
    obtain ⟨q, rfl⟩ : ∃ r, q = r + 1 := ⟨q - 1, by omega⟩
    rw [f_S_missing_21_eq]
    unfold f_St_count
    rw [zd, if_pos (nI_le (by omega) (by omega))]
    rfl
  | succ k ih =>
    intro q b st hi hq hb hbr
    obtain ⟨q, rfl⟩ : ∃ r, q = r + 1 := ⟨q - 1, by omega⟩
    rw [f_S_missing_21_eq]
    unfold f_St_count
    rw [zd, zi_le _ _ (by omega) (by omega), if_neg (by omega), St_there (show st < 12 by omega) (by omega) hfr hto, zd, sr_nm_eq, show 5 * (k + 1) = 5 + 5 * k by omega, nth_split 5 (5 * k) (5 * st) (r - b), show 5 * st + 5 = 5 * (st + 1) by omega]
    cases hv : tin fr to t st with
    | false =>
      have hz : ∀ j, 5 * st ≤ j → j < 5 * st + 5 → mR fr to pr P M c t j = false := fun j h1 h2 => by
        unfold mR
        rw [show j / 5 = st by omega, hv]
        rfl
      rw [if_pos (show b01 false = 0 from rfl), z_1, nI_add, ih q b (st + 1) (by omega) (by omega) (by omega) hbr, nth_none 5 _ _ hz, cnt_none 5 _ hz]
      rfl
    | true =>
      rw [if_neg (show ¬ b01 true = 0 by decide), z_0, C_mi52 hs hr ht (by omega) hv hp hF _ 5 n b 0 (by omega) (by omega) (by omega) hbr, Nat.add_zero]
      cases hx : nth (mR fr to pr P M c t) (5 * st) 5 (r - b) with
      | some x => rfl
      | none =>
        have h1 := nth_cnt _ _ _ hx
        have h2 := cnt_le (mR fr to pr P M c t) 5 (5 * st)
        simp only
        rw [ih q _ (st + 1) (by omega) (by omega) (by omega) (by omega), show r - (b + cnt (mR fr to pr P M c t) (5 * st) 5) = r - b - cnt (mR fr to pr P M c t) (5 * st) 5 by omega]
theorem M_mi34 {n s c t : Nat} {fr to pr P M : Nat → Nat} (hn : 300 ≤ n) (hs : s ≤ 12) (hc : c ≤ 200) (ht : t < 100000) (hfr : ∀ k, fr k ≤ 100000) (hto : ∀ k, to k ≤ 100000) (hp : ∀ i, pr i ≤ 9999) (hP : ∀ i, P i < 60) (hM : ∀ i, M i < 100000) (x th : Int32) :
    ∀ (k q r i : Nat), i + k = 5 * s → k < q → r < 2147483648 → f_M_missing_34 n 12 12 60 200 200 (nI s) (nI c) (nF fr) (nF to) (nF pr) (nF M) (nF P) (nI t) x q (nI r) (nI i) th = some (msZ (nth (mR fr to pr P M c t) i k r), th) := by
  intro k
  induction k with
  | zero =>
    intro q r i hi hq hr
    obtain ⟨q, rfl⟩ : ∃ r, q = r + 1 := ⟨q - 1, by omega⟩
    rw [f_M_missing_34_eq, z_5, pk_mul, if_pos (nI_le (by omega) (by omega))]
    rfl
  | succ k ih =>
    intro q r i hi hq hr
    obtain ⟨q, rfl⟩ : ∃ r, q = r + 1 := ⟨q - 1, by omega⟩
    rw [f_M_missing_34_eq, z_5, pk_mul, zi_le _ _ (by omega) (by omega), if_neg (by omega), pk_rem (by omega) (by omega) (by omega), pk_div (by omega) (by omega) (by omega), M_there (show i / 5 < 12 by omega) (by omega) hfr hto, zd, M_miss hn hc ht (show i < 60 by omega) hp hP hM, zd]
    simp (disch := omega) only [zi_eq, sr_nm_eq, z_1, z_10, z_0, nI_add, pk_mul]
    rw [nth_s, ih q r (i + 1) (by omega) (by omega) hr]
    have e : mR fr to pr P M c t i = (tin fr to t (i / 5) && msg pr P M c t i) := rfl
    rw [e]
    cases h1 : tin fr to t (i / 5) with
    | false =>
      rw [if_pos (show b01 false = nI 0 from rfl)]
      rfl
    | true =>
      rw [if_neg (show ¬ b01 true = nI 0 by decide)]
      cases h2 : msg pr P M c t i with
      | false =>
        rw [if_pos (show b01 false = nI 0 from rfl)]
        rfl
      | true =>
        rw [if_neg (show ¬ b01 true = nI 0 by decide), if_pos (show (true && true) = true from rfl)]
        by_cases hq : r = 0
        · rw [if_pos hq, if_pos hq]
          rfl
        · rw [if_neg hq, if_neg hq, show nI r + -nI 1 = nI (r - 1) from (show nI r + -nI 1 = nI r - nI 1 by rw [Int32.sub_eq_add_neg]).trans (pk_sub (by omega)), ih q (r - 1) (i + 1) (by omega) (by omega) (by omega)]
theorem ag_missing {n s c : Nat} {fr to pr P M : Nat → Nat} (hn : 300 ≤ n) (hs : s ≤ 12) (hc : c ≤ 200) (hfr : ∀ k, fr k ≤ 100000) (hto : ∀ k, to k ≤ 100000) (hp : ∀ i, pr i ≤ 9999) (hP : ∀ i, P i < 60) (hM : ∀ i, M i < 100000) (O : Nat → Int64) (F : Nat → Int32) (th x y : Int32) :
    (∃ (k : Int32) (F' : Nat → Int32), f_L_missing n 12 12 60 60 200 200 1 (nI s) (nF fr) (nF to) (nI c) (nF pr) F (nF P) (nF M) O x y = some (k, F', O) ∧ f_M_missing n 12 12 60 200 200 th (nI s) (nI c) (nF fr) (nF to) (nF pr) (nF M) (nF P) x y = some (0, k) ∧ ¬ k = 0) ∨
    ∃ (r : Int32) (F' : Nat → Int32), f_L_missing n 12 12 60 60 200 200 1 (nI s) (nF fr) (nF to) (nI c) (nF pr) F (nF P) (nF M) O x y = some (0, F', vp_updL O 0 r.toInt64) ∧ f_M_missing n 12 12 60 200 200 th (nI s) (nI c) (nF fr) (nF to) (nF pr) (nF M) (nF P) x y = some (r, 0) := by
  unfold f_L_missing f_S_missing f_M_missing
  simp only [S_minute, M_minute, zd, M_goes2 (show 6 ≤ n by omega), f_S_requirePlace]
  rcases rg01_01 x 0 99999 with h1 | h1
  · exact Or.inl ⟨1, F, by simp [h1, zd], by simp [h1], by decide⟩
  · obtain ⟨t, ht, rfl⟩ := rg_of (b := 99999) (by omega) rfl h1
    by_cases h2 : y < 0
    · have h3 : ¬ (0 : Int32) ≤ y := Int32.not_le.mpr h2
      exact Or.inl ⟨1, F, by simp [h1, h3, zd], by simp [h1, h2], by decide⟩
    · have h3 : (0 : Int32) ≤ y := Int32.not_lt.mp h2
      obtain ⟨r, hr, rfl⟩ := nI_of h2
      obtain ⟨F1, e1, hF1⟩ := J_fill (n := n) (N := 60) (by omega) (by omega) (-1) F
      obtain ⟨F2, G, e2, hF2⟩ := C_late (n := n) hc (show t < 100000 by omega) hP hM c n 0 F1 (fun _ => 0) (by omega) (by omega) (fun x hx => ⟨hF1 x hx, by omega⟩)
      have e3 : f_Ch_findLatest n 60 200 200 (nI c) F (nF P) (nF M) (nI t) = some F2 := by
        unfold f_Ch_findLatest
        rw [e1, zd]
        exact e2
      have e4 : f_S_missing_21 n 12 12 60 60 200 200 (nI s) (nF fr) (nF to) (nI c) (nF pr) (nF P) (nF M) (nI t) (nI r) n 0 0 F2 = some (0, msZ (nth (mR fr to pr P M c t) 0 (5 * s) r), F2) :=
        C_mi21 (G := G) (by omega) hs hr (by omega) hfr hto hp (fun x hx => ⟨(hF2 x hx).1, (hF2 x hx).2.1, fun d => ((hF2 x hx).2.2 d).trans ⟨fun w => w.elim (fun v => absurd v (Nat.not_lt_zero _)) id, Or.inr⟩⟩) s n 0 0 (by omega) (by omega) (by omega) (by omega)
      have e5 : f_M_missing_34 n 12 12 60 200 200 (nI s) (nI c) (nF fr) (nF to) (nF pr) (nF M) (nF P) (nI t) (nI r) n (nI r) 0 0 = some (msZ (nth (mR fr to pr P M c t) 0 (5 * s) r), 0) :=
        M_mi34 hn hs hc (by omega) hfr hto hp hP hM (nI r) 0 (5 * s) n r 0 (by omega) (by omega) hr
      refine Or.inr ⟨msZ (nth (mR fr to pr P M c t) 0 (5 * s) r), F2, ?_, ?_⟩
      · simp [h1, h3, zd, e3, e4]
        rfl
      · simp [h1, h2, e5]
