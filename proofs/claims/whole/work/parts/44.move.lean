theorem M_movef {n o : Nat} {c f t : Nat → Nat} (ho : o < 60) (hc : c o ≤ 3) (S V x2 x y th : Int32) (H W : Nat → Int32) : ∀ (k q i : Nat) (u : Int32), u = 0 ∨ u = 1 → i + k = c o → f_M_move_48 n 60 60 180 180 180 S V H (nI o) x2 x y (q + k) 1 u (nI i) th (nF c) W (nF f) (nF t) = f_M_move_48 n 60 60 180 180 180 S V H (nI o) x2 x y q 1 (mfr x y (nF f) (nF t) (3 * o) u i k) (nI (c o)) th (nF c) W (nF f) (nF t) := by
  intro k
  induction k with
  | zero =>
    intro q i u hu hi
    rw [show i = c o by omega]
    rfl
  | succ k ih =>
    intro q i u hu hi
    rw [show q + (k + 1) = q + k + 1 from rfl, f_M_move_48_eq, if_neg (by decide), zb _ ho (by omega), zc (show o < 2147483648 by omega), nF_at, zi_le _ _ (by omega) (by omega), if_neg (by omega)]
    rcases hu with rfl | rfl
    · rw [if_pos rfl]
      simp (disch := omega) only [sr_nm_eq, z_1, nI_add]
      rw [show nI 1 = 1 from rfl, ih q (i + 1) 0 (Or.inl rfl) (by omega)]
      rfl
    · rw [if_neg (by decide)]
      unfold mfr
      rw [if_neg (by decide)]
      unfold f_M_meet
      simp (disch := omega) only [sr_nm_eq, z_1, nI_add, z_3, pk_mul, zb, zc]
      rw [show nI 1 = 1 from rfl, ih q (i + 1) 1 (Or.inr rfl) (by omega), ih q (i + 1) 0 (Or.inl rfl) (by omega)]
      by_cases a1 : nF t (3 * o + i) ≤ x
      · simp [a1, zd]
      · by_cases a2 : y ≤ nF f (3 * o + i)
        · simp [a1, a2, zd]
        · simp [a1, a2, zd]
theorem P_keep {o c st : Nat} {cs w : Nat → Nat} (ho : o < 60) (hc : c < 3) (hs : cs o = c + 1) : f_P_keepNewestMoveStation 60 180 (nF cs) (nF w) (nI o) (nI st) = some (nF (fup w (o * 3 + c) st)) := by
  unfold f_P_keepNewestMoveStation f_T_countOf
  simp (disch := omega) only [zb, zc, nF_at, zd, sr_nm_eq, hs]
  simp (disch := omega) only [z_1, z_3, z_0, zs, Nat.add_sub_cancel, zi_lt, pk_mul, nI_add, zb, zc, up_nF]
  rw [if_neg (by omega)]
theorem ag_move {n s p : Nat} {hm c f t w : Nat → Nat} (hn : 100 ≤ n) (hs : s ≤ 12) (hp : p ≤ 60) (hh : ∀ i, hm i < 1000) (hc : ∀ i, c i ≤ 3) (hf : ∀ k, f k ≤ 100000) (ht : ∀ k, t k ≤ 100000) (th x x2 y z : Int32) :
    (∃ k : Int32, f_L_move n 60 60 180 180 180 (nI s) (nI p) (nF hm) (nI 3) (nF c) (nF f) (nF t) (nF w) x x2 y z = some (k, nF c, nF f, nF t, nF w) ∧ f_M_move n 60 60 180 180 180 th (nI s) (nI p) (nF hm) (nF c) (nF w) (nF f) (nF t) x x2 y z = some (k, nF c, nF w, nF f, nF t)) ∨
    ∃ o st a b, o < p ∧ st < s ∧ a < b ∧ b < 100000 ∧ c o < 3 ∧ f_L_move n 60 60 180 180 180 (nI s) (nI p) (nF hm) (nI 3) (nF c) (nF f) (nF t) (nF w) x x2 y z = some (0, nF (fup c o (c o + 1)), nF (fup f (o * 3 + c o) a), nF (fup t (o * 3 + c o) b), nF (fup w (o * 3 + c o) st)) ∧ f_M_move n 60 60 180 180 180 th (nI s) (nI p) (nF hm) (nF c) (nF w) (nF f) (nF t) x x2 y z = some (0, nF (fup c o (c o + 1)), nF (fup w (o * 3 + c o) st), nF (fup f (o * 3 + c o) a), nF (fup t (o * 3 + c o) b)) := by
  unfold f_L_move f_S_move f_M_move
  have e : ∀ u : Int32, f_M_move_48 n 60 60 180 180 180 (nI s) (nI p) (nF hm) x x2 y z n 0 u 0 th (nF c) (nF w) (nF f) (nF t) = some (1, nF c, nF w, nF f, nF t) := by
    intro u
    obtain ⟨q, hq⟩ : ∃ q, n = q + 1 := ⟨n - 1, by omega⟩
    have e0 : ∀ r, r = q + 1 → f_M_move_48 n 60 60 180 180 180 (nI s) (nI p) (nF hm) x x2 y z r 0 u 0 th (nF c) (nF w) (nF f) (nF t) = some (1, nF c, nF w, nF f, nF t) := by
      rintro r rfl
      rw [f_M_move_48_eq]
      simp [M_time, M_goes15 (show 6 ≤ n by omega), zd]
    exact e0 n hq
  simp only [S_time, S_kn, M_pe (show p < 1000000 by omega), M_st (show s < 1000000 by omega), zd, f_P_count, f_St_count, f_P_moves, e, f_P_homeOf]
  rcases kn_cases p (by omega) x with ⟨h0, -⟩ | ⟨o, ho, rfl, h0⟩
  · exact Or.inl ⟨1, by simp [h0, zd], by simp [h0]⟩
  · rcases kn_cases s (by omega) x2 with ⟨h5, -⟩ | ⟨st, hst, rfl, h5⟩
    · exact Or.inl ⟨1, by simp [h0, h5, zd], by simp [h0, h5]⟩
    · have hco := hc o
      have hho := hh o
      have hb1 : ∀ k, f k < 1000000 := fun k => by have := hf k; omega
      have hb2 : ∀ k, t k < 1000000 := fun k => by have := ht k; omega
      have e2 : ∀ u : Int32, u = 0 ∨ u = 1 → f_M_move_48 n 60 60 180 180 180 (nI s) (nI p) (nF hm) (nI o) (nI st) y z n 1 u 0 th (nF c) (nF w) (nF f) (nF t) = f_M_move_48 n 60 60 180 180 180 (nI s) (nI p) (nF hm) (nI o) (nI st) y z (n - c o - 1 + 1) 1 (mfr y z (nF f) (nF t) (3 * o) u 0 (c o)) (nI (c o)) th (nF c) (nF w) (nF f) (nF t) := by
        intro u hu
        rw [← M_movef (show o < 60 by omega) hco (nI s) (nI p) (nI st) y z th (nF hm) (nF w) (c o) (n - c o - 1 + 1) 0 u hu (by omega), show n - c o - 1 + 1 + c o = n by omega]
        rfl
      simp only [h0, h5, if_true, if_neg (show ¬ (1 : Int32) = 0 by decide)]
      simp only [zb _ (show o < 60 by omega) (show 60 < 2147483648 by omega), zc (show o < 2147483648 by omega), nF_at, zd, e2 0 (Or.inl rfl), e2 1 (Or.inr rfl), mfr_0]
      simp only [f_M_move_48_eq, if_neg (show ¬ (1 : Int32) = 0 by decide), zb _ (show o < 60 by omega) (show 60 < 2147483648 by omega), zc (show o < 2147483648 by omega), nF_at, if_pos (nI_le (Nat.le_refl (c o)) (by omega)), M_time, zd, M_goes15 (show 6 ≤ n by omega)]
      have hmf := mfr_01 y z (nF f) (nF t) (3 * o) (c o) 0 1 (Or.inr rfl)
      rcases tm_01 y z with h1 | h1
      · refine Or.inl ⟨2, by simp [h1, zd], ?_⟩
        by_cases h6 : nI (hm o) = nI st <;> by_cases h2 : (3 : Int32) ≤ nI (c o) <;> simp [h1, h2, h6, zd]
      · by_cases h6 : nI (hm o) = nI st
        · refine Or.inl ⟨3, by simp [h1, h6, zd, f_S_requireState], ?_⟩
          by_cases h2 : (3 : Int32) ≤ nI (c o) <;> simp [h1, h2, h6, zd]
        · simp only [if_neg h6]
          obtain ⟨a, b, hab, hb, rfl, rfl⟩ := tm_of h1
          rw [mfr_1 (by omega) (by omega) hb1 hb2, S_addTime (by omega) (show o < 60 by omega) (by omega) hco (by omega) (by omega) (by omega) (by omega) (by omega) (by omega) (by omega) hb1 hb2, Nat.mul_comm 3 o]
          by_cases h3 : (fi (fun j => tmeet f t a b (o * 3 + j)) 0 (c o)).isSome = true
          · refine Or.inl ⟨3, by simp [h1, h3, zd, f_S_requireState], ?_⟩
            by_cases h2 : (3 : Int32) ≤ nI (c o) <;> simp [h1, h2, h3, zd]
          · by_cases h4 : c o < 3
            · have h2 : ¬ (3 : Int32) ≤ nI (c o) := fun q => (le_c (C := 3) rfl hco (by omega)).mp q h4
              refine Or.inr ⟨o, st, a, b, ho, hst, hab, hb, h4, ?_, ?_⟩
              · simp [h1, h3, show ¬ 3 ≤ c o by omega, zd, f_S_requireState, P_keep (show o < 60 by omega) h4 (fup_s c o (c o + 1))]
              · simp [h1, h2, h3, zd]
                simp (disch := omega) only [z_3, z_1, pk_mul, nI_add, zb, zc, nF_at, up_nF]
                rw [Nat.mul_comm 3 o]
            · have h2 : (3 : Int32) ≤ nI (c o) := (le_c (C := 3) rfl hco (by omega)).mpr h4
              exact Or.inl ⟨4, by simp [h1, h3, show 3 ≤ c o by omega, zd, f_S_requireState], by simp [h1, h2, h3, zd]⟩
