theorem M_rg (x a b : Int32) : f_M_in x a b = some (rg01 x a b) := M_in x a b
theorem rg_of1 {x : Int32} (h : rg01 x 1 6 = 1) : ∃ a, 1 ≤ a ∧ a ≤ 6 ∧ x = nI a := by
  unfold rg01 at h
  by_cases h0 : x < 1
  · rw [if_pos h0] at h; exact absurd h (by decide)
  · rw [if_neg h0] at h
    by_cases h1 : (6 : Int32) < x
    · rw [if_pos h1] at h; exact absurd h (by decide)
    · have hx : ¬ x < 0 := fun q => h0 (by
        rw [Int32.lt_iff_toInt_lt] at q ⊢
        have e0 : (0 : Int32).toInt = 0 := by decide
        have e1 : (1 : Int32).toInt = 1 := by decide
        omega)
      obtain ⟨j, hj, rfl⟩ := nI_of hx
      refine ⟨j, ?_, ?_, rfl⟩
      · rcases Nat.lt_or_ge j 1 with q | q
        · exact absurd (nI_lt q (by omega)) h0
        · exact q
      · rcases Nat.lt_or_ge 6 j with q | q
        · exact absurd (nI_lt q hj) h1
        · exact q
theorem ne1 {x : Int32} (h : x = 0) : ¬ x = 1 := by rw [h]; decide
theorem St_add {s : Nat} (hs : s < 12) (d f t : Nat → Nat) (a b c : Nat) : f_St_add 12 12 12 (nI s) (nF d) (nF f) (nF t) (nI a) (nI b) (nI c) = some (nI s, nI (s + 1), nF (fup d s a), nF (fup f s b), nF (fup t s c)) := by
  unfold f_St_add
  simp (disch := omega) only [zb, sr_nm_eq, z_1, nI_add, zc, up_nF]
theorem M_add {s : Nat} (hs : s < 12) (d f t : Nat → Nat) (a b c : Nat) : f_M_add 12 12 12 (nI s) (nF d) (nF f) (nF t) (nI a) (nI b) (nI c) = some (nI s, nI (s + 1), nF (fup d s a), nF (fup f s b), nF (fup t s c)) := by
  unfold f_M_add
  simp (disch := omega) only [zb, sr_nm_eq, z_1, nI_add, zc, up_nF, zs]
  rfl
theorem le12 {s : Nat} (hs : s ≤ 12) : (12 : Int32) ≤ nI s ↔ ¬ s < 12 := by
  rw [z_12, nI_leI (by omega) (by omega)]; omega
/-- two runs agree and change nothing, or both add -/
theorem ag_station {n s : Nat} {d f t : Nat → Nat} (hn : 6 ≤ n) (hs : s ≤ 12) (O : Nat → Int64) (th x : Int32) :
    (∃ k : Int32, f_L_station 12 12 12 1 (nI s) (nF d) (nF f) (nF t) O x = some (k, nI s, nF d, nF f, nF t, O) ∧ f_M_station n 12 12 12 th (nI s) (nF d) (nF f) (nF t) x = some (0, k, nI s, nF d, nF f, nF t) ∧ ¬ k = 0) ∨
    ∃ a, 1 ≤ a ∧ a ≤ 6 ∧ s < 12 ∧ f_L_station 12 12 12 1 (nI s) (nF d) (nF f) (nF t) O x = some (0, nI (s + 1), nF (fup d s a), nF (fup f s 0), nF (fup t s 100000), vp_updL O 0 (nI s).toInt64) ∧ f_M_station n 12 12 12 th (nI s) (nF d) (nF f) (nF t) x = some (nI s, 0, nI (s + 1), nF (fup d s a), nF (fup f s 0), nF (fup t s 100000)) := by
  unfold f_L_station f_S_station f_M_station
  simp only [S_rg, M_rg, zd, f_St_count, M_goes10 hn]
  rcases rg01_01 x 1 6 with h | h
  · refine Or.inl ⟨1, ?_, ?_, by decide⟩
    · simp [h, zd]
    · by_cases h2 : (12 : Int32) ≤ nI s <;> simp [h, h2, zd]
  · by_cases h2 : s < 12
    · refine Or.inr ?_
      obtain ⟨a, ha1, ha2, rfl⟩ := rg_of1 h
      have h3 : ¬ (12 : Int32) ≤ nI s := fun q => (le12 hs).mp q h2
      have e1 : f_St_add 12 12 12 (nI s) (nF d) (nF f) (nF t) (nI a) 0 100000 = some (nI s, nI (s + 1), nF (fup d s a), nF (fup f s 0), nF (fup t s 100000)) := St_add h2 d f t a 0 100000
      have e2 : f_M_add 12 12 12 (nI s) (nF d) (nF f) (nF t) (nI a) 0 100000 = some (nI s, nI (s + 1), nF (fup d s a), nF (fup f s 0), nF (fup t s 100000)) := M_add h2 d f t a 0 100000
      refine ⟨a, ha1, ha2, h2, ?_, ?_⟩
      · simp [h, h3, zd, f_S_requireRoom, e1]
        rfl
      · simp [h, h3, zd, e2]
    · have h3 : (12 : Int32) ≤ nI s := (le12 hs).mpr h2
      refine Or.inl ⟨2, ?_, ?_, by decide⟩
      · simp [h, h3, zd, f_S_requireRoom]
      · simp [h, h3, zd]
theorem ag_temporary {n s : Nat} {d f t : Nat → Nat} (hn : 6 ≤ n) (hs : s ≤ 12) (O : Nat → Int64) (th x y z : Int32) :
    (∃ k : Int32, f_L_temporary 12 12 12 1 (nI s) (nF d) (nF f) (nF t) O x y z = some (k, nI s, nF d, nF f, nF t, O) ∧ f_M_temporary n 12 12 12 th (nI s) (nF d) (nF f) (nF t) x y z = some (0, k, nI s, nF d, nF f, nF t) ∧ ¬ k = 0) ∨
    ∃ a b c, 1 ≤ a ∧ a ≤ 6 ∧ s < 12 ∧ b < c ∧ c < 100000 ∧ f_L_temporary 12 12 12 1 (nI s) (nF d) (nF f) (nF t) O x y z = some (0, nI (s + 1), nF (fup d s a), nF (fup f s b), nF (fup t s c), vp_updL O 0 (nI s).toInt64) ∧ f_M_temporary n 12 12 12 th (nI s) (nF d) (nF f) (nF t) x y z = some (nI s, 0, nI (s + 1), nF (fup d s a), nF (fup f s b), nF (fup t s c)) := by
  unfold f_L_temporary f_S_temporary f_M_temporary
  simp only [S_rg, M_rg, S_time, M_time, zd, f_St_count, M_goes10 hn]
  rcases rg01_01 x 1 6 with h | h
  · refine Or.inl ⟨1, ?_, ?_, by decide⟩
    · simp [h, zd]
    · by_cases h2 : (12 : Int32) ≤ nI s <;> simp [h, h2, zd]
  · rcases tm_01 y z with h1 | h1
    · refine Or.inl ⟨1, ?_, ?_, by decide⟩
      · simp [h, h1, zd]
      · by_cases h2 : (12 : Int32) ≤ nI s <;> simp [h, h1, h2, zd]
    · by_cases h2 : s < 12
      · refine Or.inr ?_
        obtain ⟨a, ha1, ha2, rfl⟩ := rg_of1 h
        obtain ⟨b, c, hb, hc, rfl, rfl⟩ := tm_of h1
        have h3 : ¬ (12 : Int32) ≤ nI s := fun q => (le12 hs).mp q h2
        refine ⟨a, b, c, ha1, ha2, h2, hb, hc, ?_, ?_⟩
        · simp [h, h1, h3, zd, f_S_requireRoom, St_add h2]
          rfl
        · simp [h, h1, h3, zd, M_add h2]
      · have h3 : (12 : Int32) ≤ nI s := (le12 hs).mpr h2
        refine Or.inl ⟨2, ?_, ?_, by decide⟩
        · simp [h, h1, h3, zd, f_S_requireRoom]
        · simp [h, h1, h3, zd]
