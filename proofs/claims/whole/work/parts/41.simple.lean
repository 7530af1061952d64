theorem M_rg (x a b : Int32) : f_M_in x a b = some (rg01 x a b) := M_in x a b
theorem rg_of1 {x : Int32} (h : rg01 x 1 6 = 1) : ∃ a, 1 ≤ a ∧ a ≤ 6 ∧ x = nI a := by
  unfold rg01 at h
  by_cases h0 : x < 1
  · rw [if_pos h0] at h; exact absurd h (by decide)
  · rw [if_neg h0] at h
    by_cases h1 : (6 : Int32) < x
    · rw [if_pos h1] at h; exact absurd h (by decide)
    · have hx : ¬ x < 0 := fun q => h0 (by
        rw [Int32.lt_iff_toInt_lt] at q ⊢
        have e0 : (0 : Int32).toInt = 0 := by decide
        have e1 : (1 : Int32).toInt = 1 := by decide
        omega)
      obtain ⟨j, hj, rfl⟩ := nI_of hx
      refine ⟨j, ?_, ?_, rfl⟩
      · rcases Nat.lt_or_ge j 1 with q | q
        · exact absurd (nI_lt q (by omega)) h0
        · exact q
      · rcases Nat.lt_or_ge 6 j with q | q
        · exact absurd (nI_lt q hj) h1
        · exact q
theorem ne1 {x : Int32} (h : x = 0) : ¬ x = 1 := by rw [h]; decide
theorem St_add {s : Nat} (hs : s < 12) (d f t : Nat → Nat) (a b c : Nat) : f_St_add 12 12 12 (nI s) (nF d) (nF f) (nF t) (nI a) (nI b) (nI c) = some (nI s, nI (s + 1), nF (fup d s a), nF (fup f s b), nF (fup t s c)) := by
  unfold f_St_add
  simp (disch := omega) only [zb, sr_nm_eq, z_1, nI_add, zc, up_nF]
theorem M_add {s : Nat} (hs : s < 12) (d f t : Nat → Nat) (a b c : Nat) : f_M_add 12 12 12 (nI s) (nF d) (nF f) (nF t) (nI a) (nI b) (nI c) = some (nI s, nI (s + 1), nF (fup d s a), nF (fup f s b), nF (fup t s c)) := by
  unfold f_M_add
  simp (disch := omega) only [zb, sr_nm_eq, z_1, nI_add, zc, up_nF, zs]
  rfl
theorem le12 {s : Nat} (hs : s ≤ 12) : (12 : Int32) ≤ nI s ↔ ¬ s < 12 := by
  rw [z_12, nI_leI (by omega) (by omega)]; omega
/-- two runs agree and change nothing, or both add -/
theorem ag_station {n s : Nat} {d f t : Nat → Nat} (hn : 6 ≤ n) (hs : s ≤ 12) (O : Nat → Int64) (th x : Int32) :
    (∃ k : Int32, f_L_station 12 12 12 1 (nI s) (nF d) (nF f) (nF t) O x = some (k, nI s, nF d, nF f, nF t, O) ∧ f_M_station n 12 12 12 th (nI s) (nF d) (nF f) (nF t) x = some (0, k, nI s, nF d, nF f, nF t) ∧ ¬ k = 0) ∨
    ∃ a, 1 ≤ a ∧ a ≤ 6 ∧ s < 12 ∧ f_L_station 12 12 12 1 (nI s) (nF d) (nF f) (nF t) O x = some (0, nI (s + 1), nF (fup d s a), nF (fup f s 0), nF (fup t s 100000), vp_updL O 0 (nI s).toInt64) ∧ f_M_station n 12 12 12 th (nI s) (nF d) (nF f) (nF t) x = some (nI s, 0, nI (s + 1), nF (fup d s a), nF (fup f s 0), nF (fup t s 100000)) := by
  unfold f_L_station f_S_station f_M_station
  simp only [S_rg, M_rg, zd, f_St_count, M_goes10 hn]
  rcases rg01_01 x 1 6 with h | h
  · refine Or.inl ⟨1, ?_, ?_, by decide⟩
    · simp [h, zd]
    · by_cases h2 : (12 : Int32) ≤ nI s <;> simp [h, h2, zd]
  · by_cases h2 : s < 12
    · refine Or.inr ?_
      obtain ⟨a, ha1, ha2, rfl⟩ := rg_of1 h
      have h3 : ¬ (12 : Int32) ≤ nI s := fun q => (le12 hs).mp q h2
      have e1 : f_St_add 12 12 12 (nI s) (nF d) (nF f) (nF t) (nI a) 0 100000 = some (nI s, nI (s + 1), nF (fup d s a), nF (fup f s 0), nF (fup t s 100000)) := St_add h2 d f t a 0 100000
      have e2 : f_M_add 12 12 12 (nI s) (nF d) (nF f) (nF t) (nI a) 0 100000 = some (nI s, nI (s + 1), nF (fup d s a), nF (fup f s 0), nF (fup t s 100000)) := M_add h2 d f t a 0 100000
      refine ⟨a, ha1, ha2, h2, ?_, ?_⟩
      · simp [h, h3, zd, f_S_requireRoom, e1]
        rfl
      · simp [h, h3, zd, e2]
    · have h3 : (12 : Int32) ≤ nI s := (le12 hs).mpr h2
      refine Or.inl ⟨2, ?_, ?_, by decide⟩
      · simp [h, h3, zd, f_S_requireRoom]
      · simp [h, h3, zd]
theorem ag_temporary {n s : Nat} {d f t : Nat → Nat} (hn : 6 ≤ n) (hs : s ≤ 12) (O : Nat → Int64) (th x y z : Int32) :
    (∃ k : Int32, f_L_temporary 12 12 12 1 (nI s) (nF d) (nF f) (nF t) O x y z = some (k, nI s, nF d, nF f, nF t, O) ∧ f_M_temporary n 12 12 12 th (nI s) (nF d) (nF f) (nF t) x y z = some (0, k, nI s, nF d, nF f, nF t) ∧ ¬ k = 0) ∨
    ∃ a b c, 1 ≤ a ∧ a ≤ 6 ∧ s < 12 ∧ b < c ∧ c < 100000 ∧ f_L_temporary 12 12 12 1 (nI s) (nF d) (nF f) (nF t) O x y z = some (0, nI (s + 1), nF (fup d s a), nF (fup f s b), nF (fup t s c), vp_updL O 0 (nI s).toInt64) ∧ f_M_temporary n 12 12 12 th (nI s) (nF d) (nF f) (nF t) x y z = some (nI s, 0, nI (s + 1), nF (fup d s a), nF (fup f s b), nF (fup t s c)) := by
  unfold f_L_temporary f_S_temporary f_M_temporary
  simp only [S_rg, M_rg, S_time, M_time, zd, f_St_count, M_goes10 hn]
  rcases rg01_01 x 1 6 with h | h
  · refine Or.inl ⟨1, ?_, ?_, by decide⟩
    · simp [h, zd]
    · by_cases h2 : (12 : Int32) ≤ nI s <;> simp [h, h2, zd]
  · rcases tm_01 y z with h1 | h1
    · refine Or.inl ⟨1, ?_, ?_, by decide⟩
      · simp [h, h1, zd]
      · by_cases h2 : (12 : Int32) ≤ nI s <;> simp [h, h1, h2, zd]
    · by_cases h2 : s < 12
      · refine Or.inr ?_
        obtain ⟨a, ha1, ha2, rfl⟩ := rg_of1 h
        obtain ⟨b, c, hb, hc, rfl, rfl⟩ := tm_of h1
        have h3 : ¬ (12 : Int32) ≤ nI s := fun q => (le12 hs).mp q h2
        refine ⟨a, b, c, ha1, ha2, h2, hb, hc, ?_, ?_⟩
        · simp [h, h1, h3, zd, f_S_requireRoom, St_add h2]
          rfl
        · simp [h, h1, h3, zd, M_add h2]
      · have h3 : (12 : Int32) ≤ nI s := (le12 hs).mpr h2
        refine Or.inl ⟨2, ?_, ?_, by decide⟩
        · simp [h, h1, h3, zd, f_S_requireRoom]
        · simp [h, h1, h3, zd]
theorem rg_kn {x : Int32} {b : Nat} (hb : b < 1000) {B : Int32} (hB : B = nI b) : rg01 x 0 B = kn01 (b + 1) x := by
  unfold rg01 kn01
  by_cases h0 : x < 0
  · rw [if_pos h0, if_pos h0]
  · rw [if_neg h0, if_neg h0]
    have e : B < x ↔ ¬ x < nI (b + 1) := by
      rw [hB, Int32.lt_iff_toInt_lt, Int32.lt_iff_toInt_lt, nI_toInt (by omega), nI_toInt (by omega)]
      omega
    by_cases h1 : x < nI (b + 1)
    · rw [if_neg (fun q => e.mp q h1), if_pos h1]
    · rw [if_pos (e.mpr h1), if_neg h1]
theorem le_c {c C : Nat} {B : Int32} (hB : B = nI C) (hc : c ≤ C) (hC : C < 1000000) : B ≤ nI c ↔ ¬ c < C := by
  rw [hB, nI_leI (by omega) (by omega)]; omega
theorem M_st {s : Nat} (hs : s < 1000000) (x : Int32) : f_M_isStation (nI s) x = some (kn01 s x) := M_kn hs x
theorem M_ve {s : Nat} (hs : s < 1000000) (x : Int32) : f_M_isVehicle (nI s) x = some (kn01 s x) := M_kn hs x
theorem M_pe {s : Nat} (hs : s < 1000000) (x : Int32) : f_M_isPerson (nI s) x = some (kn01 s x) := M_kn hs x
theorem P_add {p : Nat} (hp : p < 60) (h d : Nat → Nat) (a b : Nat) : f_P_add 60 60 (nI p) (nF h) (nF d) (nI a) (nI b) = some (nI p, nI (p + 1), nF (fup h p a), nF (fup d p b)) := by
  unfold f_P_add
  simp (disch := omega) only [zb, sr_nm_eq, z_1, nI_add, zc, up_nF]
theorem ag_person {n s p : Nat} {h d : Nat → Nat} (hn : 6 ≤ n) (hs : s ≤ 12) (hp : p ≤ 60) (O : Nat → Int64) (th x y : Int32) :
    (∃ k : Int32, f_L_person 60 60 1 (nI s) (nI p) (nF h) (nF d) O x y = some (k, nI p, nF h, nF d, O) ∧ f_M_person n 60 60 th (nI s) (nI p) (nF h) (nF d) x y = some (0, k, nI p, nF h, nF d) ∧ ¬ k = 0) ∨
    ∃ a b, a < s ∧ b ≤ 120 ∧ p < 60 ∧ f_L_person 60 60 1 (nI s) (nI p) (nF h) (nF d) O x y = some (0, nI (p + 1), nF (fup h p a), nF (fup d p b), vp_updL O 0 (nI p).toInt64) ∧ f_M_person n 60 60 th (nI s) (nI p) (nF h) (nF d) x y = some (nI p, 0, nI (p + 1), nF (fup h p a), nF (fup d p b)) := by
  unfold f_L_person f_S_person f_M_person
  simp only [S_rg, M_rg, S_kn, M_st (show s < 1000000 by omega), zd, f_St_count, f_P_count, M_goes11 hn]
  rcases kn_cases s (by omega) x with ⟨h0, -⟩ | ⟨a, ha, rfl, h0⟩
  · refine Or.inl ⟨1, ?_, ?_, by decide⟩
    · simp [h0, zd]
    · by_cases h2 : (60 : Int32) ≤ nI p <;> simp [h0, h2, zd]
  · rcases rg01_01 y 0 120 with h1 | h1
    · refine Or.inl ⟨2, ?_, ?_, by decide⟩
      · simp [h0, h1, zd]
      · by_cases h2 : (60 : Int32) ≤ nI p <;> simp [h0, h1, h2, zd]
    · by_cases h2 : p < 60
      · refine Or.inr ?_
        obtain ⟨b, hb, rfl⟩ := rg_of (b := 120) (by omega) rfl h1
        have h3 : ¬ (60 : Int32) ≤ nI p := fun q => (le_c (C := 60) rfl hp (by omega)).mp q h2
        refine ⟨a, b, ha, hb, h2, ?_, ?_⟩
        · simp [h0, h1, h3, zd, f_S_requireRoom, P_add h2]
          rfl
        · simp [h0, h1, h3, zd]
          simp (disch := omega) only [zb, sr_nm_eq, z_1, nI_add, zc, up_nF, zs]
          rfl
      · have h3 : (60 : Int32) ≤ nI p := (le_c (C := 60) rfl hp (by omega)).mpr h2
        refine Or.inl ⟨3, ?_, ?_, by decide⟩
        · simp [h0, h1, h3, zd, f_S_requireRoom]
        · simp [h0, h1, h3, zd]
theorem ag_need {n s : Nat} {nd : Nat → Nat} (hn : 6 ≤ n) (hs : s ≤ 12) (hd : ∀ i, nd i ≤ 60) (th x y z : Int32) :
    ∃ (k : Int32) (nd' : Nat → Nat), f_L_need 288 (nI s) (nF nd) x y z = some (k, nF nd') ∧ f_M_need n 288 th (nI s) (nF nd) x y z = some (k, nF nd') ∧ ∀ i, nd' i ≤ 60 := by
  unfold f_L_need f_S_need f_M_need
  simp only [S_rg, M_rg, S_kn, M_st (show s < 1000000 by omega), zd, f_St_count, M_goes3 hn]
  rcases kn_cases s (by omega) x with ⟨h0, -⟩ | ⟨a, ha, rfl, h0⟩
  · refine ⟨1, nd, ?_, ?_, hd⟩
    · simp [h0, zd]
    · by_cases h2 : rg01 y 0 23 = 0 <;> by_cases h3 : rg01 z 0 60 = 0 <;> simp [h0, h2, h3, zd]
  · rcases rg01_01 y 0 23 with h1 | h1
    · exact ⟨2, nd, by simp [h0, h1, zd], by simp [h0, h1, zd], hd⟩
    · rcases rg01_01 z 0 60 with h2 | h2
      · exact ⟨2, nd, by simp [h0, h1, h2, zd], by simp [h0, h1, h2, zd], hd⟩
      · obtain ⟨b, hb, rfl⟩ := rg_of (b := 23) (by omega) rfl h1
        obtain ⟨c, hc, rfl⟩ := rg_of (b := 60) (by omega) rfl h2
        have hnd := hd (a * 24 + b)
        have hnd2 := hd (24 * a + b)
        have e1 : f_Ne_raise 288 (nF nd) (nI a) (nI b) (nI c) = some (nF (fup nd (a * 24 + b) (if nd (a * 24 + b) < c then c else nd (a * 24 + b)))) := by
          unfold f_Ne_raise
          simp (disch := omega) only [sr_nm_eq, z_24, pk_mul, nI_add, zb, zc, nF_at, zi_lt]
          rw [← up_nF]
          by_cases q : nd (a * 24 + b) < c <;> simp [q]
        refine ⟨0, _, by simp [h0, h1, h2, zd, e1]; rfl, ?_, ?_⟩
        · simp [h0, h1, h2, zd]
          simp (disch := omega) only [z_24, pk_mul, nI_add, zb, zc, nF_at, zi_le, up_nF]
          rw [Nat.mul_comm 24 a]
          by_cases q : nd (a * 24 + b) < c
          · rw [if_neg (by omega), if_pos q]
          · rw [if_pos (by omega), if_neg q]
            congr 2
            funext j
            unfold fup nF
            by_cases hj : j = a * 24 + b <;> simp [hj]
        · intro i
          unfold fup
          by_cases hj : i = a * 24 + b
          · rw [if_pos hj]
            by_cases q : nd (a * 24 + b) < c <;> simp [q] <;> omega
          · rw [if_neg hj]; exact hd i
theorem ag_period {n s : Nat} {pr : Nat → Nat} (hn : 6 ≤ n) (hs : s ≤ 12) (hd : ∀ i, pr i ≤ 9999) (th x y z : Int32) :
    ∃ (k : Int32) (pr' : Nat → Nat), f_L_period 60 (nI s) (nF pr) x y z = some (k, nF pr') ∧ f_M_period n 60 th (nI s) (nF pr) x y z = some (k, nF pr') ∧ ∀ i, pr' i ≤ 9999 := by
  unfold f_L_period f_S_period f_M_period
  have e5 : f_S_requireKnown y 5 = some (if kn01 5 y = 1 then 0 else 1) := S_kn 5 y
  have e4 : rg01 y 0 4 = kn01 5 y := rg_kn (b := 4) (by omega) rfl
  simp only [S_rg, M_rg, S_kn, e5, e4, M_st (show s < 1000000 by omega), zd, f_St_count, M_goes3 hn]
  rcases kn_cases s (by omega) x with ⟨h0, -⟩ | ⟨a, ha, rfl, h0⟩
  · exact ⟨1, pr, by simp [h0, zd], by simp [h0, zd], hd⟩
  · rcases kn_cases 5 (by omega) y with ⟨h1, -⟩ | ⟨b, hb, rfl, h1⟩
    · exact ⟨1, pr, by simp [h0, h1, zd], by simp [h0, h1, zd], hd⟩
    · rcases rg01_01 z 0 9999 with h2 | h2
      · exact ⟨2, pr, by simp [h0, h1, h2, zd], by simp [h0, h1, h2, zd], hd⟩
      · obtain ⟨c, hc, rfl⟩ := rg_of (b := 9999) (by omega) rfl h2
        have e1 : f_Ch_changePeriod 60 (nF pr) (nI a) (nI b) (nI c) = some (nF (fup pr (a * 5 + b) c)) := by
          unfold f_Ch_changePeriod f_Ch_placeOf
          simp (disch := omega) only [zd, z_5, pk_mul, nI_add, zb, zc, up_nF]
        refine ⟨0, fup pr (a * 5 + b) c, by simp [h0, h1, h2, zd, e1], ?_, ?_⟩
        · simp [h0, h1, h2, zd]
          simp (disch := omega) only [z_5, pk_mul, nI_add, zb, zc, up_nF]
          rw [Nat.mul_comm 5 a]
        · intro i
          unfold fup
          by_cases hj : i = a * 5 + b
          · rw [if_pos hj]; exact hc
          · rw [if_neg hj]; exact hd i
theorem ag_check {n s c : Nat} {dP dM : Nat → Nat} (hn : 6 ≤ n) (hs : s ≤ 12) (hc : c ≤ 200) (th x y z : Int32) :
    (∃ k : Int32, f_L_check 200 200 (nI s) (nI c) (nF dP) (nF dM) x y z = some (k, nI c, nF dP, nF dM) ∧ f_M_check n 200 200 th (nI s) (nI c) (nF dM) (nF dP) x y z = some (k, nI c, nF dM, nF dP)) ∨
    ∃ a b m, a < s ∧ b < 5 ∧ m < 100000 ∧ c < 200 ∧ f_L_check 200 200 (nI s) (nI c) (nF dP) (nF dM) x y z = some (0, nI (c + 1), nF (fup dP c (a * 5 + b)), nF (fup dM c m)) ∧ f_M_check n 200 200 th (nI s) (nI c) (nF dM) (nF dP) x y z = some (0, nI (c + 1), nF (fup dM c m), nF (fup dP c (a * 5 + b))) := by
  unfold f_L_check f_S_check f_M_check
  have e5 : f_S_requireKnown y 5 = some (if kn01 5 y = 1 then 0 else 1) := S_kn 5 y
  have e4 : rg01 y 0 4 = kn01 5 y := rg_kn (b := 4) (by omega) rfl
  simp only [S_minute, M_minute, M_rg, S_kn, e5, e4, M_st (show s < 1000000 by omega), zd, f_St_count, f_Ch_doneCount, M_goes11 hn]
  rcases kn_cases s (by omega) x with ⟨h0, -⟩ | ⟨a, ha, rfl, h0⟩
  · refine Or.inl ⟨1, by simp [h0, zd], ?_⟩
    by_cases h3 : (200 : Int32) ≤ nI c <;> simp [h0, h3, zd]
  · rcases kn_cases 5 (by omega) y with ⟨h1, -⟩ | ⟨b, hb, rfl, h1⟩
    · refine Or.inl ⟨1, by simp [h0, h1, zd], ?_⟩
      by_cases h3 : (200 : Int32) ≤ nI c <;> simp [h0, h1, h3, zd]
    · rcases rg01_01 z 0 99999 with h2 | h2
      · refine Or.inl ⟨2, by simp [h0, h1, h2, zd], ?_⟩
        by_cases h3 : (200 : Int32) ≤ nI c <;> simp [h0, h1, h2, h3, zd]
      · by_cases h4 : c < 200
        · refine Or.inr ?_
          obtain ⟨m, hm, rfl⟩ := rg_of (b := 99999) (by omega) rfl h2
          have h3 : ¬ (200 : Int32) ≤ nI c := fun q => (le_c (C := 200) rfl hc (by omega)).mp q h4
          have e1 : f_Ch_addDone 200 200 (nI c) (nF dP) (nF dM) (nI a) (nI b) (nI m) = some (nI (c + 1), nF (fup dP c (a * 5 + b)), nF (fup dM c m)) := by
            unfold f_Ch_addDone f_Ch_placeOf
            simp (disch := omega) only [zd, z_5, z_1, pk_mul, nI_add, zb, zc, up_nF, sr_nm_eq]
          refine ⟨a, b, m, ha, hb, by omega, h4, ?_, ?_⟩
          · simp [h0, h1, h2, h3, zd, e1, f_S_requireRoom]
          · simp [h0, h1, h2, h3, zd]
            simp (disch := omega) only [z_5, z_1, pk_mul, nI_add, zb, zc, up_nF, sr_nm_eq]
            rw [Nat.mul_comm 5 a]
        · have h3 : (200 : Int32) ≤ nI c := (le_c (C := 200) rfl hc (by omega)).mpr h4
          exact Or.inl ⟨3, by simp [h0, h1, h2, h3, zd, f_S_requireRoom], by simp [h0, h1, h2, h3, zd]⟩
