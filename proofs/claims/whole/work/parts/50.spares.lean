
/-! spares -/
def outB (w : Wd) (t v : Nat) : Bool := (fi (fun j => tin w.ou w.ot t (v * 4 + j)) 0 (w.oc v)).isSome
theorem V_isOut {n : Nat} {w : Wd} (hn : 100 ≤ n) (ok : Ok w) {v t : Nat} (hv : v < 30) (ht : t < 100000) : f_V_isOut n 30 120 120 (nI 4) (nF w.oc) (nF w.ou) (nF w.ot) (nI v) (nI t) = some (b01 (outB w t v)) := by
  have h3 := ok.oc v
  unfold f_V_isOut outB
  rw [T_indexAt (by omega) hv (by omega) (by omega) (by omega) (by omega) (by omega) (by omega) (lt6 ok.ou) (lt6 ok.ot), zd]
  cases hq : fi (fun j => tin w.ou w.ot t (v * 4 + j)) 0 (w.oc v) with
  | none => simp [fiZ, b01]
  | some j =>
    have := (fi_lt hq).2.1
    rw [if_neg (show ¬ fiZ (some j) = -1 from zi_m1 (show j < 2147483648 by omega))]
    rfl
theorem M_out4 {n : Nat} {w : Wd} (ok : Ok w) {v t : Nat} (hv : v < 30) (ht : t < 100000) : ∀ (k q i : Nat), i + k = w.oc v → k < q → f_M_isOut_4 n 30 120 120 (nF w.oc) (nF w.ou) (nF w.ot) (nI v) (nI t) q (nI (v * 4 + i)) = some (b01 (fi (fun j => tin w.ou w.ot t (v * 4 + j)) i k).isSome) := by
  intro k
  induction k with
  | zero =>
    intro q i hi hq
    obtain ⟨q, rfl⟩ : ∃ r, q = r + 1 := ⟨q - 1, by omega⟩
    have h3 := ok.oc v
    rw [f_M_isOut_4_eq]
    simp (disch := omega) only [z_4, zb, zc, nF_at, pk_mul, nI_add, zi_le]
    rw [if_pos (by omega)]
    rfl
  | succ k ih =>
    intro q i hi hq
    obtain ⟨q, rfl⟩ : ∃ r, q = r + 1 := ⟨q - 1, by omega⟩
    have h3 := ok.oc v
    have h4 := ok.ou (v * 4 + i)
    have h5 := ok.ot (v * 4 + i)
    rw [f_M_isOut_4_eq]
    simp (disch := omega) only [z_4, zb, zc, nF_at, pk_mul, nI_add, zi_le, zi_lt, sr_nm_eq, z_1]
    rw [if_neg (by omega), show v * 4 + i + 1 = v * 4 + (i + 1) from rfl, ih q (i + 1) (by omega) (by omega), fi_s]
    by_cases a1 : t < w.ou (v * 4 + i)
    · rw [if_pos a1, if_neg (show ¬ tin w.ou w.ot t (v * 4 + i) = true by unfold tin; simp; omega)]
    · rw [if_neg a1]
      by_cases a2 : w.ot (v * 4 + i) ≤ t
      · rw [if_pos a2, if_neg (show ¬ tin w.ou w.ot t (v * 4 + i) = true by unfold tin; simp; omega)]
      · rw [if_neg a2, if_pos (show tin w.ou w.ot t (v * 4 + i) = true by unfold tin; simp; omega)]
        rfl
theorem M_isOut {n : Nat} {w : Wd} (hn : 100 ≤ n) (ok : Ok w) {v t : Nat} (hv : v < 30) (ht : t < 100000) : f_M_isOut n 30 120 120 (nF w.oc) (nF w.ou) (nF w.ot) (nI v) (nI t) = some (b01 (outB w t v)) := by
  have h3 := ok.oc v
  unfold f_M_isOut
  rw [sr_nm_eq, z_4, pk_mul, Nat.mul_comm 4 v]
  exact M_out4 ok hv ht (w.oc v) n 0 (by omega) (by omega)
def oup (f : Nat → Option Nat) (a : Nat) (x : Option Nat) : Nat → Option Nat := fun j => if j = a then x else f j
/-- o is a free spare of the kind -/
def frB (w : Wd) (t : Nat) (SF : Nat → Option Nat) (kd o : Nat) : Bool := decide (w.cr o = 0) && (decide (w.kd o = kd) && ((SF o).isNone && (tin w.fr w.to t (w.hm o) && ! outB w t o)))
def spr (w : Wd) (t : Nat) : (Nat → Option Nat) → (Nat → Option Nat) → Nat → Nat → (Nat → Option Nat) × (Nat → Option Nat)
  | SF, SI, _, 0 => (SF, SI)
  | SF, SI, i, k + 1 => if w.cr i = 0 then spr w t SF SI (i + 1) k else if outB w t i = true then (match fi (frB w t SF (w.kd i)) 0 w.v with | none => spr w t SF SI (i + 1) k | some o => spr w t (oup SF o (some i)) (oup SI i (some o)) (i + 1) k) else spr w t SF SI (i + 1) k
theorem spr_s (w : Wd) (t : Nat) (SF SI : Nat → Option Nat) (i k : Nat) : spr w t SF SI i (k + 1) = if w.cr i = 0 then spr w t SF SI (i + 1) k else if outB w t i = true then (match fi (frB w t SF (w.kd i)) 0 w.v with | none => spr w t SF SI (i + 1) k | some o => spr w t (oup SF o (some i)) (oup SI i (some o)) (i + 1) k) else spr w t SF SI (i + 1) k := rfl
/-- what is known of spares while the vehicles from i on are to come -/
def Gsp (w : Wd) (SF SI : Nat → Option Nat) (i : Nat) : Prop := (∀ j a, SF j = some a → a < w.v ∧ 0 < w.cr a ∧ w.cr j = 0) ∧ (∀ j o, SI j = some o → o < w.v) ∧ ∀ j, i ≤ j → SI j = none
theorem Gsp_skip {w : Wd} {SF SI : Nat → Option Nat} {i : Nat} (h : Gsp w SF SI i) : Gsp w SF SI (i + 1) := ⟨h.1, h.2.1, fun j hj => h.2.2 j (by omega)⟩
theorem Gsp_up {w : Wd} {t : Nat} {SF SI : Nat → Option Nat} {i o : Nat} (h : Gsp w SF SI i) (hi : i < w.v) (hc : ¬ w.cr i = 0) (e : fi (frB w t SF (w.kd i)) 0 w.v = some o) : Gsp w (oup SF o (some i)) (oup SI i (some o)) (i + 1) := by
  obtain ⟨-, h2, h3⟩ := fi_lt e
  unfold frB at h3
  simp at h3
  refine ⟨fun j a ha => ?_, fun j b hb => ?_, fun j hj => ?_⟩
  · unfold oup at ha
    by_cases q : j = o
    · rw [if_pos q] at ha
      cases ha
      rw [q]
      exact ⟨hi, by omega, h3.1⟩
    · rw [if_neg q] at ha
      exact h.1 j a ha
  · unfold oup at hb
    by_cases q : j = i
    · rw [if_pos q] at hb
      cases hb
      omega
    · rw [if_neg q] at hb
      exact h.2.1 j b hb
  · unfold oup
    rw [if_neg (by omega)]
    exact h.2.2 j (by omega)
theorem rl_up {N o : Nat} {F : Nat → Int32} {SF : Nat → Option Nat} (h : ∀ j, j < N → F j = fiZ (SF j)) (x : Nat) : ∀ j, j < N → upd F o (nI x) j = fiZ (oup SF o (some x) j) := by
  intro j hj
  unfold upd oup
  by_cases q : j = o
  · rw [if_pos q, if_pos q]
    rfl
  · rw [if_neg q, if_neg q]
    exact h j hj
theorem zm1 : (-nI 1 : Int32) = -1 := Eq.trans rfl rfl
theorem V_isSpare {w : Wd} (ok : Ok w) {v : Nat} (hv : v < 30) : f_V_isSpare 30 (nF w.cr) (nI v) = some (b01 (decide (w.cr v = 0))) := by
  have h := ok.cr v
  unfold f_V_isSpare
  simp (disch := omega) only [zb, zc, nF_at, z_0, zi_eq]
  by_cases q : w.cr v = 0
  · rw [if_pos q]; simp [q, b01]
  · rw [if_neg q]; simp [q, b01]; rfl
theorem V_low3 {n : Nat} {w : Wd} (hn : 100 ≤ n) (ok : Ok w) {t kd m : Nat} {SF SI : Nat → Option Nat} {F : Nat → Int32} (ht : t < 100000) (hk : kd ≤ 9) (hG : Gsp w SF SI m) (hF : ∀ j, j < w.v → F j = fiZ (SF j)) : ∀ (k q i : Nat), i + k = w.v → k < q → f_V_lowestFreeSpare_3 n 30 30 30 30 120 120 30 12 12 (nI w.v) (nF w.hm) (nF w.kd) (nF w.cr) (nI 4) (nF w.oc) (nF w.ou) (nF w.ot) F (nF w.fr) (nF w.to) (nI kd) (nI t) q (nI i) = some (fiZ (fi (frB w t SF kd) i k)) := by
  intro k
  induction k with
  | zero =>
    intro q i hi hq
    obtain ⟨q, rfl⟩ : ∃ r, q = r + 1 := ⟨q - 1, by omega⟩
    have hv := ok.v
    rw [f_V_lowestFreeSpare_3_eq, if_pos (nI_le (by omega) (by omega))]
    rfl
  | succ k ih =>
    intro q i hi hq
    obtain ⟨q, rfl⟩ : ∃ r, q = r + 1 := ⟨q - 1, by omega⟩
    have hv := ok.v
    have h1 := ok.kd i
    have hFi := hF i (by omega)
    rw [f_V_lowestFreeSpare_3_eq, V_isSpare ok (show i < 30 by omega), zd, zi_le _ _ (by omega) (by omega), if_neg (by omega)]
    simp (disch := omega) only [zb, zc, nF_at, zi_eq, sr_nm_eq, z_1, nI_add]
    rw [zm1, hFi, St_there (ok.hm i) (by omega) ok.fr ok.to, zd, V_isOut hn ok (show i < 30 by omega) ht, zd, ih q (i + 1) (by omega) (by omega), fi_s]
    have e : frB w t SF kd i = (decide (w.cr i = 0) && (decide (w.kd i = kd) && ((SF i).isNone && (tin w.fr w.to t (w.hm i) && ! outB w t i)))) := rfl
    rw [e]
    by_cases c1 : w.cr i = 0
    · by_cases c2 : w.kd i = kd
      · cases c3 : SF i with
        | none => cases c4 : tin w.fr w.to t (w.hm i) <;> cases c5 : outB w t i <;> simp [c1, c2, b01, fiZ]
        | some a =>
          have := (hG.1 i a c3).1
          simp [c1, c2, b01]
          intro q2
          exact absurd q2 (zi_m1 (show a < 2147483648 by omega))
      · simp [c1, c2, b01]
    · simp [c1, b01]
theorem V_asg18 {n : Nat} {w : Wd} (hn : 100 ≤ n) (ok : Ok w) {t : Nat} (ht : t < 100000) : ∀ (k q i : Nat) (SF SI : Nat → Option Nat) (F G : Nat → Int32), i + k = w.v → k < q → Gsp w SF SI i → (∀ j, j < w.v → F j = fiZ (SF j)) → (∀ j, j < w.v → G j = fiZ (SI j)) →
    ∃ F' G' : Nat → Int32, f_V_assignSpares_18 n 30 30 30 30 120 120 30 30 12 12 (nI w.v) (nF w.hm) (nF w.kd) (nF w.cr) (nI 4) (nF w.oc) (nF w.ou) (nF w.ot) (nF w.fr) (nF w.to) (nI t) q (nI i) F G = some (F', G') ∧ (∀ j, j < w.v → F' j = fiZ ((spr w t SF SI i k).1 j)) ∧ (∀ j, j < w.v → G' j = fiZ ((spr w t SF SI i k).2 j)) ∧ Gsp w (spr w t SF SI i k).1 (spr w t SF SI i k).2 w.v := by
  intro k
  induction k with
  | zero =>
    intro q i SF SI F G hi hq hG hF hH
    obtain ⟨q, rfl⟩ : ∃ r, q = r + 1 := ⟨q - 1, by omega⟩
    have hv := ok.v
    refine ⟨F, G, ?_, hF, hH, ?_⟩
    · rw [f_V_assignSpares_18_eq, if_pos (nI_le (by omega) (by omega))]
    · rw [show w.v = i by omega]; exact hG
  | succ k ih =>
    intro q i SF SI F G hi hq hG hF hH
    obtain ⟨q, rfl⟩ : ∃ r, q = r + 1 := ⟨q - 1, by omega⟩
    have hv := ok.v
    have h1 := ok.kd i
    have e1 : f_V_lowestFreeSpare n 30 30 30 30 120 120 30 12 12 (nI w.v) (nF w.hm) (nF w.kd) (nF w.cr) (nI 4) (nF w.oc) (nF w.ou) (nF w.ot) F (nF w.fr) (nF w.to) (nI (w.kd i)) (nI t) = some (fiZ (fi (frB w t SF (w.kd i)) 0 w.v)) := V_low3 hn ok ht h1 hG hF w.v n 0 (by omega) (by omega)
    rw [f_V_assignSpares_18_eq, V_isSpare ok (show i < 30 by omega), zd, zi_le _ _ (by omega) (by omega), if_neg (by omega), V_isOut hn ok (show i < 30 by omega) ht, zd]
    simp (disch := omega) only [zb, zc, nF_at, sr_nm_eq, z_1, nI_add]
    rw [zm1, e1, zd, spr_s]
    by_cases c1 : w.cr i = 0
    · rw [if_pos c1]
      simp [c1, b01]
      exact ih q (i + 1) SF SI F G (by omega) (by omega) (Gsp_skip hG) hF hH
    · rw [if_neg c1]
      cases c2 : outB w t i with
      | false =>
        simp [c1, b01]
        exact ih q (i + 1) SF SI F G (by omega) (by omega) (Gsp_skip hG) hF hH
      | true =>
        cases c3 : fi (frB w t SF (w.kd i)) 0 w.v with
        | none =>
          simp [c1, b01, fiZ]
          exact ih q (i + 1) SF SI F G (by omega) (by omega) (Gsp_skip hG) hF hH
        | some o =>
          have h2 := (fi_lt c3).2.1
          rw [if_neg (show ¬ fiZ (some o) = -1 from zi_m1 (show o < 2147483648 by omega)), show fiZ (some o) = nI o from rfl, zb _ (show o < 30 by omega) (by omega), zc (show o < 2147483648 by omega)]
          simp [c1, b01]
          exact ih q (i + 1) (oup SF o (some i)) (oup SI i (some o)) (upd F o (nI i)) (upd G i (nI o)) (by omega) (by omega) (Gsp_up hG (by omega) c1 c3) (rl_up hF i) (rl_up hH o)
/-- the spares of the minute -/
def spF (w : Wd) (t : Nat) : Nat → Option Nat := (spr w t (fun _ => none) (fun _ => none) 0 w.v).1
def spI (w : Wd) (t : Nat) : Nat → Option Nat := (spr w t (fun _ => none) (fun _ => none) 0 w.v).2
theorem V_asg {n : Nat} {w : Wd} (hn : 100 ≤ n) (ok : Ok w) {t : Nat} (ht : t < 100000) (F G : Nat → Int32) :
    ∃ F' G' : Nat → Int32, f_V_assignSpares n 30 30 30 30 120 120 30 30 12 12 (nI w.v) (nF w.hm) (nF w.kd) (nF w.cr) (nI 4) (nF w.oc) (nF w.ou) (nF w.ot) F G (nF w.fr) (nF w.to) (nI t) = some (F', G') ∧ (∀ j, j < w.v → F' j = fiZ (spF w t j)) ∧ (∀ j, j < w.v → G' j = fiZ (spI w t j)) ∧ Gsp w (spF w t) (spI w t) w.v := by
  have hv := ok.v
  obtain ⟨F1, e1, h1⟩ := J_fill (n := n) (N := 30) (by omega) (by omega) (-1) F
  obtain ⟨G1, e2, h2⟩ := J_fill (n := n) (N := 30) (by omega) (by omega) (-1) G
  obtain ⟨F', G', e, h3, h4, h5⟩ := V_asg18 (n := n) hn ok ht w.v n 0 (fun _ => none) (fun _ => none) F1 G1 (by omega) (by omega) ⟨fun j a h => by (cases h), fun j a h => by (cases h), fun _ _ => rfl⟩ (fun j hj => h1 j (by omega)) (fun j hj => h2 j (by omega))
  refine ⟨F', G', ?_, h3, h4, h5⟩
  unfold f_V_assignSpares
  rw [e1, zd, e2, zd]
  exact e
theorem M_sp63 {n : Nat} {w : Wd} (hn : 100 ≤ n) (ok : Ok w) {t v m : Nat} {SF SI : Nat → Option Nat} {F G : Nat → Int32} (ht : t < 100000) (hvv : v < w.v) (hG : Gsp w SF SI m) (hF : ∀ j, j < w.v → F j = fiZ (SF j)) (hH : ∀ j, j < w.v → G j = fiZ (SI j)) (hn1 : SI v = none) (K : Int32 → (Nat → Int32) → (Nat → Int32) → Option ((Nat → Int32) × (Nat → Int32))) : ∀ (k q i : Nat), i + k = w.v → k + 1 < q → f_M_spares_63 n 12 12 30 30 30 30 120 120 30 30 (nI w.v) (nF w.fr) (nF w.to) (nF w.hm) (nF w.kd) (nF w.cr) (nF w.oc) (nF w.ou) (nF w.ot) (nI t) K q (nI v) (nI i) F G = match fi (frB w t SF (w.kd v)) i k with | none => K (nI (v + 1)) F G | some o => K (nI (v + 1)) (upd F o (nI v)) (upd G v (nI o)) := by
  intro k
  induction k with
  | zero =>
    intro q i hi hq
    obtain ⟨q, rfl⟩ : ∃ r, q = r + 1 := ⟨q - 1, by omega⟩
    have hv := ok.v
    rw [f_M_spares_63_eq, if_pos (nI_le (by omega) (by omega)), sr_nm_eq, z_1, nI_add]
    rfl
  | succ k ih =>
    intro q i hi hq
    obtain ⟨q, rfl⟩ : ∃ r, q = r + 1 := ⟨q - 1, by omega⟩
    have hv := ok.v
    have h1 := ok.kd i
    have h2 := ok.kd v
    have h3 := ok.cr i
    have hFi := hF i (by omega)
    have hGv : G v = -1 := by rw [hH v hvv, hn1]; rfl
    have e2 : ∀ F2 G2 : Nat → Int32, ¬ G2 v < 0 → f_M_spares_63 n 12 12 30 30 30 30 120 120 30 30 (nI w.v) (nF w.fr) (nF w.to) (nF w.hm) (nF w.kd) (nF w.cr) (nF w.oc) (nF w.ou) (nF w.ot) (nI t) K q (nI v) (nI (i + 1)) F2 G2 = K (nI (v + 1)) F2 G2 := by
      intro F2 G2 hg
      obtain ⟨q, rfl⟩ : ∃ r, q = r + 1 := ⟨q - 1, by omega⟩
      rw [f_M_spares_63_eq]
      simp (disch := omega) only [zb, zc, sr_nm_eq, z_1, nI_add]
      rw [if_pos (show (0 : Int32) ≤ G2 v from Int32.not_lt.mp hg)]
      split <;> rfl
    rw [f_M_spares_63_eq, zi_le _ _ (by omega) (by omega), if_neg (by omega)]
    simp (disch := omega) only [zb, zc, nF_at, zi_eq, sr_nm_eq, z_1, nI_add]
    rw [hGv, if_neg (show ¬ (0 : Int32) ≤ -1 by decide), hFi, M_there (ok.hm i) (by omega) ok.fr ok.to, zd, M_isOut hn ok (show i < 30 by omega) ht, zd, ih q (i + 1) (by omega) (by omega), e2 (upd F i (nI v)) (upd G v (nI i)) (by rw [show upd G v (nI i) v = nI i from if_pos rfl]; exact nI_pos (by omega)), fi_s, z_0, zi_lt _ _ (by omega) (by omega)]
    have e : frB w t SF (w.kd v) i = (decide (w.cr i = 0) && (decide (w.kd i = w.kd v) && ((SF i).isNone && (tin w.fr w.to t (w.hm i) && ! outB w t i)))) := rfl
    rw [e]
    by_cases c1 : w.cr i = 0
    · by_cases c2 : w.kd i = w.kd v
      · cases c3 : SF i with
        | none => cases c4 : tin w.fr w.to t (w.hm i) <;> cases c5 : outB w t i <;> simp [c1, c2, b01, fiZ, ← z_0]
        | some a =>
          have := (hG.1 i a c3).1
          have hq2 : ¬ fiZ (some a) < 0 := nI_pos (show a < 2147483648 by omega)
          cases c4 : tin w.fr w.to t (w.hm i) <;> cases c5 : outB w t i <;> simp [c1, c2, b01, ← z_0, hq2]
      · simp [c1, c2, b01]
    · simp [c1, b01, show 0 < w.cr i by omega]
theorem M_sp32 {n : Nat} {w : Wd} (hn : 100 ≤ n) (ok : Ok w) {t : Nat} (ht : t < 100000) : ∀ (k q i : Nat) (SF SI : Nat → Option Nat) (F G : Nat → Int32), i + k = w.v → k < q → Gsp w SF SI i → (∀ j, j < w.v → F j = fiZ (SF j)) → (∀ j, j < w.v → G j = fiZ (SI j)) →
    ∃ F' G' : Nat → Int32, f_M_spares_32 n 12 12 30 30 30 30 120 120 30 30 (nI w.v) (nF w.fr) (nF w.to) (nF w.hm) (nF w.kd) (nF w.cr) (nF w.oc) (nF w.ou) (nF w.ot) (nI t) q (nI i) F G = some (F', G') ∧ (∀ j, j < w.v → F' j = fiZ ((spr w t SF SI i k).1 j)) ∧ (∀ j, j < w.v → G' j = fiZ ((spr w t SF SI i k).2 j)) := by
  intro k
  induction k with
  | zero =>
    intro q i SF SI F G hi hq hG hF hH
    obtain ⟨q, rfl⟩ : ∃ r, q = r + 1 := ⟨q - 1, by omega⟩
    have hv := ok.v
    refine ⟨F, G, ?_, hF, hH⟩
    rw [f_M_spares_32_eq, if_pos (nI_le (by omega) (by omega))]
  | succ k ih =>
    intro q i SF SI F G hi hq hG hF hH
    obtain ⟨q, rfl⟩ : ∃ r, q = r + 1 := ⟨q - 1, by omega⟩
    have hv := ok.v
    have h1 := ok.cr i
    rw [f_M_spares_32_eq, zi_le _ _ (by omega) (by omega), if_neg (by omega), M_isOut hn ok (show i < 30 by omega) ht, zd, z_0, M_sp63 hn ok ht (show i < w.v by omega) hG hF hH (hG.2.2 i (Nat.le_refl _)) _ w.v n 0 (by omega) (by omega)]
    simp (disch := omega) only [zb, zc, nF_at, zi_eq, sr_nm_eq, z_1, nI_add]
    rw [spr_s]
    by_cases c1 : w.cr i = 0
    · rw [if_pos c1, if_pos c1]
      exact ih q (i + 1) SF SI F G (by omega) (by omega) (Gsp_skip hG) hF hH
    · rw [if_neg c1, if_neg c1]
      cases c2 : outB w t i with
      | false =>
        rw [if_pos (show b01 false = nI 0 from rfl), if_neg (show ¬ false = true by decide)]
        exact ih q (i + 1) SF SI F G (by omega) (by omega) (Gsp_skip hG) hF hH
      | true =>
        rw [if_neg (show ¬ b01 true = nI 0 by decide), if_pos rfl]
        cases c3 : fi (frB w t SF (w.kd i)) 0 w.v with
        | none => exact ih q (i + 1) SF SI F G (by omega) (by omega) (Gsp_skip hG) hF hH
        | some o => exact ih q (i + 1) (oup SF o (some i)) (oup SI i (some o)) (upd F o (nI i)) (upd G i (nI o)) (by omega) (by omega) (Gsp_up hG (by omega) c1 c3) (rl_up hF i) (rl_up hH o)
theorem M_sp2 {n : Nat} {w : Wd} (hn : 100 ≤ n) (ok : Ok w) {t : Nat} (ht : t < 100000) : ∀ (k q i : Nat) (F G : Nat → Int32), i + k = w.v → k < q → (∀ j, j < i → F j = -1) → (∀ j, j < i → G j = -1) →
    ∃ F' G' : Nat → Int32, f_M_spares_2 n 12 12 30 30 30 30 120 120 30 30 (nI w.v) (nF w.fr) (nF w.to) (nF w.hm) (nF w.kd) (nF w.cr) (nF w.oc) (nF w.ou) (nF w.ot) (nI t) q (nI i) F G = some (F', G') ∧ (∀ j, j < w.v → F' j = fiZ (spF w t j)) ∧ (∀ j, j < w.v → G' j = fiZ (spI w t j)) := by
  intro k
  induction k with
  | zero =>
    intro q i F G hi hq hF hH
    obtain ⟨q, rfl⟩ : ∃ r, q = r + 1 := ⟨q - 1, by omega⟩
    have hv := ok.v
    rw [f_M_spares_2_eq, if_pos (nI_le (by omega) (by omega))]
    exact M_sp32 (n := n) hn ok ht w.v n 0 (fun _ => none) (fun _ => none) F G (by omega) (by omega) ⟨fun j a h => by (cases h), fun j a h => by (cases h), fun _ _ => rfl⟩ (fun j hj => hF j (by omega)) (fun j hj => hH j (by omega))
  | succ k ih =>
    intro q i F G hi hq hF hH
    obtain ⟨q, rfl⟩ : ∃ r, q = r + 1 := ⟨q - 1, by omega⟩
    have hv := ok.v
    rw [f_M_spares_2_eq, zi_le _ _ (by omega) (by omega), if_neg (by omega)]
    simp (disch := omega) only [zb, zc, sr_nm_eq, z_1, nI_add]
    refine ih q (i + 1) (upd F i (-nI 1)) (upd G i (-nI 1)) (by omega) (by omega) (fun j hj => ?_) (fun j hj => ?_)
    · unfold upd
      by_cases e : j = i
      · rw [if_pos e]; rfl
      · rw [if_neg e]; exact hF j (by omega)
    · unfold upd
      by_cases e : j = i
      · rw [if_pos e]; rfl
      · rw [if_neg e]; exact hH j (by omega)
theorem M_sp {n : Nat} {w : Wd} (hn : 100 ≤ n) (ok : Ok w) {t : Nat} (ht : t < 100000) (F G : Nat → Int32) :
    ∃ F' G' : Nat → Int32, f_M_spares n 12 12 30 30 30 30 120 120 30 30 (nI w.v) (nF w.fr) (nF w.to) (nF w.hm) (nF w.kd) (nF w.cr) (nF w.oc) (nF w.ou) (nF w.ot) F G (nI t) = some (F', G') ∧ (∀ j, j < w.v → F' j = fiZ (spF w t j)) ∧ (∀ j, j < w.v → G' j = fiZ (spI w t j)) := by
  have hv := ok.v
  exact M_sp2 (n := n) hn ok ht w.v n 0 F G (by omega) (by omega) (fun j hj => by omega) (fun j hj => by omega)
