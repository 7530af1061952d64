theorem law_loop {n L : Nat} {xs : Nat → Int32} (hn : 300 ≤ n) (hL : L ≤ 2560) : ∀ (k i : Nat), i ≤ L → L < i + 5 * k → ∀ w : Wd, Ok w → ∀ (SA SB : Nat → Int32) (rl : Int32) (F LA : Nat → Int32) (th : Int32) (SF SI T Mn Lo Fa : Nat → Int32) (O : Nat → Int64), f_L_law_23 n L xs k (nI i) (nI w.s) (nF w.d) (nF w.fr) (nF w.to) (nI w.v) (nF w.hm) (nF w.kd) (nF w.cr) (nI 4) (nF w.oc) (nF w.ou) (nF w.ot) SA SB rl (nI w.p) (nI w.lim) (nF w.lv) (nF w.ds) (nI 6) (nF w.dc) (nF w.df) (nF w.dt) (nI 3) (nF w.mc) (nF w.mf) (nF w.mt) (nF w.mw) F (nF w.nd) (nI w.c) (nF w.pr) LA (nF w.dp) (nF w.dm) (nF w.hd) th (nI w.s) (nI w.v) (nI w.p) (nI w.lim) (nI w.c) (nF w.d) (nF w.fr) (nF w.to) (nF w.hm) (nF w.kd) (nF w.cr) (nF w.oc) (nF w.ou) (nF w.ot) (nF w.lv) (nF w.ds) (nF w.dc) (nF w.df) (nF w.dt) (nF w.mc) (nF w.mw) (nF w.mf) (nF w.mt) (nF w.nd) (nF w.pr) (nF w.dm) (nF w.dp) (kF w.hd) SF SI T Mn Lo Fa O = some () := by
  intro k
  induction k with
  | zero => intro i h1 h2; omega
  | succ k ih =>
    intro i h1 h2 w ok SA SB rl F LA th SF SI T Mn Lo Fa O
    rw [f_L_law_23_eq]
    have hc : Int32.ofNat L - 5 < nI i ↔ L < i + 5 := by
      rw [show Int32.ofNat L = nI L from rfl, z_5, Int32.lt_iff_toInt_lt, pk_sub_toInt (by omega) (by omega), nI_toInt (by omega)]
      omega
    by_cases h : L < i + 5
    · rw [if_pos (hc.mpr h)]
    · rw [if_neg (fun q => h (hc.mp q)), zb _ (show i < L by omega) (by omega), sr_nm_eq]
      generalize xs (nI i).toNatClampNeg &&& 31 = z
      have hK : ∀ (s v p lim c : Nat) (d fr to hm kd cr oc ou ot lv ds dc df dt mc mf mt mw nd pr dp dm hd : Nat → Nat), Ok (Wd.mk s v p lim c d fr to hm kd cr oc ou ot lv ds dc df dt mc mf mt mw nd pr dp dm hd) → ∀ (SA SB : Nat → Int32) (rl : Int32) (F LA : Nat → Int32) (th : Int32) (SF SI T Mn Lo Fa : Nat → Int32) (O : Nat → Int64), f_L_law_23 n L xs k (nI (i + 5)) (nI s) (nF d) (nF fr) (nF to) (nI v) (nF hm) (nF kd) (nF cr) (nI 4) (nF oc) (nF ou) (nF ot) SA SB rl (nI p) (nI lim) (nF lv) (nF ds) (nI 6) (nF dc) (nF df) (nF dt) (nI 3) (nF mc) (nF mf) (nF mt) (nF mw) F (nF nd) (nI c) (nF pr) LA (nF dp) (nF dm) (nF hd) th (nI s) (nI v) (nI p) (nI lim) (nI c) (nF d) (nF fr) (nF to) (nF hm) (nF kd) (nF cr) (nF oc) (nF ou) (nF ot) (nF lv) (nF ds) (nF dc) (nF df) (nF dt) (nF mc) (nF mw) (nF mf) (nF mt) (nF nd) (nF pr) (nF dm) (nF dp) (kF hd) SF SI T Mn Lo Fa O = some () := fun s v p lim c d fr to hm kd cr oc ou ot lv ds dc df dt mc mf mt mw nd pr dp dm hd ok' SA SB rl F LA th SF SI T Mn Lo Fa O => ih (i + 5) (by omega) (by omega) (Wd.mk s v p lim c d fr to hm kd cr oc ou ot lv ds dc df dt mc mf mt mw nd pr dp dm hd) ok' SA SB rl F LA th SF SI T Mn Lo Fa O
      by_cases c0 : z = 0
      · rw [if_pos c0]
        exact cs_128 _ hn hL (by omega) ok SA SB rl F LA th SF SI T Mn Lo Fa O hK
      rw [if_neg c0]
      by_cases c1 : z = 1
      · rw [if_pos c1]
        exact cs_184 _ hn hL (by omega) ok SA SB rl F LA th SF SI T Mn Lo Fa O hK
      rw [if_neg c1]
      by_cases c2 : z = 2
      · rw [if_pos c2]
        exact cs_264 _ hn hL (by omega) ok SA SB rl F LA th SF SI T Mn Lo Fa O hK
      rw [if_neg c2]
      by_cases c3 : z = 3
      · rw [if_pos c3]
        exact cs_344 _ hn hL (by omega) ok SA SB rl F LA th SF SI T Mn Lo Fa O hK
      rw [if_neg c3]
      by_cases c4 : z = 4
      · rw [if_pos c4]
        exact cs_404 _ hn hL (by omega) ok SA SB rl F LA th SF SI T Mn Lo Fa O hK
      rw [if_neg c4]
      by_cases c5 : z = 5
      · rw [if_pos c5]
        exact cs_472 _ hn hL (by omega) ok SA SB rl F LA th SF SI T Mn Lo Fa O hK
      rw [if_neg c5]
      by_cases c6 : z = 6
      · rw [if_pos c6]
        exact cs_532 _ hn hL (by omega) ok SA SB rl F LA th SF SI T Mn Lo Fa O hK
      rw [if_neg c6]
      by_cases c7 : z = 7
      · rw [if_pos c7]
        exact cs_604 _ hn hL (by omega) ok SA SB rl F LA th SF SI T Mn Lo Fa O hK
      rw [if_neg c7]
      by_cases c8 : z = 8
      · rw [if_pos c8]
        exact cs_660 _ hn hL (by omega) ok SA SB rl F LA th SF SI T Mn Lo Fa O hK
      rw [if_neg c8]
      by_cases c9 : z = 9
      · rw [if_pos c9]
        exact cs_728 _ hn hL (by omega) ok SA SB rl F LA th SF SI T Mn Lo Fa O hK
      rw [if_neg c9]
      by_cases c10 : z = 10
      · rw [if_pos c10]
        exact cs_808 _ hn hL (by omega) ok SA SB rl F LA th SF SI T Mn Lo Fa O hK
      rw [if_neg c10]
      by_cases c11 : z = 11
      · rw [if_pos c11]
        exact cs_888 _ hn hL (by omega) ok SA SB rl F LA th SF SI T Mn Lo Fa O hK
      rw [if_neg c11]
      by_cases c12 : z = 12
      · rw [if_pos c12]
        exact cs_948 _ hn hL (by omega) ok SA SB rl F LA th SF SI T Mn Lo Fa O hK
      rw [if_neg c12]
      by_cases c13 : z = 13
      · rw [if_pos c13]
        exact cs_1016 _ hn hL (by omega) ok SA SB rl F LA th SF SI T Mn Lo Fa O hK
      rw [if_neg c13]
      by_cases c14 : z = 14
      · rw [if_pos c14]
        exact cs_1076 _ hn hL (by omega) ok SA SB rl F LA th SF SI T Mn Lo Fa O hK
      rw [if_neg c14]
      by_cases c15 : z = 15
      · rw [if_pos c15]
        exact cs_1136 _ hn hL (by omega) ok SA SB rl F LA th SF SI T Mn Lo Fa O hK
      rw [if_neg c15]
      by_cases c16 : z = 16
      · rw [if_pos c16]
        exact cs_1204 _ hn hL (by omega) ok SA SB rl F LA th SF SI T Mn Lo Fa O hK
      rw [if_neg c16]
      by_cases c17 : z = 17
      · rw [if_pos c17]
        exact cs_1280 _ hn hL (by omega) ok SA SB rl F LA th SF SI T Mn Lo Fa O hK
      rw [if_neg c17]
      by_cases c18 : z = 18
      · rw [if_pos c18]
        exact cs_1348 _ hn hL (by omega) ok SA SB rl F LA th SF SI T Mn Lo Fa O hK
      rw [if_neg c18]
      rw [sr_nm_eq, z_5, nI_add]
      exact ih (i + 5) (by omega) (by omega) w ok SA SB rl F LA th SF SI T Mn Lo Fa O
theorem w0_ok : Ok (Wd.mk 0 0 0 120 0 (fun _ => 0) (fun _ => 0) (fun _ => 0) (fun _ => 0) (fun _ => 0) (fun _ => 0) (fun _ => 0) (fun _ => 0) (fun _ => 0) (fun _ => 0) (fun _ => 0) (fun _ => 0) (fun _ => 0) (fun _ => 0) (fun _ => 0) (fun _ => 0) (fun _ => 0) (fun _ => 0) (fun _ => 0) (fun _ => 0) (fun _ => 0) (fun _ => 0) (fun _ => 0)) := Okm (by omega) (by omega) (by omega) (by omega) (by omega) (fun _ => by omega) (fun _ => by omega) (fun _ => by omega) (fun _ => by omega) (fun _ => by omega) (fun _ => by omega) (fun _ => by omega) (fun _ => by omega) (fun _ => by omega) (fun _ => by omega) (fun _ => by omega) (fun _ => by omega) (fun _ => by omega) (fun _ => by omega) (fun _ => by omega) (fun _ => by omega) (fun _ => by omega) (fun _ => by omega) (fun _ => by omega) (fun _ => by omega) (fun _ => by omega) (fun _ => by decide)
theorem kF0 : kF (fun _ => 0) = fun _ => 0 := by
  funext j
  simp [kF, b01]
set_option maxRecDepth 4000 in
theorem pure_law : ∀ (L : Nat) (xs : Nat → Int32), L ≤ 2560 → ∃ n : Nat, f_L_law_23 n L xs 513 0 0 (fun _ => 0) (fun _ => 0) (fun _ => 0) 0 (fun _ => 0) (fun _ => 0) (fun _ => 0) 4 (fun _ => 0) (fun _ => 0) (fun _ => 0) (fun _ => 0) (fun _ => 0) 0 0 120 (fun _ => 0) (fun _ => 0) 6 (fun _ => 0) (fun _ => 0) (fun _ => 0) 3 (fun _ => 0) (fun _ => 0) (fun _ => 0) (fun _ => 0) (fun _ => 0) (fun _ => 0) 0 (fun _ => 0) (fun _ => 0) (fun _ => 0) (fun _ => 0) (fun _ => 0) 0 0 0 0 120 0 (fun _ => 0) (fun _ => 0) (fun _ => 0) (fun _ => 0) (fun _ => 0) (fun _ => 0) (fun _ => 0) (fun _ => 0) (fun _ => 0) (fun _ => 0) (fun _ => 0) (fun _ => 0) (fun _ => 0) (fun _ => 0) (fun _ => 0) (fun _ => 0) (fun _ => 0) (fun _ => 0) (fun _ => 0) (fun _ => 0) (fun _ => 0) (fun _ => 0) (fun _ => 0) (fun _ => 0) (fun _ => 0) (fun _ => 0) (fun _ => 0) (fun _ => 0) (fun _ => 0) (fun _ => 0) = some () := by
  intro L xs hL
  refine ⟨300, ?_⟩
  have h : f_L_law_23 300 L xs 513 (nI 0) (nI 0) (nF (fun _ => 0)) (nF (fun _ => 0)) (nF (fun _ => 0)) (nI 0) (nF (fun _ => 0)) (nF (fun _ => 0)) (nF (fun _ => 0)) (nI 4) (nF (fun _ => 0)) (nF (fun _ => 0)) (nF (fun _ => 0)) (fun _ => 0) (fun _ => 0) 0 (nI 0) (nI 120) (nF (fun _ => 0)) (nF (fun _ => 0)) (nI 6) (nF (fun _ => 0)) (nF (fun _ => 0)) (nF (fun _ => 0)) (nI 3) (nF (fun _ => 0)) (nF (fun _ => 0)) (nF (fun _ => 0)) (nF (fun _ => 0)) (fun _ => 0) (nF (fun _ => 0)) (nI 0) (nF (fun _ => 0)) (fun _ => 0) (nF (fun _ => 0)) (nF (fun _ => 0)) (nF (fun _ => 0)) 0 (nI 0) (nI 0) (nI 0) (nI 120) (nI 0) (nF (fun _ => 0)) (nF (fun _ => 0)) (nF (fun _ => 0)) (nF (fun _ => 0)) (nF (fun _ => 0)) (nF (fun _ => 0)) (nF (fun _ => 0)) (nF (fun _ => 0)) (nF (fun _ => 0)) (nF (fun _ => 0)) (nF (fun _ => 0)) (nF (fun _ => 0)) (nF (fun _ => 0)) (nF (fun _ => 0)) (nF (fun _ => 0)) (nF (fun _ => 0)) (nF (fun _ => 0)) (nF (fun _ => 0)) (nF (fun _ => 0)) (nF (fun _ => 0)) (nF (fun _ => 0)) (nF (fun _ => 0)) (kF (fun _ => 0)) (fun _ => 0) (fun _ => 0) (fun _ => 0) (fun _ => 0) (fun _ => 0) (fun _ => 0) (fun _ => 0) = some () := law_loop (n := 300) (by omega) hL 513 0 (by omega) (by omega) (Wd.mk 0 0 0 120 0 (fun _ => 0) (fun _ => 0) (fun _ => 0) (fun _ => 0) (fun _ => 0) (fun _ => 0) (fun _ => 0) (fun _ => 0) (fun _ => 0) (fun _ => 0) (fun _ => 0) (fun _ => 0) (fun _ => 0) (fun _ => 0) (fun _ => 0) (fun _ => 0) (fun _ => 0) (fun _ => 0) (fun _ => 0) (fun _ => 0) (fun _ => 0) (fun _ => 0) (fun _ => 0)) w0_ok (fun _ => 0) (fun _ => 0) 0 (fun _ => 0) (fun _ => 0) 0 (fun _ => 0) (fun _ => 0) (fun _ => 0) (fun _ => 0) (fun _ => 0) (fun _ => 0) (fun _ => 0)
  rw [kF0] at h
  exact h
