/-! keys: a bit for each station -/
theorem nI_xor {h m : Nat} : nI h ^^^ nI m = nI (h ^^^ m) := by
  unfold nI
  apply Int32.toBitVec_inj.mp
  simp [BitVec.ofNat_xor]
theorem one_shl : ∀ j, j < 12 → (1 : Int32) <<< (nI j &&& 31) = nI (2 ^ j) := by decide
theorem nI_fl {h j : Nat} (hj : j < 12) : nI h ^^^ (1 <<< (nI j &&& 31)) = nI (h ^^^ 2 ^ j) := by
  rw [one_shl j hj, nI_xor]
theorem sh_at : ∀ j, j < 12 → (nI j &&& 31).toBitVec.smod 32 = BitVec.ofNat 32 j := by decide
theorem nI_at {h j : Nat} (hj : j < 12) : ((nI h >>> (nI j &&& 31)) &&& 1 = 1) ↔ h.testBit j = true := by
  rw [← Int32.toBitVec_inj]
  rw [Int32.toBitVec_and, Int32.toBitVec_shiftRight, sh_at j hj]
  have e1 : (1 : Int32).toBitVec = 1#32 := rfl
  rw [e1]
  have e2 : (nI h).toBitVec = BitVec.ofNat 32 h := rfl
  rw [e2]
  have e3 : ((BitVec.ofNat 32 h).sshiftRight' (BitVec.ofNat 32 j)) &&& 1#32 = BitVec.setWidth 32 (BitVec.ofBool (((BitVec.ofNat 32 h).sshiftRight' (BitVec.ofNat 32 j)).getLsbD 0)) := by
    rw [BitVec.and_one_eq_setWidth_ofBool_getLsbD]
  rw [e3]
  have e4 : ((BitVec.ofNat 32 h).sshiftRight' (BitVec.ofNat 32 j)).getLsbD 0 = h.testBit j := by
    unfold BitVec.sshiftRight'
    rw [BitVec.getLsbD_sshiftRight]
    have : (BitVec.ofNat 32 j).toNat = j := by simp; omega
    rw [this]
    rw [if_pos (by omega), BitVec.getLsbD_ofNat]
    simp [show j < 32 by omega]
  rw [e4]
  cases h.testBit j <;> decide
theorem bits_cn : ∀ a, a < 64 → ∀ b, b < 64 → f_J_bitCount (nI (64 * a + b)) = some (nI (cnt (64 * a + b).testBit 0 12)) := by decide +kernel
theorem J_bits {h : Nat} (hh : h < 4096) : f_J_bitCount (nI h) = some (nI (cnt h.testBit 0 12)) := by
  have := bits_cn (h / 64) (by omega) (h % 64) (by omega)
  rw [show 64 * (h / 64) + h % 64 = h by omega] at this
  exact this
