/-! ===== bytes ===== -/
theorem m255 : ∀ i, i < 32 → (255#32).getLsbD i = decide (i < 8) := by decide
theorem and255 (y : Int32) : y.toInt8.toInt32 &&& 255 = y &&& 255 := by
  apply Int32.toBitVec_inj.mp
  apply BitVec.eq_of_getLsbD_eq
  intro i hi
  have h := m255 i hi
  simp
  rw [h]
  by_cases h8 : i < 8
  · rw [BitVec.getLsbD_signExtend, BitVec.getLsbD_signExtend, if_pos h8]
    simp [h8, hi]
  · simp [h8]
theorem nar_b (x : Int32) : vp_nar .byte x = x.toInt8.toInt32 := rfl
theorem bitN {w i : Nat} (hi : i < 32) : (nI w).toBitVec.getLsbD i = w.testBit i := by
  show (BitVec.ofNat 32 w).getLsbD i = _
  rw [BitVec.getLsbD_ofNat]
  simp [hi]
theorem smod_t : ∀ s, s < 32 → ((nI s).toBitVec.smod 32#32).toNat = s := by decide
theorem shr_b (w s : Nat) (hs : s ≤ 24) : (nI w >>> (nI s &&& 31)) &&& 255 = nI (w / 2 ^ s % 256) := by
  have h1 : nI s &&& 31 = nI s := (show ∀ s, s ≤ 24 → nI s &&& 31 = nI s by decide) s hs
  rw [h1]
  apply Int32.toBitVec_inj.mp
  apply BitVec.eq_of_getLsbD_eq
  intro i hi
  have h := m255 i hi
  have e : (nI (w / 2 ^ s % 256)).toBitVec.getLsbD i = (decide (i < 8) && w.testBit (i + s)) := by
    rw [bitN hi, show 256 = 2 ^ 8 from rfl, Nat.testBit_mod_two_pow, Nat.testBit_div_two_pow]
  rw [e]
  show ((nI w).toBitVec.sshiftRight ((nI s).toBitVec.smod 32#32).toNat &&& 255#32).getLsbD i = _
  rw [BitVec.getLsbD_and, h, smod_t s (by omega), BitVec.getLsbD_sshiftRight]
  by_cases h8 : i < 8
  · have h9 : s + i < 32 := by omega
    rw [if_pos h9, bitN h9, Nat.add_comm s i]
    simp [h8, show ¬ 32 ≤ i by omega]
  · simp [h8]
theorem nar_byte (w s : Nat) (hs : s ≤ 24) : vp_nar .byte ((nI w >>> (nI s &&& 31)).toInt8.toInt32) &&& 255 = nI (w / 2 ^ s % 256) := by
  rw [nar_b, and255, and255, shr_b w s hs]
