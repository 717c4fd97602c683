/-! ===== shifts: by zeros or by the sign, the byte is the same ===== -/
theorem sh32 (v : BitVec 32) (c : Nat) (hc : c ≤ 24) : (v >>> c) &&& 255#32 = (v.sshiftRight c) &&& 255#32 := by
  apply BitVec.eq_of_getLsbD_eq
  intro i hi
  rw [BitVec.getLsbD_and, BitVec.getLsbD_and]
  by_cases h : i < 8
  · rw [BitVec.getLsbD_ushiftRight, BitVec.getLsbD_sshiftRight]
    have e1 : c + i < 32 := by omega
    have e2 : ¬ 32 ≤ i := by omega
    simp [hi, e1, e2]
  · have : (255#32).getLsbD i = false := by
      have e : (255#32) = BitVec.setWidth 32 (255#8) := rfl
      rw [e, BitVec.getLsbD_setWidth]
      rw [BitVec.getLsbD_of_ge _ _ (by omega)]
      simp
    rw [this, Bool.and_false, Bool.and_false]
theorem sh64 (v : BitVec 64) (c : Nat) (hc : c ≤ 56) : (v >>> c).setWidth 32 &&& 255#32 = (v.sshiftRight c).setWidth 32 &&& 255#32 := by
  apply BitVec.eq_of_getLsbD_eq
  intro i hi
  rw [BitVec.getLsbD_and, BitVec.getLsbD_and]
  by_cases h : i < 8
  · rw [BitVec.getLsbD_setWidth, BitVec.getLsbD_setWidth, BitVec.getLsbD_ushiftRight, BitVec.getLsbD_sshiftRight]
    have e1 : c + i < 64 := by omega
    have e2 : i < 64 := by omega
    have e3 : ¬ 64 ≤ i := by omega
    simp [hi, e1, e2, e3]
  · have : (255#32).getLsbD i = false := by
      have e : (255#32) = BitVec.setWidth 32 (255#8) := rfl
      rw [e, BitVec.getLsbD_setWidth]
      rw [BitVec.getLsbD_of_ge _ _ (by omega)]
      simp
    rw [this, Bool.and_false, Bool.and_false]
theorem ush_24 (v : Int32) : i_ushr v 24 &&& 255 = (v >>> ((24 : Int32) &&& 31)) &&& 255 := by
  apply Int32.toBitVec_inj.mp
  rw [Int32.toBitVec_and, Int32.toBitVec_and, Int32.toBitVec_shiftRight]
  exact sh32 v.toBitVec 24 (by decide)
theorem ush_16 (v : Int32) : i_ushr v 16 &&& 255 = (v >>> ((16 : Int32) &&& 31)) &&& 255 := by
  apply Int32.toBitVec_inj.mp
  rw [Int32.toBitVec_and, Int32.toBitVec_and, Int32.toBitVec_shiftRight]
  exact sh32 v.toBitVec 16 (by decide)
theorem ush_8 (v : Int32) : i_ushr v 8 &&& 255 = (v >>> ((8 : Int32) &&& 31)) &&& 255 := by
  apply Int32.toBitVec_inj.mp
  rw [Int32.toBitVec_and, Int32.toBitVec_and, Int32.toBitVec_shiftRight]
  exact sh32 v.toBitVec 8 (by decide)
theorem ush_0 (v : Int32) : i_ushr v 0 &&& 255 = (v >>> ((0 : Int32) &&& 31)) &&& 255 := by
  apply Int32.toBitVec_inj.mp
  rw [Int32.toBitVec_and, Int32.toBitVec_and, Int32.toBitVec_shiftRight]
  exact sh32 v.toBitVec 0 (by decide)
theorem shr_0 (v : Int32) : v >>> ((0 : Int32) &&& 31) = v := by
  apply Int32.toBitVec_inj.mp
  rw [Int32.toBitVec_shiftRight]
  show v.toBitVec.sshiftRight 0 = v.toBitVec
  simp
theorem ush_00 (v : Int32) : i_ushr v 0 &&& 255 = v &&& 255 := by rw [ush_0, shr_0]
theorem lsh_k (v : Int64) (k : Nat) (h : k < 8) : (l_ushr v (8 * nI k)).toInt32 &&& 255 = (l_shr v (8 * nI k)).toInt32 &&& 255 := by
  apply Int32.toBitVec_inj.mp
  rw [Int32.toBitVec_and, Int32.toBitVec_and, Int64.toBitVec_toInt32, Int64.toBitVec_toInt32, BitVec.signExtend_eq_setWidth_of_le _ (by decide), BitVec.signExtend_eq_setWidth_of_le _ (by decide)]
  unfold l_shr
  rw [Int64.toBitVec_shiftRight]
  match k, h with
  | 0, _ => exact sh64 v.toBitVec 0 (by decide)
  | 1, _ => exact sh64 v.toBitVec 8 (by decide)
  | 2, _ => exact sh64 v.toBitVec 16 (by decide)
  | 3, _ => exact sh64 v.toBitVec 24 (by decide)
  | 4, _ => exact sh64 v.toBitVec 32 (by decide)
  | 5, _ => exact sh64 v.toBitVec 40 (by decide)
  | 6, _ => exact sh64 v.toBitVec 48 (by decide)
  | 7, _ => exact sh64 v.toBitVec 56 (by decide)
  | _ + 8, h => exact absurd h (by omega)
