theorem t255 : ∀ j, j < 32 → (255#32).getLsbD j = decide (j < 8) := by decide +kernel
theorem t255l : ∀ j, j < 64 → (255#64).getLsbD j = decide (j < 8) := by decide +kernel
theorem by_bv (b : BitVec 64) (n : Nat) (hn : n ≤ 56) : (b >>> n).signExtend 32 &&& 255#32 = ((b.sshiftRight n) &&& 255#64).signExtend 32 := by
  refine BitVec.eq_of_getLsbD_eq (fun j hj => ?_)
  rw [BitVec.getLsbD_and, BitVec.getLsbD_signExtend, BitVec.getLsbD_signExtend, BitVec.getLsbD_and, BitVec.getLsbD_sshiftRight, BitVec.getLsbD_ushiftRight, t255 j hj, t255l j (by omega)]
  rw [if_pos (show j < 64 by omega), if_pos (show j < 64 by omega)]
  by_cases q : j < 8
  · rw [if_pos (show n + j < 64 by omega), decide_eq_true q, decide_eq_true hj, decide_eq_false (show ¬ 64 ≤ j by omega)]
    rfl
  · rw [decide_eq_false q, Bool.and_false, Bool.and_false, Bool.and_false]
theorem sh_u : ∀ i, i < 8 → (((8 * nI i).toInt64.toUInt64 &&& Int64.toUInt64 63).toBitVec % 64).toNat = 8 * i := by decide +kernel
theorem sh_s : ∀ i, i < 8 → (((8 * nI i).toInt64 &&& 63).toBitVec.smod 64).toNat = 8 * i := by decide +kernel
theorem by_eq (b : Int64) (i : Nat) (hi : i < 8) : ((b.toUInt64 >>> ((8 * nI i).toInt64.toUInt64 &&& Int64.toUInt64 63)).toInt64).toInt32 &&& 255 = ((b >>> ((8 * nI i).toInt64 &&& 63)) &&& 255).toInt32 := by
  refine Int32.toBitVec_inj.mp ?_
  rw [Int32.toBitVec_and, Int64.toBitVec_toInt32, Int64.toBitVec_toInt32, Int64.toBitVec_and, Int64.toBitVec_shiftRight]
  show BitVec.signExtend 32 (b.toUInt64 >>> ((8 * nI i).toInt64.toUInt64 &&& Int64.toUInt64 63)).toBitVec &&& 255#32 = _
  rw [UInt64.toBitVec_shiftRight, BitVec.ushiftRight_eq', BitVec.sshiftRight_eq', sh_u i hi, sh_s i hi]
  exact by_bv b.toBitVec (8 * i) (by omega)
theorem i_vc : Claimed_1_1 ∧ Claimed_1_2 := sorry
