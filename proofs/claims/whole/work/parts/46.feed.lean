theorem t255 : ∀ j, j < 32 → (255#32).getLsbD j = decide (j < 8) := by decide +kernel
theorem t255l : ∀ j, j < 64 → (255#64).getLsbD j = decide (j < 8) := by decide +kernel
theorem by_bv (b : BitVec 64) (n : Nat) (hn : n ≤ 56) : (b >>> n).signExtend 32 &&& 255#32 = ((b.sshiftRight n) &&& 255#64).signExtend 32 := by
  refine BitVec.eq_of_getLsbD_eq (fun j hj => ?_)
  rw [BitVec.getLsbD_and, BitVec.getLsbD_signExtend, BitVec.getLsbD_signExtend, BitVec.getLsbD_and, BitVec.getLsbD_sshiftRight, BitVec.getLsbD_ushiftRight, t255 j hj, t255l j (by omega)]
  rw [if_pos (show j < 64 by omega), if_pos (show j < 64 by omega)]
  by_cases q : j < 8
  · rw [if_pos (show n + j < 64 by omega), decide_eq_true q, decide_eq_true hj, decide_eq_false (show ¬ 64 ≤ j by omega)]
    rfl
  · rw [decide_eq_false q, Bool.and_false, Bool.and_false, Bool.and_false]
theorem sh_u : ∀ i, i < 8 → (((8 * nI i).toInt64.toUInt64 &&& Int64.toUInt64 63).toBitVec % 64).toNat = 8 * i := by decide +kernel
theorem sh_s : ∀ i, i < 8 → (((8 * nI i).toInt64 &&& 63).toBitVec.smod 64).toNat = 8 * i := by decide +kernel
theorem by_eq (b : Int64) (i : Nat) (hi : i < 8) : ((b.toUInt64 >>> ((8 * nI i).toInt64.toUInt64 &&& Int64.toUInt64 63)).toInt64).toInt32 &&& 255 = ((b >>> ((8 * nI i).toInt64 &&& 63)) &&& 255).toInt32 := by
  refine Int32.toBitVec_inj.mp ?_
  rw [Int32.toBitVec_and, Int64.toBitVec_toInt32, Int64.toBitVec_toInt32, Int64.toBitVec_and, Int64.toBitVec_shiftRight]
  show BitVec.signExtend 32 (b.toUInt64 >>> ((8 * nI i).toInt64.toUInt64 &&& Int64.toUInt64 63)).toBitVec &&& 255#32 = _
  rw [UInt64.toBitVec_shiftRight, BitVec.ushiftRight_eq', BitVec.sshiftRight_eq', sh_u i hi, sh_s i hi]
  exact by_bv b.toBitVec (8 * i) (by omega)
theorem t_add (d : Nat) (mb : Nat → AB) (x a : mA) (f : mF) {n : Nat} (hn : n < 64) (en : x 14 1 = nI n) (v : Int32) : ab_Ex (d + 1) 0 yX3_add [vR 14 0, vI v] (hX mb x a f) none (hX mb (mS x 14 (upd (x 14) 1 (x 14 1 + 1))) (mS a 15 (upd (a 15) n v)) f) := by
  refine ab_meth oX3_add d _ _ _ _ (Nat.le_refl _) rfl (fun E => ?_)
  refine ab_run [] 100 oX3_add.1 (Nat.le_refl _) 0 ?_
  have hl : x 14 1 < 64 := by rw [en]; exact ld_lt n 64 hn (by decide)
  have hv : vp_in (x 14 1) 64 := by rw [en]; exact vp_in_nI hn (by omega)
  have hc : n = (x 14 1).toNatClampNeg := by rw [en, nI_clamp (by omega)]
  rw [hc]
  refine ⟨fun (c : 64 ≤ x 14 1) => absurd hl (le_nlt c), fun c => ?_⟩
  refine ⟨hv, ?_⟩
  exact ⟨rfl, rfl⟩
def fdA (s : Nat → Int32) (n : Nat) (B : Nat → Int32) : Nat → Nat → Int32
  | 0 => s
  | i + 1 => upd (fdA s n B i) (n + i) (B i)
theorem fdA_at (s : Nat → Int32) (n : Nat) (B : Nat → Int32) : ∀ i j, fdA s n B i j = if n ≤ j ∧ j < n + i then B (j - n) else s j := by
  intro i
  induction i with
  | zero => intro j; rw [if_neg (by omega)]; rfl
  | succ i ih =>
    intro j
    show upd (fdA s n B i) (n + i) (B i) j = _
    by_cases q : j = n + i
    · subst q
      rw [upd_at, if_pos (by omega), show n + i - n = i by omega]
    · rw [upd_ne q, ih j]
      by_cases q2 : n ≤ j ∧ j < n + i
      · rw [if_pos q2, if_pos (by omega)]
      · rw [if_neg q2, if_neg (by omega)]
