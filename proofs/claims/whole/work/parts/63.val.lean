/-! values as numbers: kind and content -/
theorem msk_lo : ∀ i, i < 32 → (4294967295#64).getLsbD i = true := by decide
theorem msk_hi : ∀ i, i < 32 → (4294967295#64).getLsbD (32 + i) = false := by decide
theorem vof_b (k c : Int32) : (vof k c).toBitVec = BitVec.signExtend 64 k.toBitVec <<< 32 ||| BitVec.signExtend 64 c.toBitVec &&& 4294967295#64 := by
  unfold vof
  simp
theorem vof_lo (k c : Int32) : (vof k c).toInt32 = c := by
  apply Int32.toBitVec_inj.mp
  rw [Int64.toBitVec_toInt32, vof_b, BitVec.signExtend_eq_setWidth_of_le _ (by decide)]
  apply BitVec.eq_of_getLsbD_eq
  intro i hi
  rw [BitVec.getLsbD_setWidth, BitVec.getLsbD_or, BitVec.getLsbD_and, BitVec.getLsbD_shiftLeft, BitVec.getLsbD_signExtend, msk_lo i hi]
  have h1 : i < 64 := by omega
  simp [hi, h1, BitVec.getElem_signExtend]
theorem vof_kd (k c : Int32) : vkd (vof k c) = k := by
  apply Int32.toBitVec_inj.mp
  have e : (vkd (vof k c)).toBitVec = BitVec.signExtend 32 ((vof k c).toBitVec >>> 32) := by
    unfold vkd
    simp
  rw [e, vof_b, BitVec.signExtend_eq_setWidth_of_le _ (by decide)]
  apply BitVec.eq_of_getLsbD_eq
  intro i hi
  rw [BitVec.getLsbD_setWidth, BitVec.getLsbD_ushiftRight, BitVec.getLsbD_or, BitVec.getLsbD_and, BitVec.getLsbD_shiftLeft, BitVec.getLsbD_signExtend, msk_hi i hi]
  have h1 : 32 + i < 64 := by omega
  have h2 : i < 64 := by omega
  simp [hi, h1, h2]
theorem vof_kr (k c : Int32) : (vof k c >>> ((32 : Int32).toInt64 &&& 63)).toInt32 = k := by
  apply Int32.toBitVec_inj.mp
  have e : ((vof k c >>> ((32 : Int32).toInt64 &&& 63)).toInt32).toBitVec = BitVec.signExtend 32 ((vof k c).toBitVec.sshiftRight 32) := by
    simp
  rw [e, vof_b, BitVec.signExtend_eq_setWidth_of_le _ (by decide)]
  apply BitVec.eq_of_getLsbD_eq
  intro i hi
  rw [BitVec.getLsbD_setWidth, BitVec.getLsbD_sshiftRight]
  have h1 : 32 + i < 64 := by omega
  have h2 : i < 64 := by omega
  simp only [h1, if_true]
  rw [BitVec.getLsbD_or, BitVec.getLsbD_and, BitVec.getLsbD_shiftLeft, BitVec.getLsbD_signExtend, msk_hi i hi]
  simp [hi, h1, h2, show ¬ 64 ≤ i by omega, show ¬ 32 + i < 32 by omega]
theorem vof_inj {k c k' c' : Int32} (h : vof k c = vof k' c') : k = k' ∧ c = c' :=
  ⟨by rw [← vof_kd k c, h, vof_kd], by rw [← vof_lo k c, h, vof_lo]⟩
