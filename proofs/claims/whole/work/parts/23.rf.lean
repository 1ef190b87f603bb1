/-! a refusal in one number -/
theorem rf_msk : ∀ i, i < 64 → (4294967295#64).getLsbD i = decide (i < 32) := by decide +kernel
theorem rf_bvD (C : BitVec 64) (D : BitVec 32) : (C <<< 32 ||| (D.signExtend 64 &&& 4294967295#64)).setWidth 32 = D := by
  apply BitVec.eq_of_getLsbD_eq
  intro i hi
  have hm := rf_msk i (by omega)
  simp only [BitVec.getLsbD_setWidth, BitVec.getLsbD_or, BitVec.getLsbD_and, BitVec.getLsbD_shiftLeft, BitVec.getLsbD_signExtend, hm]
  simp [hi, show i < 64 by omega]
theorem rf_bvN (C : BitVec 64) (D : BitVec 32) : ((C <<< 32 ||| (D.signExtend 64 &&& 4294967295#64)).sshiftRight 32).setWidth 32 = C.setWidth 32 := by
  apply BitVec.eq_of_getLsbD_eq
  intro i hi
  have hm := rf_msk (32 + i) (by omega)
  simp only [BitVec.getLsbD_setWidth, BitVec.getLsbD_sshiftRight, BitVec.getLsbD_or, BitVec.getLsbD_and, BitVec.getLsbD_shiftLeft, BitVec.getLsbD_signExtend, hm]
  simp [hi, show i < 64 by omega, show 32 + i < 64 by omega, show ¬ 64 ≤ i by omega, show decide (32 + i < 32) = false from decide_eq_false (by omega)]
theorem rf_s32 : (kb 32).toInt64 &&& 63 = 32 := by decide
theorem rf_bv (c d : Int32) : (rf_ c d).toBitVec = (c.toBitVec.signExtend 64 <<< 32 ||| (d.toBitVec.signExtend 64 &&& 4294967295#64)) := by
  unfold rf_
  rw [rf_s32]
  rfl
theorem rf_d (c d : Int32) : (rf_ c d).toInt32 = d := by
  apply Int32.toBitVec_inj.mp
  show (rf_ c d).toBitVec.signExtend 32 = d.toBitVec
  rw [BitVec.signExtend_eq_setWidth_of_le _ (by decide), rf_bv, rf_bvD]
theorem rf_n (c d : Int32) : (rf_ c d >>> ((kb 32).toInt64 &&& 63)).toInt32 = c := by
  apply Int32.toBitVec_inj.mp
  rw [rf_s32]
  show (((rf_ c d).toBitVec).sshiftRight 32).signExtend 32 = c.toBitVec
  rw [BitVec.signExtend_eq_setWidth_of_le _ (by decide), rf_bv, rf_bvN]
  apply BitVec.eq_of_getLsbD_eq
  intro i hi
  simp only [BitVec.getLsbD_setWidth, BitVec.getLsbD_signExtend]
  simp [hi, show i < 64 by omega]
theorem lg_0 {x y : Int64} (h : lg_cmp x y = 0) : x = y := by
  unfold lg_cmp at h
  split at h
  · exact absurd h (by decide)
  · split at h
    · assumption
    · exact absurd h (by decide)
theorem rf_ne {c : Int32} (d : Int32) (hc : c ≠ nI 0) : ¬ lg_cmp (rf_ c d) (kl 0) = nI 0 := fun h => by
  have e := rf_n c d
  rw [lg_0 h] at e
  exact hc (e.symm.trans (by decide))
theorem rf_cd {c d c2 d2 : Int32} (h : rf_ c d = rf_ c2 d2) : c = c2 ∧ d = d2 := ⟨by rw [← rf_n c d, h, rf_n], by rw [← rf_d c d, h, rf_d]⟩
