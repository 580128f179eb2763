/-! ===== the bytes of a word, in the model ===== -/
theorem wb_24 {x : Int32} : (x >>> ((24 : Int32) &&& 31)).toInt8 = (wb x 24).toInt8 := by
  apply Int8.toBitVec_inj.mp
  show (x.toBitVec.sshiftRight 24).signExtend 8 = ((x.toBitVec >>> 24) &&& 255#32).signExtend 8
  apply BitVec.eq_of_getLsbD_eq
  intro i hi
  rw [BitVec.getLsbD_signExtend, BitVec.getLsbD_signExtend]
  simp only [hi, show i < 32 by omega, decide_true, Bool.true_and, if_true, BitVec.getLsbD_sshiftRight, BitVec.getLsbD_and, BitVec.getLsbD_ushiftRight]
  rcases (show i = 0 ∨ i = 1 ∨ i = 2 ∨ i = 3 ∨ i = 4 ∨ i = 5 ∨ i = 6 ∨ i = 7 by omega) with rfl | rfl | rfl | rfl | rfl | rfl | rfl | rfl <;> simp
