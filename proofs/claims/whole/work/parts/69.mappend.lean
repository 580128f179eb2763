/-! ===== the bytes of a word, in the model ===== -/
theorem wb_24 {x : Int32} : (x >>> ((24 : Int32) &&& 31)).toInt8 = (wb x 24).toInt8 := by
  apply Int8.toBitVec_inj.mp
  show (x.toBitVec.sshiftRight 24).signExtend 8 = ((x.toBitVec >>> 24) &&& 255#32).signExtend 8
  apply BitVec.eq_of_getLsbD_eq
  intro i hi
  rw [BitVec.getLsbD_signExtend, BitVec.getLsbD_signExtend]
  simp only [hi, show i < 32 by omega, decide_true, Bool.true_and, if_true, BitVec.getLsbD_sshiftRight, BitVec.getLsbD_and, BitVec.getLsbD_ushiftRight]
  rcases (show i = 0 ∨ i = 1 ∨ i = 2 ∨ i = 3 ∨ i = 4 ∨ i = 5 ∨ i = 6 ∨ i = 7 by omega) with rfl | rfl | rfl | rfl | rfl | rfl | rfl | rfl <;> simp
theorem wb_16 {x : Int32} : (x >>> ((16 : Int32) &&& 31)).toInt8 = (wb x 16).toInt8 := by
  apply Int8.toBitVec_inj.mp
  show (x.toBitVec.sshiftRight 16).signExtend 8 = ((x.toBitVec >>> 16) &&& 255#32).signExtend 8
  apply BitVec.eq_of_getLsbD_eq
  intro i hi
  rw [BitVec.getLsbD_signExtend, BitVec.getLsbD_signExtend]
  simp only [hi, show i < 32 by omega, decide_true, Bool.true_and, if_true, BitVec.getLsbD_sshiftRight, BitVec.getLsbD_and, BitVec.getLsbD_ushiftRight]
  rcases (show i = 0 ∨ i = 1 ∨ i = 2 ∨ i = 3 ∨ i = 4 ∨ i = 5 ∨ i = 6 ∨ i = 7 by omega) with rfl | rfl | rfl | rfl | rfl | rfl | rfl | rfl <;> simp
theorem wb_8 {x : Int32} : (x >>> ((8 : Int32) &&& 31)).toInt8 = (wb x 8).toInt8 := by
  apply Int8.toBitVec_inj.mp
  show (x.toBitVec.sshiftRight 8).signExtend 8 = ((x.toBitVec >>> 8) &&& 255#32).signExtend 8
  apply BitVec.eq_of_getLsbD_eq
  intro i hi
  rw [BitVec.getLsbD_signExtend, BitVec.getLsbD_signExtend]
  simp only [hi, show i < 32 by omega, decide_true, Bool.true_and, if_true, BitVec.getLsbD_sshiftRight, BitVec.getLsbD_and, BitVec.getLsbD_ushiftRight]
  rcases (show i = 0 ∨ i = 1 ∨ i = 2 ∨ i = 3 ∨ i = 4 ∨ i = 5 ∨ i = 6 ∨ i = 7 by omega) with rfl | rfl | rfl | rfl | rfl | rfl | rfl | rfl <;> simp
theorem wb_0 {x : Int32} : (x >>> ((0 : Int32) &&& 31)).toInt8 = (wb x 0).toInt8 := by
  apply Int8.toBitVec_inj.mp
  show (x.toBitVec.sshiftRight 0).signExtend 8 = ((x.toBitVec >>> 0) &&& 255#32).signExtend 8
  apply BitVec.eq_of_getLsbD_eq
  intro i hi
  rw [BitVec.getLsbD_signExtend, BitVec.getLsbD_signExtend]
  simp only [hi, show i < 32 by omega, decide_true, Bool.true_and, if_true, BitVec.getLsbD_sshiftRight, BitVec.getLsbD_and, BitVec.getLsbD_ushiftRight]
  rcases (show i = 0 ∨ i = 1 ∨ i = 2 ∨ i = 3 ∨ i = 4 ∨ i = 5 ∨ i = 6 ∨ i = 7 by omega) with rfl | rfl | rfl | rfl | rfl | rfl | rfl | rfl <;> simp
theorem b8_r {y : Int32} : (y &&& 255).toInt8.toInt32 &&& 255 = y &&& 255 := by
  apply Int32.toBitVec_inj.mp
  show (((y.toBitVec &&& 255#32).signExtend 8).signExtend 32) &&& 255#32 = y.toBitVec &&& 255#32
  apply BitVec.eq_of_getLsbD_eq
  intro i hi
  simp only [BitVec.getLsbD_and]
  by_cases h8 : i < 8
  · rw [BitVec.getLsbD_signExtend]
    simp only [hi, h8, decide_true, Bool.true_and, if_true]
    rw [BitVec.getLsbD_signExtend]
    simp only [h8, show i < 32 by omega, decide_true, Bool.true_and, if_true, BitVec.getLsbD_and]
    rcases (show i = 0 ∨ i = 1 ∨ i = 2 ∨ i = 3 ∨ i = 4 ∨ i = 5 ∨ i = 6 ∨ i = 7 by omega) with rfl | rfl | rfl | rfl | rfl | rfl | rfl | rfl <;> simp
  · have e : (255#32).getLsbD i = false := by
      rw [BitVec.getLsbD_ofNat]
      simp only [hi, decide_true, Bool.true_and]
      exact Nat.testBit_lt_two_pow (Nat.lt_of_lt_of_le (show 255 < 2 ^ 8 by decide) (Nat.pow_le_pow_right (by decide) (by omega)))
    rw [e, Bool.and_false, Bool.and_false]
theorem wb_r {x s : Int32} : (wb x s).toInt8.toInt32 &&& 255 = wb x s := b8_r
theorem nar_b {z w : Int32} (h : z.toInt8 = w.toInt8) : vp_nar .byte z.toInt8.toInt32 = w.toInt8.toInt32 := by
  show z.toInt8.toInt32.toInt8.toInt32 = _
  rw [Int8.toInt8_toInt32, h]
theorem iM_push {σ : am_G} {n : Nat} {B : List Int32} {x y : Int32} (h : iM σ n B) (hl : n < 400) (hy : y = x.toInt8.toInt32) (hr : x.toInt8.toInt32 &&& 255 = x) : iM (sI (sI σ 126 n y) 120 12 (nI (n + 1))) (n + 1) (B ++ [x]) := by
  obtain ⟨h1, h2, h3, h4⟩ := h
  subst hy
  refine ⟨by rw [List.length_append, h1]; rfl, sI_s, hl, fun i z e => ?_⟩
  rw [sI_o (Or.inl (by decide))]
  by_cases hi : i = n
  · subst hi
    rw [sI_s]
    rw [List.getElem?_append_right (by omega), h1, Nat.sub_self] at e
    cases Option.some.inj e
    exact ⟨rfl, hr⟩
  · rw [sI_o (Or.inr hi)]
    by_cases h5 : i < n
    · rw [List.getElem?_append_left (by omega)] at e
      exact h4 i z e
    · rw [List.getElem?_append_right (by omega), List.getElem?_eq_none (by show 1 ≤ i - B.length; omega)] at e
      exact absurd e (by simp)
def pIm (a b : Nat) : Prop := (a = 120 ∧ b = 12) ∨ a = 126
set_option maxRecDepth 100000 in
set_option maxHeartbeats 4000000 in
theorem sp_mappendFour {σ : am_G} {n : Nat} {B : List Int32} {x : Int32} (h : iM σ n B) (hl : n + 4 ≤ 400) : am_Call am_TX 0 0 c_M_appendFour [.ref 120, .int x] (mm σ) (am_Ok none (fun σ1 => smP pIm σ σ1 ∧ iM σ1 (n + 4) (B ++ wdL x))) := by
  refine ⟨mf_M_appendFour, Nat.le_of_ble_eq_true rfl, ?_⟩
  refine R_bipush (v := 24) rfl (by decide) ?_
  refine R_istore_n rfl (by decide) ?_
  refine R_iload_n rfl rfl ?_
  refine R_if_lt rfl rfl (fun z => absurd z (by decide)) (fun _ => ?_)
  refine R_aload_n rfl rfl ?_
  refine R_gP (x := 126) rfl rfl fp_11_11 rfl ?_
  refine R_aload_n rfl rfl ?_
  refine R_gIN (n := n) rfl rfl fd_11_12 h.2.1 ?_
  refine R_iload_n rfl rfl ?_
  refine R_iload_n rfl rfl ?_
  refine R_ishr rfl ?_
  refine R_i2b rfl ?_
  refine R_wB (j := n) rfl rfl rfl (by omega) (by decide) ?_
  refine R_aload_n rfl rfl ?_
  refine R_dup rfl rfl ?_
  refine R_gIN (n := n) rfl rfl fd_11_12 ((sI_o (Or.inl (by decide))).trans h.2.1) ?_
  refine R_iconst (v := 1) rfl rfl ?_
  refine R_iaddN (x := n) (y := 1) rfl ?_
  refine R_pI rfl rfl fw_11_12 rfl ?_
  refine R_iinc rfl rfl (by decide) ?_
  refine R_goto rfl rfl ?_
  refine R_iload_n rfl rfl ?_
  refine R_if_lt rfl rfl (fun z => absurd z (by decide)) (fun _ => ?_)
  refine R_aload_n rfl rfl ?_
  refine R_gP (x := 126) rfl rfl fp_11_11 rfl ?_
  refine R_aload_n rfl rfl ?_
  refine R_gIN (n := (n + 1)) rfl rfl fd_11_12 sI_s ?_
  refine R_iload_n rfl rfl ?_
  refine R_iload_n rfl rfl ?_
  refine R_ishr rfl ?_
  refine R_i2b rfl ?_
  refine R_wB (j := (n + 1)) rfl rfl rfl (by omega) (by decide) ?_
  refine R_aload_n rfl rfl ?_
  refine R_dup rfl rfl ?_
  refine R_gIN (n := (n + 1)) rfl rfl fd_11_12 ((sI_o (Or.inl (by decide))).trans sI_s) ?_
  refine R_iconst (v := 1) rfl rfl ?_
  refine R_iaddN (x := (n + 1)) (y := 1) rfl ?_
  refine R_pI rfl rfl fw_11_12 rfl ?_
  refine R_iinc rfl rfl (by decide) ?_
  refine R_goto rfl rfl ?_
  refine R_iload_n rfl rfl ?_
  refine R_if_lt rfl rfl (fun z => absurd z (by decide)) (fun _ => ?_)
  refine R_aload_n rfl rfl ?_
  refine R_gP (x := 126) rfl rfl fp_11_11 rfl ?_
  refine R_aload_n rfl rfl ?_
  refine R_gIN (n := ((n + 1) + 1)) rfl rfl fd_11_12 sI_s ?_
  refine R_iload_n rfl rfl ?_
  refine R_iload_n rfl rfl ?_
  refine R_ishr rfl ?_
  refine R_i2b rfl ?_
  refine R_wB (j := ((n + 1) + 1)) rfl rfl rfl (by omega) (by decide) ?_
  refine R_aload_n rfl rfl ?_
  refine R_dup rfl rfl ?_
  refine R_gIN (n := ((n + 1) + 1)) rfl rfl fd_11_12 ((sI_o (Or.inl (by decide))).trans sI_s) ?_
  refine R_iconst (v := 1) rfl rfl ?_
  refine R_iaddN (x := ((n + 1) + 1)) (y := 1) rfl ?_
  refine R_pI rfl rfl fw_11_12 rfl ?_
  refine R_iinc rfl rfl (by decide) ?_
  refine R_goto rfl rfl ?_
  refine R_iload_n rfl rfl ?_
  refine R_if_lt rfl rfl (fun z => absurd z (by decide)) (fun _ => ?_)
  refine R_aload_n rfl rfl ?_
  refine R_gP (x := 126) rfl rfl fp_11_11 rfl ?_
  refine R_aload_n rfl rfl ?_
  refine R_gIN (n := (((n + 1) + 1) + 1)) rfl rfl fd_11_12 sI_s ?_
  refine R_iload_n rfl rfl ?_
  refine R_iload_n rfl rfl ?_
  refine R_ishr rfl ?_
  refine R_i2b rfl ?_
  refine R_wB (j := (((n + 1) + 1) + 1)) rfl rfl rfl (by omega) (by decide) ?_
  refine R_aload_n rfl rfl ?_
  refine R_dup rfl rfl ?_
  refine R_gIN (n := (((n + 1) + 1) + 1)) rfl rfl fd_11_12 ((sI_o (Or.inl (by decide))).trans sI_s) ?_
  refine R_iconst (v := 1) rfl rfl ?_
  refine R_iaddN (x := (((n + 1) + 1) + 1)) (y := 1) rfl ?_
  refine R_pI rfl rfl fw_11_12 rfl ?_
  refine R_iinc rfl rfl (by decide) ?_
  refine R_goto rfl rfl ?_
  refine R_iload_n rfl rfl ?_
  refine R_if_lt rfl rfl (fun _ => ?_) (fun z => absurd z (by decide))
  exact T_return rfl rfl (am_okv0 ⟨((((((((smP_sI (p := pIm) (Or.inr rfl)).trans (smP_sI (p := pIm) (Or.inl ⟨rfl, rfl⟩))).trans (smP_sI (p := pIm) (Or.inr rfl))).trans (smP_sI (p := pIm) (Or.inl ⟨rfl, rfl⟩))).trans (smP_sI (p := pIm) (Or.inr rfl))).trans (smP_sI (p := pIm) (Or.inl ⟨rfl, rfl⟩))).trans (smP_sI (p := pIm) (Or.inr rfl))).trans (smP_sI (p := pIm) (Or.inl ⟨rfl, rfl⟩))), by have z := (iM_push (x := wb x 0) (iM_push (x := wb x 8) (iM_push (x := wb x 16) (iM_push (x := wb x 24) h (by omega) (nar_b wb_24) wb_r) (by omega) (nar_b wb_16) wb_r) (by omega) (nar_b wb_8) wb_r) (by omega) (nar_b wb_0) wb_r); rw [List.append_assoc, List.append_assoc, List.append_assoc] at z; exact z⟩)
