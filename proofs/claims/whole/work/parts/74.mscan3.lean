/-! ===== the model's scan, numbers ===== -/
theorem sp_min9 {σ : am_G} {y : Nat} (hy : y < 2 ^ 31) : am_Call am_TX 0 0 c_JMath_min [.int 9999, .int (nI y)] (mm σ) (am_Ok (some (.int (nI (min y 9999)))) (fun σ1 => σ1 = σ)) := by
  have z := sp_minI (σ := σ) (x := 9999) (y := y) (by omega) hy
  rw [Nat.min_comm] at z
  exact z
set_option maxRecDepth 100000 in
set_option maxHeartbeats 4000000 in
theorem lp_sc144 {σ : am_G} {n S V : Nat} {B : List Int32} {d k0 : Nat} {Q : am_Res → Prop} (hB : xM σ n B) (hx : ∀ τ, smP pSc σ τ → τ.1 120 14 = nI S → τ.1 120 17 = nI V → am_R am_TX d k0 c_M_scan 207 [some (.ref 120), none] [] (mm τ) Q) (hd : 1 ≤ d) : ∀ (uu i a : Nat) (he : skF isDb B uu i = S) (hV : nvF 9999 B uu i a = V) (hA : a ≤ 9999) (τ : am_G), i + uu = n → (smP pSc σ τ ∧ τ.1 120 14 = nI i ∧ τ.1 120 17 = nI a) → am_R am_TX d k0 c_M_scan 144 [some (.ref 120), none] [] (mm τ) Q := by
  have h400 := hB.2.2.1
  intro uu
  induction uu with
  | zero =>
    intro i a he hV hA τ hi hI
    obtain rfl : n = i := by omega
    refine R_aload_n rfl rfl ?_
    refine R_aload_n rfl rfl ?_
    refine R_gIN (n := n) rfl rfl fd_11_14 hI.2.1 ?_
    refine R_cV (as := [.int (nI n)]) rfl rfl iv_M_byteAt ((by have z := sp_mbyteAt (k := n) (hB.fr hI.1 ⟨by unfold pSc; omega, fun b => by unfold pSc; omega⟩) (by omega); rw [ibA_o hB.1 (by omega)] at z; exact z)) (by omega) rfl rfl rfl (by decide) rfl rfl (Nat.le_of_ble_eq_true rfl) (fun _ q => ?_)
    obtain rfl := q.symm
    refine R_i2l rfl ?_
    refine R_ldc2 (v := 48) rfl (by decide) ?_
    refine R_ldc2 (v := 57) rfl (by decide) ?_
    refine R_cS (as := [.long ((-1 : Int32).toInt64), .long 48, .long 57]) rfl rfl iv_M_in ((by have z := sp_in (v := ((-1 : Int32).toInt64)) (lo := 48) (hi := 57) (σ := τ); rw [zP_f (fun y => absurd (in_D.mp y) (by decide))] at z; exact z)) (by omega) rfl rfl rfl rfl (Nat.le_of_ble_eq_true rfl) (fun _ q => ?_)
    obtain rfl := q.symm
    refine R_if_eq rfl rfl (fun _ => ?_) (fun z => absurd z (by decide))
    rw [show S = n from he.symm, show V = a from hV.symm] at hx
    exact (hx τ hI.1 hI.2.1 hI.2.2).weak ⟨rfl, trivial⟩
  | succ uu ih =>
    intro i a he hV hA τ hi hI
    refine R_aload_n rfl rfl ?_
    refine R_aload_n rfl rfl ?_
    refine R_gIN (n := i) rfl rfl fd_11_14 hI.2.1 ?_
    refine R_cV (as := [.int (nI i)]) rfl rfl iv_M_byteAt (sp_mbyteAt (k := i) (hB.fr hI.1 ⟨by unfold pSc; omega, fun b => by unfold pSc; omega⟩) (by omega)) (by omega) rfl rfl rfl (by decide) rfl rfl (Nat.le_of_ble_eq_true rfl) (fun _ q => ?_)
    obtain rfl := q.symm
    refine R_i2l rfl ?_
    refine R_ldc2 (v := 48) rfl (by decide) ?_
    refine R_ldc2 (v := 57) rfl (by decide) ?_
    by_cases h1 : isDb (ibA B i) = true
    · refine R_cS (as := [.long ((ibA B i).toInt64), .long 48, .long 57]) rfl rfl iv_M_in ((by have z := sp_in (v := ((ibA B i).toInt64)) (lo := 48) (hi := 57) (σ := τ); rw [zP_t (in_D.mpr h1)] at z; exact z)) (by omega) rfl rfl rfl rfl (Nat.le_of_ble_eq_true rfl) (fun _ q => ?_)
      obtain rfl := q.symm
      refine R_if_eq rfl rfl (fun z => absurd z (by decide)) (fun _ => ?_)
      refine R_aload_n rfl rfl ?_
      refine R_sipush (v := 9999) rfl (by decide) ?_
      refine R_bipush (v := 10) rfl (by decide) ?_
      refine R_aload_n rfl rfl ?_
      refine R_gIN (n := a) rfl rfl fd_11_17 hI.2.2 ?_
      refine R_imulN (x := 10) (y := a) rfl ?_
      refine R_aload_n rfl rfl ?_
      refine R_aload_n rfl rfl ?_
      refine R_gIN (n := i) rfl rfl fd_11_14 hI.2.1 ?_
      refine R_cV (as := [.int (nI i)]) rfl rfl iv_M_byteAt ((by have z := sp_mbyteAt (k := i) (hB.fr hI.1 ⟨by unfold pSc; omega, fun b => by unfold pSc; omega⟩) (by omega); rw [(dgv_b h1).1] at z; exact z)) (by omega) rfl rfl rfl (by decide) rfl rfl (Nat.le_of_ble_eq_true rfl) (fun _ q => ?_)
      obtain rfl := q.symm
      have hd9 := (dgv_b h1).2
      refine R_iaddN (x := (10 * a)) (y := (48 + dgv (ibA B i))) rfl ?_
      refine R_bipush (v := 48) rfl (by decide) ?_
      refine R_isubN (x := ((10 * a) + (48 + dgv (ibA B i)))) (y := 48) rfl (by omega) ?_
      refine R_cS (as := [.int 9999, .int (nI (((10 * a) + (48 + dgv (ibA B i))) - 48))]) rfl rfl iv_JMath_min (sp_min9 (y := (((10 * a) + (48 + dgv (ibA B i))) - 48)) (by omega)) (by omega) rfl rfl rfl rfl (Nat.le_of_ble_eq_true rfl) (fun _ q => ?_)
      obtain rfl := q.symm
      refine R_pI rfl rfl fw_11_17 rfl ?_
      refine R_aload_n rfl rfl ?_
      refine R_dup rfl rfl ?_
      refine R_gIN (n := i) rfl rfl fd_11_14 ((sI_o (Or.inr (by decide))).trans hI.2.1) ?_
      refine R_iconst (v := 1) rfl rfl ?_
      refine R_iaddN (x := i) (y := 1) rfl ?_
      refine R_pI rfl rfl fw_11_14 rfl ?_
      refine R_goto rfl rfl ?_
      exact (ih (i + 1) (min ((10 * a + (48 + dgv (ibA B i))) - 48) 9999) (by rw [← he]; simp only [skF]; exact (if_pos h1).symm) (by rw [← hV]; simp only [nvF]; rw [if_pos h1, show 10 * a + (48 + dgv (ibA B i)) - 48 = a * 10 + dgv (ibA B i) by omega]) (by omega) (sI (sI τ 120 17 (nI (min (((10 * a) + (48 + dgv (ibA B i))) - 48) 9999))) 120 14 (nI (i + 1))) (by omega) ⟨(hI.1.trans (smP_sI ⟨rfl, by decide⟩)).trans (smP_sI ⟨rfl, by decide⟩), sI_s, (sI_o (Or.inr (by decide))).trans sI_s⟩).weak ⟨rfl, trivial⟩
    · refine R_cS (as := [.long ((ibA B i).toInt64), .long 48, .long 57]) rfl rfl iv_M_in ((by have z := sp_in (v := ((ibA B i).toInt64)) (lo := 48) (hi := 57) (σ := τ); rw [zP_f (fun y => h1 (in_D.mp y))] at z; exact z)) (by omega) rfl rfl rfl rfl (Nat.le_of_ble_eq_true rfl) (fun _ q => ?_)
      obtain rfl := q.symm
      refine R_if_eq rfl rfl (fun _ => ?_) (fun z => absurd z (by decide))
      rw [show S = i from by rw [← he]; simp only [skF]; exact if_neg h1, show V = a from by rw [← hV]; simp only [nvF]; exact if_neg h1] at hx
      exact (hx τ hI.1 hI.2.1 hI.2.2).weak ⟨rfl, trivial⟩
