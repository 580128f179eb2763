/-! ===== the model's scan, the method ===== -/
def pSd (a b : Nat) : Prop := a = 120 ∧ 14 ≤ b ∧ b < 18
theorem pSc_d {σ τ : am_G} (q : smP pSc σ τ) : smP pSd σ τ := q.mono (fun a b h => by unfold pSc at h; unfold pSd; omega)
set_option maxRecDepth 100000 in
set_option maxHeartbeats 4000000 in
theorem sp_scan {σ : am_G} {n e : Nat} {B : List Int32} (hB : xM σ n B) (he : e ≤ n) (h14 : σ.1 120 14 = nI e) : am_Call am_TX 2 0 c_M_scan [.ref 120] (mm σ) (am_Ok none (fun σ1 => smP pSd σ σ1 ∧ tmM σ1 B (tkF 9999 B n e))) := by
  have h400 := hB.2.2.1
  refine ⟨mf_M_scan, Nat.le_of_ble_eq_true rfl, ?_⟩
  have hS : nxS B n e ≤ n := nxS_le he
  refine (lp_sc0 (S := (nxS B n e)) hB (fun τ1 q1 e1 => ?_) (by omega) (n - e) e rfl σ (by omega) ⟨smP.refl, h14⟩).weak ⟨rfl, trivial⟩
  refine R_aload_n rfl rfl ?_
  refine R_aload_n rfl rfl ?_
  refine R_gIN (n := (nxS B n e)) rfl rfl fd_11_14 e1 ?_
  refine R_pI rfl rfl fw_11_15 rfl ?_
  refine R_aload_n rfl rfl ?_
  refine R_aload_n rfl rfl ?_
  refine R_gIN (n := (nxS B n e)) rfl rfl fd_11_14 ((sI_o (Or.inr (by decide))).trans e1) ?_
  refine R_cV (as := [.int (nI (nxS B n e))]) rfl rfl iv_M_byteAt (sp_mbyteAt (k := (nxS B n e)) (hB.fr ((pSc_d q1).trans (smP_sI (p := pSd) ⟨rfl, by decide⟩)) ⟨by unfold pSd; omega, fun b => by unfold pSd; omega⟩) (by omega)) (by decide) rfl rfl rfl (by decide) rfl rfl (Nat.le_of_ble_eq_true rfl) (fun _ q => ?_)
  obtain rfl := q.symm
  refine R_istore_n rfl (by decide) ?_
  refine R_iload_n rfl rfl ?_
  refine R_iconst (v := -1) rfl rfl ?_
  refine R_icmp_ne rfl rfl (fun g1 => ?_) (fun g1 => ?_)
  · refine R_iload_n rfl rfl ?_
    refine R_i2l rfl ?_
    refine R_ldc2 (v := 97) rfl (by decide) ?_
    refine R_ldc2 (v := 122) rfl (by decide) ?_
    by_cases g2 : isLb (ibA B (nxS B n e)) = true
    · refine R_cS (as := [.long ((ibA B (nxS B n e)).toInt64), .long 97, .long 122]) rfl rfl iv_M_in ((by have z := sp_in (v := ((ibA B (nxS B n e)).toInt64)) (lo := 97) (hi := 122) (σ := (sI τ1 120 15 (nI (nxS B n e)))); rw [zP_t (in_L.mpr g2)] at z; exact z)) (by decide) rfl rfl rfl rfl (Nat.le_of_ble_eq_true rfl) (fun _ q => ?_)
      obtain rfl := q.symm
      refine R_if_eq rfl rfl (fun z => absurd z (by decide)) (fun _ => ?_)
      refine (lp_sc83 (S := skF isLb B (n - (nxS B n e)) (nxS B n e)) (hB.fr ((pSc_d q1).trans (smP_sI (p := pSd) ⟨rfl, by decide⟩)) ⟨by unfold pSd; omega, fun b => by unfold pSd; omega⟩) (fun τ2 q2 e2 => ?_) (by omega) (n - (nxS B n e)) (nxS B n e) rfl (sI τ1 120 15 (nI (nxS B n e))) (by omega) ⟨smP.refl, (sI_o (Or.inr (by decide))).trans e1⟩).weak ⟨rfl, trivial⟩
      refine R_aload_n rfl rfl ?_
      refine R_iconst (v := 1) rfl rfl ?_
      refine R_pI rfl rfl fw_11_16 rfl ?_
      refine R_goto rfl rfl ?_
      exact T_return rfl rfl (am_okv0 ⟨(((pSc_d q1).trans (smP_sI (p := pSd) ⟨rfl, by decide⟩)).trans (pSc_d q2)).trans (smP_sI ⟨rfl, by decide⟩), by unfold tkF; rw [if_pos (Classical.not_not.mp (fun z => g1 ((xM_m1 hB).mpr z))), if_pos g2]; exact ⟨(sI_o (Or.inr (by decide))).trans e2, (sI_o (Or.inr (by decide))).trans ((q2.i (by unfold pSc; omega)).trans sI_s), sI_s, fun z => absurd (show (1 : Nat) = 2 from z) (by decide), fun z => absurd (show (1 : Nat) = 3 from z) (by decide)⟩⟩)
    · refine R_cS (as := [.long ((ibA B (nxS B n e)).toInt64), .long 97, .long 122]) rfl rfl iv_M_in ((by have z := sp_in (v := ((ibA B (nxS B n e)).toInt64)) (lo := 97) (hi := 122) (σ := (sI τ1 120 15 (nI (nxS B n e)))); rw [zP_f (fun y => g2 (in_L.mp y))] at z; exact z)) (by decide) rfl rfl rfl rfl (Nat.le_of_ble_eq_true rfl) (fun _ q => ?_)
      obtain rfl := q.symm
      refine R_if_eq rfl rfl (fun _ => ?_) (fun z => absurd z (by decide))
      refine R_iload_n rfl rfl ?_
      refine R_i2l rfl ?_
      refine R_ldc2 (v := 48) rfl (by decide) ?_
      refine R_ldc2 (v := 57) rfl (by decide) ?_
      by_cases g3 : isDb (ibA B (nxS B n e)) = true
      · refine R_cS (as := [.long ((ibA B (nxS B n e)).toInt64), .long 48, .long 57]) rfl rfl iv_M_in ((by have z := sp_in (v := ((ibA B (nxS B n e)).toInt64)) (lo := 48) (hi := 57) (σ := (sI τ1 120 15 (nI (nxS B n e)))); rw [zP_t (in_D.mpr g3)] at z; exact z)) (by decide) rfl rfl rfl rfl (Nat.le_of_ble_eq_true rfl) (fun _ q => ?_)
        obtain rfl := q.symm
        refine R_if_eq rfl rfl (fun z => absurd z (by decide)) (fun _ => ?_)
        refine R_aload_n rfl rfl ?_
        refine R_iconst (v := 0) rfl rfl ?_
        refine R_pI rfl rfl fw_11_17 rfl ?_
        refine (lp_sc144 (S := skF isDb B (n - (nxS B n e)) (nxS B n e)) (V := nvF 9999 B (n - (nxS B n e)) (nxS B n e) 0) (hB.fr (((pSc_d q1).trans (smP_sI (p := pSd) ⟨rfl, by decide⟩)).trans (smP_sI (p := pSd) ⟨rfl, by decide⟩)) ⟨by unfold pSd; omega, fun b => by unfold pSd; omega⟩) (fun τ3 q3 e3 v3 => ?_) (by omega) (n - (nxS B n e)) (nxS B n e) 0 rfl rfl (by omega) (sI (sI τ1 120 15 (nI (nxS B n e))) 120 17 0) (by omega) ⟨smP.refl, (sI_o (Or.inr (by decide))).trans ((sI_o (Or.inr (by decide))).trans e1), sI_s⟩).weak ⟨rfl, trivial⟩
        refine R_aload_n rfl rfl ?_
        refine R_iconst (v := 2) rfl rfl ?_
        refine R_pI rfl rfl fw_11_16 rfl ?_
        refine R_goto rfl rfl ?_
        exact T_return rfl rfl (am_okv0 ⟨((((pSc_d q1).trans (smP_sI (p := pSd) ⟨rfl, by decide⟩)).trans (smP_sI (p := pSd) ⟨rfl, by decide⟩)).trans (pSc_d q3)).trans (smP_sI ⟨rfl, by decide⟩), by unfold tkF; rw [if_pos (Classical.not_not.mp (fun z => g1 ((xM_m1 hB).mpr z))), if_neg g2, if_pos g3]; exact ⟨(sI_o (Or.inr (by decide))).trans e3, (sI_o (Or.inr (by decide))).trans ((q3.i (by unfold pSc; omega)).trans ((sI_o (Or.inr (by decide))).trans sI_s)), sI_s, fun _ => (sI_o (Or.inr (by decide))).trans v3, fun z => absurd (show (2 : Nat) = 3 from z) (by decide)⟩⟩)
      · refine R_cS (as := [.long ((ibA B (nxS B n e)).toInt64), .long 48, .long 57]) rfl rfl iv_M_in ((by have z := sp_in (v := ((ibA B (nxS B n e)).toInt64)) (lo := 48) (hi := 57) (σ := (sI τ1 120 15 (nI (nxS B n e)))); rw [zP_f (fun y => g3 (in_D.mp y))] at z; exact z)) (by decide) rfl rfl rfl rfl (Nat.le_of_ble_eq_true rfl) (fun _ q => ?_)
        obtain rfl := q.symm
        refine R_if_eq rfl rfl (fun _ => ?_) (fun z => absurd z (by decide))
        refine R_aload_n rfl rfl ?_
        refine R_iconst (v := 3) rfl rfl ?_
        refine R_pI rfl rfl fw_11_16 rfl ?_
        refine R_aload_n rfl rfl ?_
        refine R_iload_n rfl rfl ?_
        refine R_pI rfl rfl fw_11_17 rfl ?_
        refine R_aload_n rfl rfl ?_
        refine R_dup rfl rfl ?_
        refine R_gIN (n := (nxS B n e)) rfl rfl fd_11_14 ((sI_o (Or.inr (by decide))).trans ((sI_o (Or.inr (by decide))).trans ((sI_o (Or.inr (by decide))).trans e1))) ?_
        refine R_iconst (v := 1) rfl rfl ?_
        refine R_iaddN (x := (nxS B n e)) (y := 1) rfl ?_
        refine R_pI rfl rfl fw_11_14 rfl ?_
        exact T_return rfl rfl (am_okv0 ⟨((((pSc_d q1).trans (smP_sI (p := pSd) ⟨rfl, by decide⟩)).trans (smP_sI ⟨rfl, by decide⟩)).trans (smP_sI ⟨rfl, by decide⟩)).trans (smP_sI ⟨rfl, by decide⟩), by unfold tkF; rw [if_pos (Classical.not_not.mp (fun z => g1 ((xM_m1 hB).mpr z))), if_neg g2, if_neg g3]; exact ⟨sI_s, (sI_o (Or.inr (by decide))).trans ((sI_o (Or.inr (by decide))).trans ((sI_o (Or.inr (by decide))).trans sI_s)), (sI_o (Or.inr (by decide))).trans ((sI_o (Or.inr (by decide))).trans sI_s), fun z => absurd (show (3 : Nat) = 2 from z) (by decide), fun _ => (sI_o (Or.inr (by decide))).trans sI_s⟩⟩)
  · refine R_aload_n rfl rfl ?_
    refine R_iconst (v := 0) rfl rfl ?_
    refine R_pI rfl rfl fw_11_16 rfl ?_
    refine R_goto rfl rfl ?_
    exact T_return rfl rfl (am_okv0 ⟨((pSc_d q1).trans (smP_sI (p := pSd) ⟨rfl, by decide⟩)).trans (smP_sI ⟨rfl, by decide⟩), by unfold tkF; rw [if_neg ((xM_m1 hB).mp g1)]; exact ⟨(sI_o (Or.inr (by decide))).trans ((sI_o (Or.inr (by decide))).trans e1), (sI_o (Or.inr (by decide))).trans sI_s, sI_s, fun z => absurd (show (0 : Nat) = 2 from z) (by decide), fun z => absurd (show (0 : Nat) = 3 from z) (by decide)⟩⟩)
