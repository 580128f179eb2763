set_option maxRecDepth 100000 in
set_option maxHeartbeats 4000000 in
theorem sp_D_errorCode {σ : am_G} : am_Call am_TX 0 0 c_D_errorCode [.ref 0] (mm σ) (am_Ok (some (.int (σ.1 13 1))) (fun σ1 => σ1 = σ)) := by
  refine ⟨mf_D_errorCode, Nat.le_of_ble_eq_true rfl, ?_⟩
  refine R_aload_n rfl rfl ?_
  refine R_gP (x := 13) rfl rfl fp_10_2 rfl ?_
  refine R_gI rfl rfl fd_6_1 ?_
  exact T_ireturn rfl rfl (am_oki rfl rfl)
set_option maxRecDepth 100000 in
set_option maxHeartbeats 4000000 in
theorem sp_D_errorPosition {σ : am_G} : am_Call am_TX 0 0 c_D_errorPosition [.ref 0] (mm σ) (am_Ok (some (.int (σ.1 13 2))) (fun σ1 => σ1 = σ)) := by
  refine ⟨mf_D_errorPosition, Nat.le_of_ble_eq_true rfl, ?_⟩
  refine R_aload_n rfl rfl ?_
  refine R_gP (x := 13) rfl rfl fp_10_2 rfl ?_
  refine R_gI rfl rfl fd_6_2 ?_
  exact T_ireturn rfl rfl (am_oki rfl rfl)

