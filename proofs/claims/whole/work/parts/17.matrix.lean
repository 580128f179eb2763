set_option maxRecDepth 100000 in
set_option maxHeartbeats 4000000 in
theorem sp_Matrix_at {σ : am_G} {k i j : Nat} (hM : isMat k) (hi : i < 2 ^ 31) (hj : j < 2 ^ 31) : am_Call am_TX 0 0 c_Matrix_at [.ref k, .int (nI i), .int (nI j)] (mm σ) (am_Ok (some (.long (gL σ k i j))) (fun σ1 => σ1 = σ)) := by
  refine ⟨mf_Matrix_at, Nat.le_of_ble_eq_true rfl, ?_⟩
  refine R_iload_n rfl rfl ?_
  refine R_nif_lt (x := i) rfl rfl (by omega) (fun h1 => ?_) (fun h1 => ?_)
  · refine R_iconst (v := 0) rfl rfl ?_
    refine R_istore_n rfl (by decide) ?_
    refine R_iload_n rfl rfl ?_
    refine R_if_eq rfl rfl (fun _ => ?_) (fun z => absurd z (by decide))
    refine R_lconst (v := 0) rfl rfl ?_
    exact T_lreturn rfl rfl (am_okl (by unfold gL; rw [if_neg (by omega)]) rfl)
  · refine R_iload_n rfl rfl ?_
    refine R_bipush (v := 6) rfl (by decide) ?_
    refine R_nicmp_ge (x := i) (y := 6) rfl rfl (by omega) (by omega) (fun h2 => ?_) (fun h2 => ?_)
    · refine R_iconst (v := 0) rfl rfl ?_
      refine R_istore_n rfl (by decide) ?_
      refine R_iload_n rfl rfl ?_
      refine R_if_eq rfl rfl (fun _ => ?_) (fun z => absurd z (by decide))
      refine R_lconst (v := 0) rfl rfl ?_
      exact T_lreturn rfl rfl (am_okl (by unfold gL; rw [if_neg (by omega)]) rfl)
    · refine R_iload_n rfl rfl ?_
      refine R_nif_lt (x := j) rfl rfl (by omega) (fun h3 => ?_) (fun h3 => ?_)
      · refine R_iconst (v := 0) rfl rfl ?_
        refine R_istore_n rfl (by decide) ?_
        refine R_iload_n rfl rfl ?_
        refine R_if_eq rfl rfl (fun _ => ?_) (fun z => absurd z (by decide))
        refine R_lconst (v := 0) rfl rfl ?_
        exact T_lreturn rfl rfl (am_okl (by unfold gL; rw [if_neg (by omega)]) rfl)
      · refine R_iload_n rfl rfl ?_
        refine R_bipush (v := 6) rfl (by decide) ?_
        refine R_nicmp_ge (x := j) (y := 6) rfl rfl (by omega) (by omega) (fun h4 => ?_) (fun h4 => ?_)
        · refine R_iconst (v := 0) rfl rfl ?_
          refine R_istore_n rfl (by decide) ?_
          refine R_iload_n rfl rfl ?_
          refine R_if_eq rfl rfl (fun _ => ?_) (fun z => absurd z (by decide))
          refine R_lconst (v := 0) rfl rfl ?_
          exact T_lreturn rfl rfl (am_okl (by unfold gL; rw [if_neg (by omega)]) rfl)
        · refine R_iconst (v := 1) rfl rfl ?_
          refine R_goto rfl rfl ?_
          refine R_istore_n rfl (by decide) ?_
          refine R_iload_n rfl rfl ?_
          refine R_if_eq rfl rfl (fun z => absurd z (by decide)) (fun _ => ?_)
          refine R_aload_n rfl rfl ?_
          refine R_gP (x := (k + 1)) rfl hM.1 fp_4_2 ((am_P_3 (by decide)).trans hM.2.2) ?_
          refine R_iload_n rfl rfl ?_
          refine R_bipush (v := 6) rfl (by decide) ?_
          refine R_imulN (x := i) (y := 6) rfl ?_
          refine R_iload_n rfl rfl ?_
          refine R_iaddN (x := (i * 6)) (y := j) rfl ?_
          refine R_xL (j := i * 6 + j) rfl hM.2.1 rfl (by omega) (by decide) ?_
          refine R_goto rfl rfl ?_
          exact T_lreturn rfl rfl (am_okl (by unfold gL; rw [if_pos (by omega)]) rfl)
