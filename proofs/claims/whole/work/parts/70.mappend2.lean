/-! ===== the model appends ===== -/
set_option maxRecDepth 100000 in
set_option maxHeartbeats 4000000 in
theorem sp_M_append {σ : am_G} {n : Nat} {B : List Int32} {a b c d e : Int32} (h : iM σ n B) (hl : n + 20 ≤ 400) : am_Call am_TX 3 0 c_M_append [.ref 120, .int a, .int b, .int c, .int d, .int e] (mm σ) (am_Ok (some (.int (nI (n + 20)))) (fun σ1 => smP (fun a b => (a = 120 ∧ (b = 0 ∨ b = 12)) ∨ a = 126) σ σ1 ∧ σ1.1 120 0 = 0 ∧ iM σ1 (n + 20) (B ++ apL a b c d e))) := by
  refine ⟨mf_M_append, Nat.le_of_ble_eq_true rfl, ?_⟩
  refine R_aload_n rfl rfl ?_
  refine R_aload_n rfl rfl ?_
  refine R_gIN (n := n) rfl rfl fd_11_12 h.2.1 ?_
  refine R_bipush (v := 20) rfl (by decide) ?_
  refine R_iaddN (x := n) (y := 20) rfl ?_
  refine R_sipush (v := 400) rfl (by decide) ?_
  refine R_nicmp_gt (x := (n + 20)) (y := 400) rfl rfl (by omega) (by omega) (fun z => by omega) (fun h1 => ?_)
  refine R_iconst (v := 1) rfl rfl ?_
  refine R_goto rfl rfl ?_
  refine R_cV (as := [.int 1]) rfl rfl iv_M_passes (pass_1) (by decide) rfl rfl rfl (by decide) rfl rfl (Nat.le_of_ble_eq_true rfl) (fun _ q => ?_)
  obtain rfl := q.symm
  refine R_if_ne rfl rfl (fun _ => ?_) (fun z => absurd z (by decide))
  refine R_aload_n rfl rfl ?_
  refine R_iload_n rfl rfl ?_
  refine R_cV (as := [.int a]) rfl rfl iv_M_appendFour (sp_mappendFour (x := a) (h.fr (smP_sI (p := fun a b => a = 120 ∧ b = 0) ⟨rfl, rfl⟩) ⟨by omega, fun b => by omega⟩) (by omega)) (by decide) rfl rfl rfl (by decide) rfl rfl (Nat.le_of_ble_eq_true rfl) (fun τ1 hτ1 => ?_)
  obtain ⟨pτ1, oτ1⟩ := hτ1
  refine R_aload_n rfl rfl ?_
  refine R_iload_n rfl rfl ?_
  refine R_cV (as := [.int b]) rfl rfl iv_M_appendFour (sp_mappendFour (x := b) oτ1 (by omega)) (by decide) rfl rfl rfl (by decide) rfl rfl (Nat.le_of_ble_eq_true rfl) (fun τ2 hτ2 => ?_)
  obtain ⟨pτ2, oτ2⟩ := hτ2
  refine R_aload_n rfl rfl ?_
  refine R_iload_n rfl rfl ?_
  refine R_cV (as := [.int c]) rfl rfl iv_M_appendFour (sp_mappendFour (x := c) oτ2 (by omega)) (by decide) rfl rfl rfl (by decide) rfl rfl (Nat.le_of_ble_eq_true rfl) (fun τ3 hτ3 => ?_)
  obtain ⟨pτ3, oτ3⟩ := hτ3
  refine R_aload_n rfl rfl ?_
  refine R_iload rfl rfl ?_
  refine R_cV (as := [.int d]) rfl rfl iv_M_appendFour (sp_mappendFour (x := d) oτ3 (by omega)) (by decide) rfl rfl rfl (by decide) rfl rfl (Nat.le_of_ble_eq_true rfl) (fun τ4 hτ4 => ?_)
  obtain ⟨pτ4, oτ4⟩ := hτ4
  refine R_aload_n rfl rfl ?_
  refine R_iload rfl rfl ?_
  refine R_cV (as := [.int e]) rfl rfl iv_M_appendFour (sp_mappendFour (x := e) oτ4 (by omega)) (by decide) rfl rfl rfl (by decide) rfl rfl (Nat.le_of_ble_eq_true rfl) (fun τ5 hτ5 => ?_)
  obtain ⟨pτ5, oτ5⟩ := hτ5
  refine R_aload_n rfl rfl ?_
  refine R_gIN (n := n + 4 + 4 + 4 + 4 + 4) rfl rfl fd_11_12 oτ5.2.1 ?_
  exact T_ireturn rfl rfl (am_oki rfl ⟨(smP_sI (Or.inl ⟨rfl, Or.inl rfl⟩)).trans ((((((pτ1.trans pτ2).trans pτ3).trans pτ4).trans pτ5)).mono (fun a b => by unfold pIm; omega)), ((((((pτ1.trans pτ2).trans pτ3).trans pτ4).trans pτ5)).i (by unfold pIm; omega)).trans sI_s, by have o := oτ5; unfold apL; simp only [List.append_assoc] at o ⊢; exact o⟩)
set_option maxRecDepth 100000 in
set_option maxHeartbeats 4000000 in
theorem sp_M_append_x {σ : am_G} {n : Nat} {B : List Int32} {a b c d e : Int32} (h : iM σ n B) (hl : ¬ n + 20 ≤ 400) : am_Call am_TX 3 0 c_M_append [.ref 120, .int a, .int b, .int c, .int d, .int e] (mm σ) (am_Ok (some (.int 0)) (fun σ1 => σ1 = sI σ 120 0 1)) := by
  have h400 := h.2.2.1
  refine ⟨mf_M_append, Nat.le_of_ble_eq_true rfl, ?_⟩
  refine R_aload_n rfl rfl ?_
  refine R_aload_n rfl rfl ?_
  refine R_gIN (n := n) rfl rfl fd_11_12 h.2.1 ?_
  refine R_bipush (v := 20) rfl (by decide) ?_
  refine R_iaddN (x := n) (y := 20) rfl ?_
  refine R_sipush (v := 400) rfl (by decide) ?_
  refine R_nicmp_gt (x := (n + 20)) (y := 400) rfl rfl (by omega) (by omega) (fun h1 => ?_) (fun z => by omega)
  refine R_iconst (v := 0) rfl rfl ?_
  refine R_cV (as := [.int 0]) rfl rfl iv_M_passes (pass_0) (by decide) rfl rfl rfl (by decide) rfl rfl (Nat.le_of_ble_eq_true rfl) (fun _ q => ?_)
  obtain rfl := q.symm
  refine R_if_ne rfl rfl (fun z => absurd z (by decide)) (fun _ => ?_)
  refine R_iconst (v := 0) rfl rfl ?_
  exact T_ireturn rfl rfl (am_oki rfl rfl)
