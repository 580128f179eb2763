def sdf (a b : Nat) : Nat := a &&& (63 ^^^ b)
theorem sdf_raw : ∀ a : Nat, a < 64 → ∀ b : Nat, b < 64 → nI a &&& (nI b ^^^ (-1)) = nI (sdf a b) := by decide +kernel
set_option maxRecDepth 100000 in
set_option maxHeartbeats 4000000 in
theorem sp_D_extensions {σ : am_G} {h w rh pn : Nat} {f v rl : am_Gr} {I : Nat → Int32} {m : Nat} {S : Nat} (hv : vS σ 26 h w f v rh rl pn I) (hmd : m ∈ mdL) (hS : S < 2 ^ h) (hfree : frB f m h w S = true) : am_Call am_TX 8 0 c_D_extensions [.ref 0, .int (nI m), .int (nI S)] (mm σ) (am_Ok (some (.int (nI (sdf (2 ^ h - 1) (spN f m h w S h))))) (fun σ1 => smP (plc 17 26) σ σ1)) := by
  have hh6 := hv.1.1.2
  have hw6 := hv.1.2.1.2
  have hr6 := hv.2.2.1.1.2
  have hp6 := hv.2.2.2.1.2
  have hm97 := md_97 hmd
  have hS6 := p2_64 hS hh6
  refine ⟨mf_D_extensions, Nat.le_of_ble_eq_true rfl, ?_⟩
  refine R_aload_n rfl rfl ?_
  refine R_iload_n rfl rfl ?_
  refine R_cV (as := [.int (nI m)]) rfl rfl iv_D_requireModulus (sp_requireModulus (m := m) hmd) (by decide) rfl rfl rfl (by decide) rfl rfl (Nat.le_of_ble_eq_true rfl) (fun _ q => ?_)
  obtain rfl := q.symm
  refine R_aload_n rfl rfl ?_
  refine R_iload_n rfl rfl ?_
  refine R_cV (as := [.int (nI S)]) rfl rfl iv_D_requireRowSet (sp_requireRowSet hv (msk_ok hv.1.1.2 hS)) (by decide) rfl rfl rfl (by decide) rfl rfl (Nat.le_of_ble_eq_true rfl) (fun _ q => ?_)
  obtain rfl := q.symm
  refine R_aload_n rfl rfl ?_
  refine R_gP (x := 24) rfl rfl fp_10_5 rfl ?_
  refine R_aload_n rfl rfl ?_
  refine R_gP (x := 26) rfl rfl fp_10_6 rfl ?_
  refine R_gP (x := 27) rfl rfl fp_9_0 rfl ?_
  refine R_iload_n rfl rfl ?_
  refine R_iload_n rfl rfl ?_
  refine R_cV (as := [.ref 27, .int (nI m), .int (nI S)]) rfl rfl iv_RowSets_isFree (sp_isFree (m := m) (S := S) im27 (by omega) hv.1 (by omega) (by first | assumption | exact lw_lt (by omega) | exact wi_lt (by first | assumption | omega) (by omega) | exact wo_lt (by first | assumption | omega) (by omega) | omega)) (by decide) rfl rfl rfl (by decide) rfl rfl (Nat.le_of_ble_eq_true rfl) (fun σ3 hσ3 => ?_)
  refine R_if_ne rfl rfl (fun h1 => ?_) (fun z => absurd hfree (zP_0 z))
  refine R_aload_n rfl rfl ?_
  refine R_gP (x := 26) rfl rfl fp_10_6 rfl ?_
  refine R_gP (x := 27) rfl rfl fp_9_0 rfl ?_
  refine R_cV (as := []) rfl rfl iv_Matrix_allRows (sp_Matrix_allRows im27 ((hσ3.mono (q := plc 17 26) (fun a b => by unfold plc; omega)).vM hv.1 (fun b => by unfold plc; omega) (fun b => by unfold plc; omega)).1.1 ((hσ3.mono (q := plc 17 26) (fun a b => by unfold plc; omega)).vM hv.1 (fun b => by unfold plc; omega) (fun b => by unfold plc; omega)).1.2) (by decide) rfl rfl rfl (by decide) rfl rfl (Nat.le_of_ble_eq_true rfl) (fun _ q => ?_)
  obtain rfl := q.symm
  refine R_aload_n rfl rfl ?_
  refine R_gP (x := 24) rfl rfl fp_10_5 rfl ?_
  refine R_aload_n rfl rfl ?_
  refine R_gP (x := 26) rfl rfl fp_10_6 rfl ?_
  refine R_gP (x := 27) rfl rfl fp_9_0 rfl ?_
  refine R_iload_n rfl rfl ?_
  refine R_iload_n rfl rfl ?_
  refine R_cV (as := [.ref 27, .int (nI m), .int (nI S)]) rfl rfl iv_RowSets_span (sp_span (m := m) (S := S) im27 (by omega) ((hσ3.mono (q := plc 17 26) (fun a b => by unfold plc; omega)).vM hv.1 (fun b => by unfold plc; omega) (fun b => by unfold plc; omega)) (by omega) (by first | assumption | exact lw_lt (by omega) | exact wi_lt (by first | assumption | omega) (by omega) | exact wo_lt (by first | assumption | omega) (by omega) | omega)) (by decide) rfl rfl rfl (by decide) rfl rfl (Nat.le_of_ble_eq_true rfl) (fun σ6 hσ6 => ?_)
  refine R_iconst (v := -1) rfl rfl ?_
  refine R_ixor rfl ?_
  refine R_iand rfl ?_
  rw [sdf_raw _ (lw_lt hh6) _ (spN_lt h hh6)]
  exact T_ireturn rfl rfl (am_oki rfl ((hσ3.mono (q := plc 17 26) (fun a b => by unfold plc; omega)).trans (hσ6.mono (q := plc 17 26) (fun a b => by unfold plc; omega))))
