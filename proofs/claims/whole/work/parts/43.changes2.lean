/-! ===== slots, undo, probes, certificates made ===== -/
theorem isState_99 : isState 99 := ⟨rfl, ⟨rfl, rfl, rfl⟩, rfl, rfl, ⟨rfl, rfl, rfl⟩, ⟨rfl, rfl, rfl⟩, rfl, rfl, rfl, rfl, rfl, rfl, rfl⟩
theorem isState_109 : isState 109 := ⟨rfl, ⟨rfl, rfl, rfl⟩, rfl, rfl, ⟨rfl, rfl, rfl⟩, ⟨rfl, rfl, rfl⟩, rfl, rfl, rfl, rfl, rfl, rfl, rfl⟩
def pKe (i a b : Nat) : Prop := (17 ≤ a ∧ a < 26) ∨ (99 + 10 * i ≤ a ∧ a < 109 + 10 * i) ∨ (a = 119 ∧ b = i)
set_option maxRecDepth 100000 in
set_option maxHeartbeats 4000000 in
theorem sp_stateOfSlot_0 {σ : am_G} : am_Call am_TX 0 0 c_D_stateOfSlot [.ref 0, .int 0] (mm σ) (am_Ok (some (.ref 99)) (fun σ1 => σ1 = σ)) := by
  refine ⟨mf_D_stateOfSlot, Nat.le_of_ble_eq_true rfl, ?_⟩
  refine R_iload_n rfl rfl ?_
  refine R_if_ne rfl rfl (fun z => absurd z (by decide)) (fun _ => ?_)
  refine R_aload_n rfl rfl ?_
  refine R_gP (x := 99) rfl rfl fp_10_9 rfl ?_
  refine R_goto rfl rfl ?_
  exact T_areturn rfl rfl (am_okr rfl rfl)
set_option maxRecDepth 100000 in
set_option maxHeartbeats 4000000 in
theorem sp_D_keep_0 {σ : am_G} {h w rh pn : Nat} {f v rl : am_Gr} {I : Nat → Int32} (hv : vS σ 26 h w f v rh rl pn I) : am_Call am_TX 6 0 c_D_keep [.ref 0, .int 0] (mm σ) (am_Ok (some (.int (nI (rkO f 0 (2 ^ h - 1) (2 ^ w - 1) h w)))) (fun σ1 => smP (pKe 0) σ σ1 ∧ cS σ1 99 (h, w, f, v, rh, rl, pn, I) ∧ σ1.1 119 0 = 1)) := by
  have hh6 := hv.1.1.2
  have hw6 := hv.1.2.1.2
  have hr6 := hv.2.2.1.1.2
  have hp6 := hv.2.2.2.1.2
  refine ⟨mf_D_keep, Nat.le_of_ble_eq_true rfl, ?_⟩
  refine R_aload_n rfl rfl ?_
  refine R_iload_n rfl rfl ?_
  refine R_cV (as := [.int 0]) rfl rfl iv_D_requireSlot (sp_requireSlot (r := 0) (by decide)) (by decide) rfl rfl rfl (by decide) rfl rfl (Nat.le_of_ble_eq_true rfl) (fun _ q => ?_)
  obtain rfl := q.symm
  refine R_aload_n rfl rfl ?_
  refine R_iload_n rfl rfl ?_
  refine R_cV (as := [.int 0]) rfl rfl iv_D_stateOfSlot (sp_stateOfSlot_0) (by decide) rfl rfl rfl (by decide) rfl rfl (Nat.le_of_ble_eq_true rfl) (fun _ q => ?_)
  obtain rfl := q.symm
  refine R_aload_n rfl rfl ?_
  refine R_gP (x := 26) rfl rfl fp_10_6 rfl ?_
  refine R_cV (as := [.ref 26]) rfl rfl iv_State_copyFrom (sp_State_copyFrom isState_99 isState_26 (Or.inr (by omega)) hv) (by decide) rfl rfl rfl (by decide) rfl rfl (Nat.le_of_ble_eq_true rfl) (fun _ q => ?_)
  obtain rfl := q.symm
  refine R_aload_n rfl rfl ?_
  refine R_gP (x := 119) rfl rfl fp_10_11 rfl ?_
  refine R_iload_n rfl rfl ?_
  refine R_iconst (v := 1) rfl rfl ?_
  refine R_wZ (j := 0) rfl rfl rfl (by decide) (by decide) ?_
  refine R_aload_n rfl rfl ?_
  refine R_gP (x := 16) rfl rfl fp_10_4 rfl ?_
  refine R_aload_n rfl rfl ?_
  refine R_gP (x := 26) rfl rfl fp_10_6 rfl ?_
  refine R_gP (x := 27) rfl rfl fp_9_0 rfl ?_
  refine R_iconst (v := 0) rfl rfl ?_
  refine R_cV (as := [.ref 27, .int 0]) rfl rfl iv_Reckoner_fullRank (sp_fullRank (m := 0) im27 (by omega) (((putS_fr (p := pKe 0) (s := 99) (σ := σ) (h := h) (w := w) (f := f) (v := v) (rh := rh) (rl := rl) (pn := pn) (I := I) (fun a b _ _ => by unfold pKe; omega)).trans (smP_sI (p := pKe 0) (k := 119) (j := 0) (x := vp_nar .boolean 1) (by unfold pKe; omega))).vM hv.1 (fun b => by unfold pKe; omega) (fun b => by unfold pKe; omega)) (by omega)) (by decide) rfl rfl rfl (by decide) rfl rfl (Nat.le_of_ble_eq_true rfl) (fun σ1 hσ1 => ?_)
  refine T_ireturn rfl rfl (am_oki rfl ⟨((putS_fr (p := pKe 0) (s := 99) (σ := σ) (h := h) (w := w) (f := f) (v := v) (rh := rh) (rl := rl) (pn := pn) (I := I) (fun a b _ _ => by unfold pKe; omega)).trans (smP_sI (p := pKe 0) (k := 119) (j := 0) (x := vp_nar .boolean 1) (by unfold pKe; omega))).trans (hσ1.mono (fun a b => by unfold plc pKe; omega)), ?_, ?_⟩)
  · refine hσ1.vS (σ := sI (putS σ 99 h w f v rh rl pn I) 119 0 (vp_nar .boolean 1)) ?_ (fun a b _ _ => by unfold plc; omega)
    exact (smP_sI (p := plc 119 120) (k := 119) (j := 0) (x := vp_nar .boolean 1) (by unfold plc; omega)).vS (vS_putS hh6 hw6 hr6 hp6) (fun a b _ _ => by unfold plc; omega)
  · rw [hσ1.i (by unfold plc; omega), sI_s]; rfl
set_option maxRecDepth 100000 in
set_option maxHeartbeats 4000000 in
theorem sp_D_restore_0 {σ : am_G} {h w rh pn : Nat} {f v rl : am_Gr} {I : Nat → Int32} {n : Nat} {Hs : Nat → am_Sn} {h2 w2 rh2 pn2 : Nat} {f2 v2 rl2 : am_Gr} {I2 : Nat → Int32} (hv : vS σ 26 h w f v rh rl pn I) (hH : cH σ n Hs) (hk : vS σ 99 h2 w2 f2 v2 rh2 rl2 pn2 I2) (h1 : σ.1 119 0 = 1) : am_Call am_TX 8 0 c_D_restore [.ref 0, .int 0] (mm σ) (am_Ok (some (.int (nI (rkO f2 0 (2 ^ h2 - 1) (2 ^ w2 - 1) h2 w2)))) (fun σ1 => smP (plc 17 99) σ σ1 ∧ cS σ1 26 (h2, w2, f2, v2, rh2, rl2, pn2, I2) ∧ cH σ1 (nxZ n) (hC (h, w, f, v, rh, rl, pn, I) Hs))) := by
  have hh6 := hv.1.1.2
  have hw6 := hv.1.2.1.2
  have hr6 := hv.2.2.1.1.2
  have hp6 := hv.2.2.2.1.2
  have k1 := hk.1.1.2
  have k2 := hk.1.2.1.2
  refine ⟨mf_D_restore, Nat.le_of_ble_eq_true rfl, ?_⟩
  refine R_aload_n rfl rfl ?_
  refine R_iload_n rfl rfl ?_
  refine R_cV (as := [.int 0]) rfl rfl iv_D_requireSlot (sp_requireSlot (r := 0) (by decide)) (by decide) rfl rfl rfl (by decide) rfl rfl (Nat.le_of_ble_eq_true rfl) (fun _ q => ?_)
  obtain rfl := q.symm
  refine R_aload_n rfl rfl ?_
  refine R_gP (x := 119) rfl rfl fp_10_11 rfl ?_
  refine R_iload_n rfl rfl ?_
  refine R_xZ (j := 0) rfl rfl rfl (by decide) (by decide) ?_
  rw [show σ.1 119 0 = 1 from h1]
  refine R_if_ne rfl rfl (fun _ => ?_) (fun z => absurd z (by decide))
  refine R_aload_n rfl rfl ?_
  refine R_gP (x := 37) rfl rfl fp_10_8 rfl ?_
  refine R_aload_n rfl rfl ?_
  refine R_gP (x := 26) rfl rfl fp_10_6 rfl ?_
  refine R_cV (as := [.ref 26]) rfl rfl iv_History_push (sp_pushV (D := (h, w, f, v, rh, rl, pn, I)) hv hH) (by decide) rfl rfl rfl (by decide) rfl rfl (Nat.le_of_ble_eq_true rfl) (fun ρ hρ => ?_)
  obtain ⟨q1, q2⟩ := hρ
  have hv1 : vS ρ 26 h w f v rh rl pn I := q1.vS hv (fun a b _ _ => by unfold plc; omega)
  refine R_aload_n rfl rfl ?_
  refine R_gP (x := 26) rfl rfl fp_10_6 rfl ?_
  refine R_aload_n rfl rfl ?_
  refine R_iload_n rfl rfl ?_
  refine R_cV (as := [.int 0]) rfl rfl iv_D_stateOfSlot (sp_stateOfSlot_0) (by decide) rfl rfl rfl (by decide) rfl rfl (Nat.le_of_ble_eq_true rfl) (fun _ q => ?_)
  obtain rfl := q.symm
  refine R_cV (as := [.ref 99]) rfl rfl iv_State_copyFrom (sp_State_copyFrom isState_26 isState_99 (Or.inl (by omega)) (q1.vS hk (fun a b _ _ => by unfold plc; omega))) (by decide) rfl rfl rfl (by decide) rfl rfl (Nat.le_of_ble_eq_true rfl) (fun _ q => ?_)
  obtain rfl := q.symm
  have hv2 : vS (putS ρ 26 h2 w2 f2 v2 rh2 rl2 pn2 I2) 26 h2 w2 f2 v2 rh2 rl2 pn2 I2 := vS_putS hk.1.1.2 hk.1.2.1.2 hk.2.2.1.1.2 hk.2.2.2.1.2
  refine R_aload_n rfl rfl ?_
  refine R_gP (x := 16) rfl rfl fp_10_4 rfl ?_
  refine R_aload_n rfl rfl ?_
  refine R_gP (x := 26) rfl rfl fp_10_6 rfl ?_
  refine R_gP (x := 27) rfl rfl fp_9_0 rfl ?_
  refine R_iconst (v := 0) rfl rfl ?_
  refine R_cV (as := [.ref 27, .int 0]) rfl rfl iv_Reckoner_fullRank (sp_fullRank (m := 0) im27 (by omega) hv2.1 (by omega)) (by decide) rfl rfl rfl (by decide) rfl rfl (Nat.le_of_ble_eq_true rfl) (fun σ5 hσ5 => ?_)
  exact T_ireturn rfl rfl (am_oki rfl (chg_end q1 q2 (putS_fr (p := plc 26 37) (s := 26) (σ := ρ) (h := h2) (w := w2) (f := f2) (v := v2) (rh := rh2) (rl := rl2) (pn := pn2) (I := I2) (fun a b _ _ => by unfold plc; omega)) hv2 (hσ5.mono (q := plc 17 26) (fun a b => by unfold plc; omega))))
set_option maxRecDepth 100000 in
set_option maxHeartbeats 4000000 in
theorem sp_D_restore_0_x {σ : am_G} {h w rh pn : Nat} {f v rl : am_Gr} {I : Nat → Int32} (hv : vS σ 26 h w f v rh rl pn I) (h1 : σ.1 119 0 = 0) : am_Call am_TX 8 1 c_D_restore [.ref 0, .int 0] (mm σ) (am_ThP "java/lang/IllegalStateException" (fun σ1 => smP (plc 17 26) σ σ1)) := by
  have hh6 := hv.1.1.2
  have hw6 := hv.1.2.1.2
  have hr6 := hv.2.2.1.1.2
  have hp6 := hv.2.2.2.1.2
  refine ⟨mf_D_restore, Nat.le_of_ble_eq_true rfl, ?_⟩
  refine R_aload_n rfl rfl ?_
  refine R_iload_n rfl rfl ?_
  refine R_cV (as := [.int 0]) rfl rfl iv_D_requireSlot (sp_requireSlot (r := 0) (by decide)) (by decide) rfl rfl rfl (by decide) rfl rfl (Nat.le_of_ble_eq_true rfl) (fun _ q => ?_)
  obtain rfl := q.symm
  refine R_aload_n rfl rfl ?_
  refine R_gP (x := 119) rfl rfl fp_10_11 rfl ?_
  refine R_iload_n rfl rfl ?_
  refine R_xZ (j := 0) rfl rfl rfl (by decide) (by decide) ?_
  rw [show σ.1 119 0 = 0 from h1]
  refine R_if_ne rfl rfl (fun z => absurd z (by decide)) (fun _ => ?_)
  exact R_throwW (text := "nothing is kept in the slot") (i := 6) rfl rfl rfl rfl rfl (List.mem_of_getElem? (i := 6) rfl) am_tw0 rfl rfl (Nat.le_refl 1) ⟨_, rfl, smP.refl⟩
set_option maxRecDepth 100000 in
set_option maxHeartbeats 4000000 in
theorem sp_stateOfSlot_1 {σ : am_G} : am_Call am_TX 0 0 c_D_stateOfSlot [.ref 0, .int 1] (mm σ) (am_Ok (some (.ref 109)) (fun σ1 => σ1 = σ)) := by
  refine ⟨mf_D_stateOfSlot, Nat.le_of_ble_eq_true rfl, ?_⟩
  refine R_iload_n rfl rfl ?_
  refine R_if_ne rfl rfl (fun _ => ?_) (fun z => absurd z (by decide))
  refine R_aload_n rfl rfl ?_
  refine R_gP (x := 109) rfl rfl fp_10_10 rfl ?_
  exact T_areturn rfl rfl (am_okr rfl rfl)
set_option maxRecDepth 100000 in
set_option maxHeartbeats 4000000 in
theorem sp_D_keep_1 {σ : am_G} {h w rh pn : Nat} {f v rl : am_Gr} {I : Nat → Int32} (hv : vS σ 26 h w f v rh rl pn I) : am_Call am_TX 6 0 c_D_keep [.ref 0, .int 1] (mm σ) (am_Ok (some (.int (nI (rkO f 0 (2 ^ h - 1) (2 ^ w - 1) h w)))) (fun σ1 => smP (pKe 1) σ σ1 ∧ cS σ1 109 (h, w, f, v, rh, rl, pn, I) ∧ σ1.1 119 1 = 1)) := by
  have hh6 := hv.1.1.2
  have hw6 := hv.1.2.1.2
  have hr6 := hv.2.2.1.1.2
  have hp6 := hv.2.2.2.1.2
  refine ⟨mf_D_keep, Nat.le_of_ble_eq_true rfl, ?_⟩
  refine R_aload_n rfl rfl ?_
  refine R_iload_n rfl rfl ?_
  refine R_cV (as := [.int 1]) rfl rfl iv_D_requireSlot (sp_requireSlot (r := 1) (by decide)) (by decide) rfl rfl rfl (by decide) rfl rfl (Nat.le_of_ble_eq_true rfl) (fun _ q => ?_)
  obtain rfl := q.symm
  refine R_aload_n rfl rfl ?_
  refine R_iload_n rfl rfl ?_
  refine R_cV (as := [.int 1]) rfl rfl iv_D_stateOfSlot (sp_stateOfSlot_1) (by decide) rfl rfl rfl (by decide) rfl rfl (Nat.le_of_ble_eq_true rfl) (fun _ q => ?_)
  obtain rfl := q.symm
  refine R_aload_n rfl rfl ?_
  refine R_gP (x := 26) rfl rfl fp_10_6 rfl ?_
  refine R_cV (as := [.ref 26]) rfl rfl iv_State_copyFrom (sp_State_copyFrom isState_109 isState_26 (Or.inr (by omega)) hv) (by decide) rfl rfl rfl (by decide) rfl rfl (Nat.le_of_ble_eq_true rfl) (fun _ q => ?_)
  obtain rfl := q.symm
  refine R_aload_n rfl rfl ?_
  refine R_gP (x := 119) rfl rfl fp_10_11 rfl ?_
  refine R_iload_n rfl rfl ?_
  refine R_iconst (v := 1) rfl rfl ?_
  refine R_wZ (j := 1) rfl rfl rfl (by decide) (by decide) ?_
  refine R_aload_n rfl rfl ?_
  refine R_gP (x := 16) rfl rfl fp_10_4 rfl ?_
  refine R_aload_n rfl rfl ?_
  refine R_gP (x := 26) rfl rfl fp_10_6 rfl ?_
  refine R_gP (x := 27) rfl rfl fp_9_0 rfl ?_
  refine R_iconst (v := 0) rfl rfl ?_
  refine R_cV (as := [.ref 27, .int 0]) rfl rfl iv_Reckoner_fullRank (sp_fullRank (m := 0) im27 (by omega) (((putS_fr (p := pKe 1) (s := 109) (σ := σ) (h := h) (w := w) (f := f) (v := v) (rh := rh) (rl := rl) (pn := pn) (I := I) (fun a b _ _ => by unfold pKe; omega)).trans (smP_sI (p := pKe 1) (k := 119) (j := 1) (x := vp_nar .boolean 1) (by unfold pKe; omega))).vM hv.1 (fun b => by unfold pKe; omega) (fun b => by unfold pKe; omega)) (by omega)) (by decide) rfl rfl rfl (by decide) rfl rfl (Nat.le_of_ble_eq_true rfl) (fun σ1 hσ1 => ?_)
  refine T_ireturn rfl rfl (am_oki rfl ⟨((putS_fr (p := pKe 1) (s := 109) (σ := σ) (h := h) (w := w) (f := f) (v := v) (rh := rh) (rl := rl) (pn := pn) (I := I) (fun a b _ _ => by unfold pKe; omega)).trans (smP_sI (p := pKe 1) (k := 119) (j := 1) (x := vp_nar .boolean 1) (by unfold pKe; omega))).trans (hσ1.mono (fun a b => by unfold plc pKe; omega)), ?_, ?_⟩)
  · refine hσ1.vS (σ := sI (putS σ 109 h w f v rh rl pn I) 119 1 (vp_nar .boolean 1)) ?_ (fun a b _ _ => by unfold plc; omega)
    exact (smP_sI (p := plc 119 120) (k := 119) (j := 1) (x := vp_nar .boolean 1) (by unfold plc; omega)).vS (vS_putS hh6 hw6 hr6 hp6) (fun a b _ _ => by unfold plc; omega)
  · rw [hσ1.i (by unfold plc; omega), sI_s]; rfl
set_option maxRecDepth 100000 in
set_option maxHeartbeats 4000000 in
theorem sp_D_restore_1 {σ : am_G} {h w rh pn : Nat} {f v rl : am_Gr} {I : Nat → Int32} {n : Nat} {Hs : Nat → am_Sn} {h2 w2 rh2 pn2 : Nat} {f2 v2 rl2 : am_Gr} {I2 : Nat → Int32} (hv : vS σ 26 h w f v rh rl pn I) (hH : cH σ n Hs) (hk : vS σ 109 h2 w2 f2 v2 rh2 rl2 pn2 I2) (h1 : σ.1 119 1 = 1) : am_Call am_TX 8 0 c_D_restore [.ref 0, .int 1] (mm σ) (am_Ok (some (.int (nI (rkO f2 0 (2 ^ h2 - 1) (2 ^ w2 - 1) h2 w2)))) (fun σ1 => smP (plc 17 99) σ σ1 ∧ cS σ1 26 (h2, w2, f2, v2, rh2, rl2, pn2, I2) ∧ cH σ1 (nxZ n) (hC (h, w, f, v, rh, rl, pn, I) Hs))) := by
  have hh6 := hv.1.1.2
  have hw6 := hv.1.2.1.2
  have hr6 := hv.2.2.1.1.2
  have hp6 := hv.2.2.2.1.2
  have k1 := hk.1.1.2
  have k2 := hk.1.2.1.2
  refine ⟨mf_D_restore, Nat.le_of_ble_eq_true rfl, ?_⟩
  refine R_aload_n rfl rfl ?_
  refine R_iload_n rfl rfl ?_
  refine R_cV (as := [.int 1]) rfl rfl iv_D_requireSlot (sp_requireSlot (r := 1) (by decide)) (by decide) rfl rfl rfl (by decide) rfl rfl (Nat.le_of_ble_eq_true rfl) (fun _ q => ?_)
  obtain rfl := q.symm
  refine R_aload_n rfl rfl ?_
  refine R_gP (x := 119) rfl rfl fp_10_11 rfl ?_
  refine R_iload_n rfl rfl ?_
  refine R_xZ (j := 1) rfl rfl rfl (by decide) (by decide) ?_
  rw [show σ.1 119 1 = 1 from h1]
  refine R_if_ne rfl rfl (fun _ => ?_) (fun z => absurd z (by decide))
  refine R_aload_n rfl rfl ?_
  refine R_gP (x := 37) rfl rfl fp_10_8 rfl ?_
  refine R_aload_n rfl rfl ?_
  refine R_gP (x := 26) rfl rfl fp_10_6 rfl ?_
  refine R_cV (as := [.ref 26]) rfl rfl iv_History_push (sp_pushV (D := (h, w, f, v, rh, rl, pn, I)) hv hH) (by decide) rfl rfl rfl (by decide) rfl rfl (Nat.le_of_ble_eq_true rfl) (fun ρ hρ => ?_)
  obtain ⟨q1, q2⟩ := hρ
  have hv1 : vS ρ 26 h w f v rh rl pn I := q1.vS hv (fun a b _ _ => by unfold plc; omega)
  refine R_aload_n rfl rfl ?_
  refine R_gP (x := 26) rfl rfl fp_10_6 rfl ?_
  refine R_aload_n rfl rfl ?_
  refine R_iload_n rfl rfl ?_
  refine R_cV (as := [.int 1]) rfl rfl iv_D_stateOfSlot (sp_stateOfSlot_1) (by decide) rfl rfl rfl (by decide) rfl rfl (Nat.le_of_ble_eq_true rfl) (fun _ q => ?_)
  obtain rfl := q.symm
  refine R_cV (as := [.ref 109]) rfl rfl iv_State_copyFrom (sp_State_copyFrom isState_26 isState_109 (Or.inl (by omega)) (q1.vS hk (fun a b _ _ => by unfold plc; omega))) (by decide) rfl rfl rfl (by decide) rfl rfl (Nat.le_of_ble_eq_true rfl) (fun _ q => ?_)
  obtain rfl := q.symm
  have hv2 : vS (putS ρ 26 h2 w2 f2 v2 rh2 rl2 pn2 I2) 26 h2 w2 f2 v2 rh2 rl2 pn2 I2 := vS_putS hk.1.1.2 hk.1.2.1.2 hk.2.2.1.1.2 hk.2.2.2.1.2
  refine R_aload_n rfl rfl ?_
  refine R_gP (x := 16) rfl rfl fp_10_4 rfl ?_
  refine R_aload_n rfl rfl ?_
  refine R_gP (x := 26) rfl rfl fp_10_6 rfl ?_
  refine R_gP (x := 27) rfl rfl fp_9_0 rfl ?_
  refine R_iconst (v := 0) rfl rfl ?_
  refine R_cV (as := [.ref 27, .int 0]) rfl rfl iv_Reckoner_fullRank (sp_fullRank (m := 0) im27 (by omega) hv2.1 (by omega)) (by decide) rfl rfl rfl (by decide) rfl rfl (Nat.le_of_ble_eq_true rfl) (fun σ5 hσ5 => ?_)
  exact T_ireturn rfl rfl (am_oki rfl (chg_end q1 q2 (putS_fr (p := plc 26 37) (s := 26) (σ := ρ) (h := h2) (w := w2) (f := f2) (v := v2) (rh := rh2) (rl := rl2) (pn := pn2) (I := I2) (fun a b _ _ => by unfold plc; omega)) hv2 (hσ5.mono (q := plc 17 26) (fun a b => by unfold plc; omega))))
set_option maxRecDepth 100000 in
set_option maxHeartbeats 4000000 in
theorem sp_D_restore_1_x {σ : am_G} {h w rh pn : Nat} {f v rl : am_Gr} {I : Nat → Int32} (hv : vS σ 26 h w f v rh rl pn I) (h1 : σ.1 119 1 = 0) : am_Call am_TX 8 1 c_D_restore [.ref 0, .int 1] (mm σ) (am_ThP "java/lang/IllegalStateException" (fun σ1 => smP (plc 17 26) σ σ1)) := by
  have hh6 := hv.1.1.2
  have hw6 := hv.1.2.1.2
  have hr6 := hv.2.2.1.1.2
  have hp6 := hv.2.2.2.1.2
  refine ⟨mf_D_restore, Nat.le_of_ble_eq_true rfl, ?_⟩
  refine R_aload_n rfl rfl ?_
  refine R_iload_n rfl rfl ?_
  refine R_cV (as := [.int 1]) rfl rfl iv_D_requireSlot (sp_requireSlot (r := 1) (by decide)) (by decide) rfl rfl rfl (by decide) rfl rfl (Nat.le_of_ble_eq_true rfl) (fun _ q => ?_)
  obtain rfl := q.symm
  refine R_aload_n rfl rfl ?_
  refine R_gP (x := 119) rfl rfl fp_10_11 rfl ?_
  refine R_iload_n rfl rfl ?_
  refine R_xZ (j := 1) rfl rfl rfl (by decide) (by decide) ?_
  rw [show σ.1 119 1 = 0 from h1]
  refine R_if_ne rfl rfl (fun z => absurd z (by decide)) (fun _ => ?_)
  exact R_throwW (text := "nothing is kept in the slot") (i := 6) rfl rfl rfl rfl rfl (List.mem_of_getElem? (i := 6) rfl) am_tw0 rfl rfl (Nat.le_refl 1) ⟨_, rfl, smP.refl⟩
set_option maxRecDepth 100000 in
set_option maxHeartbeats 4000000 in
theorem sp_D_keep_x0 {σ : am_G} {h w rh pn : Nat} {f v rl : am_Gr} {I : Nat → Int32} {x : Int32} (hv : vS σ 26 h w f v rh rl pn I) (hb : ¬ (0 ≤ x ∧ x < 2)) : am_Call am_TX 8 1 c_D_keep [.ref 0, .int x] (mm σ) (am_ThP "java/lang/IndexOutOfBoundsException" (fun σ1 => smP (plc 17 26) σ σ1)) := by
  have hh6 := hv.1.1.2
  have hw6 := hv.1.2.1.2
  have hr6 := hv.2.2.1.1.2
  have hp6 := hv.2.2.2.1.2
  refine ⟨mf_D_keep, Nat.le_of_ble_eq_true rfl, ?_⟩
  refine R_aload_n rfl rfl ?_
  refine R_iload_n rfl rfl ?_
  refine R_cVxP (k := 0) (as := [.int x]) rfl rfl iv_D_requireSlot (sp_requireSlot_x hb) (by decide) rfl rfl rfl (by decide) rfl rfl (Nat.le_of_ble_eq_true rfl) (fun σ' hσ' => Rx_out rfl ⟨σ', rfl, by rw [hσ']; exact smP.refl⟩)
set_option maxRecDepth 100000 in
set_option maxHeartbeats 4000000 in
theorem sp_D_restore_x0 {σ : am_G} {h w rh pn : Nat} {f v rl : am_Gr} {I : Nat → Int32} {x : Int32} (hv : vS σ 26 h w f v rh rl pn I) (hb : ¬ (0 ≤ x ∧ x < 2)) : am_Call am_TX 8 1 c_D_restore [.ref 0, .int x] (mm σ) (am_ThP "java/lang/IndexOutOfBoundsException" (fun σ1 => smP (plc 17 26) σ σ1)) := by
  have hh6 := hv.1.1.2
  have hw6 := hv.1.2.1.2
  have hr6 := hv.2.2.1.1.2
  have hp6 := hv.2.2.2.1.2
  refine ⟨mf_D_restore, Nat.le_of_ble_eq_true rfl, ?_⟩
  refine R_aload_n rfl rfl ?_
  refine R_iload_n rfl rfl ?_
  refine R_cVxP (k := 0) (as := [.int x]) rfl rfl iv_D_requireSlot (sp_requireSlot_x hb) (by decide) rfl rfl rfl (by decide) rfl rfl (Nat.le_of_ble_eq_true rfl) (fun σ' hσ' => Rx_out rfl ⟨σ', rfl, by rw [hσ']; exact smP.refl⟩)
set_option maxRecDepth 100000 in
set_option maxHeartbeats 4000000 in
theorem sp_D_undo {σ : am_G} {n : Nat} {Hs : Nat → am_Sn} (hH : cH σ (n + 1) Hs) : am_Call am_TX 4 0 c_D_undo [.ref 0] (mm σ) (am_Ok (some (.int (nI n))) (fun σ1 => smP (fun a _ => 26 ≤ a ∧ a < 38) σ σ1 ∧ cS σ1 26 (Hs 0) ∧ cH σ1 n (fun i => Hs (i + 1)))) := by
  have hn6 : n + 1 ≤ 6 := hH.choose_spec.2.2.2.1
  have hH2 : σ.1 37 0 = nI (n + 1) := hH.choose_spec.2.2.1
  refine ⟨mf_D_undo, Nat.le_of_ble_eq_true rfl, ?_⟩
  refine R_aload_n rfl rfl ?_
  refine R_gP (x := 37) rfl rfl fp_10_8 rfl ?_
  refine R_gIN (n := (n + 1)) rfl rfl fd_2_0 hH2 ?_
  refine R_nif_ne (x := (n + 1)) rfl rfl (by omega) (fun h1 => ?_) (fun z => by omega)
  refine R_aload_n rfl rfl ?_
  refine R_gP (x := 37) rfl rfl fp_10_8 rfl ?_
  refine R_aload_n rfl rfl ?_
  refine R_gP (x := 26) rfl rfl fp_10_6 rfl ?_
  refine R_cV (as := [.ref 26]) rfl rfl iv_History_popInto (sp_popV hH) (by decide) rfl rfl rfl (by decide) rfl rfl (Nat.le_of_ble_eq_true rfl) (fun ρ hρ => ?_)
  obtain ⟨q1, q2, q3⟩ := hρ
  have hH3 : ρ.1 37 0 = nI n := q3.choose_spec.2.2.1
  refine R_aload_n rfl rfl ?_
  refine R_gP (x := 37) rfl rfl fp_10_8 rfl ?_
  refine R_gIN (n := n) rfl rfl fd_2_0 hH3 ?_
  exact T_ireturn rfl rfl (am_oki rfl ⟨q1, q2, q3⟩)
set_option maxRecDepth 100000 in
set_option maxHeartbeats 4000000 in
theorem sp_D_undo_x {σ : am_G} (h0 : σ.1 37 0 = nI 0) : am_Call am_TX 4 1 c_D_undo [.ref 0] (mm σ) (am_ThP "java/lang/IllegalStateException" (fun σ1 => σ1 = σ)) := by
  refine ⟨mf_D_undo, Nat.le_of_ble_eq_true rfl, ?_⟩
  refine R_aload_n rfl rfl ?_
  refine R_gP (x := 37) rfl rfl fp_10_8 rfl ?_
  refine R_gIN (n := 0) rfl rfl fd_2_0 h0 ?_
  refine R_nif_ne (x := 0) rfl rfl (by omega) (fun z => by omega) (fun h1 => ?_)
  exact R_throwW (text := "there is nothing to undo") (i := 7) rfl rfl rfl rfl rfl (List.mem_of_getElem? (i := 7) rfl) am_tw0 rfl rfl (Nat.le_refl 1) ⟨_, rfl, rfl⟩
set_option maxRecDepth 100000 in
set_option maxHeartbeats 4000000 in
theorem sp_D_undoCount {σ : am_G} {n : Nat} (h0 : σ.1 37 0 = nI n) : am_Call am_TX 1 0 c_D_undoCount [.ref 0] (mm σ) (am_Ok (some (.int (nI n))) (fun σ1 => σ1 = σ)) := by
  refine ⟨mf_D_undoCount, Nat.le_of_ble_eq_true rfl, ?_⟩
  refine R_aload_n rfl rfl ?_
  refine R_gP (x := 37) rfl rfl fp_10_8 rfl ?_
  refine R_gIN (n := n) rfl rfl fd_2_0 h0 ?_
  exact T_ireturn rfl rfl (am_oki rfl rfl)
