/-! ===== the model: guessed, guess ===== -/
set_option maxRecDepth 100000 in
set_option maxHeartbeats 4000000 in
theorem sp_mfaultOf {σ : am_G} {h w : Nat} {f : am_Gr} {x1 x2 x3 : Int32} (hv : mV σ h w f) (hs : fSm f h w) : am_Call am_TX 8 0 c_M_faultOf [.ref 120, .int x1, .int x2, .int x3] (mm σ) (am_Ok (some (.int (faF f h w x1 x2 x3))) (fun σ1 => smP pW σ σ1)) := by
  have hh1 := hv.1.1.1
  have hh6 := hv.1.1.2
  have hw1 := hv.1.2.1
  have hw6 := hv.1.2.2
  have hs7 := lw_lt hh6
  have ws7 := lw_lt hw6
  refine ⟨mf_M_faultOf, Nat.le_of_ble_eq_true rfl, ?_⟩
  refine R_iload_n rfl rfl ?_
  refine R_aload_n rfl rfl ?_
  refine R_iconst (v := 0) rfl rfl ?_
  refine R_cV (as := [.int 0]) rfl rfl iv_M_rankAll (sp_rankAll (m := 0) hv hs (by omega)) (by omega) rfl rfl rfl (by decide) rfl rfl (Nat.le_of_ble_eq_true rfl) (fun σ1 hσ1 => ?_)
  refine R_icmp_eq rfl rfl (fun g1 => ?_) (fun g1 => ?_)
  · refine R_iload_n rfl rfl ?_
    refine R_aload_n rfl rfl ?_
    refine R_iconst (v := 0) rfl rfl ?_
    refine R_aload_n rfl rfl ?_
    refine R_cV (as := []) rfl rfl iv_M_allColumns (sp_mallColumns (hσ1.mV hv (fun b => by unfold pW; omega) (fun b => by unfold pW; omega) (by unfold pW; omega))) (by omega) rfl rfl rfl (by decide) rfl rfl (Nat.le_of_ble_eq_true rfl) (fun _ q => ?_)
    obtain rfl := q.symm
    refine R_cV (as := [.int 0, .int (nI (2 ^ w - 1))]) rfl rfl iv_M_profileOfRows (sp_mprofileOfRows (m := 0) (hσ1.mV hv (fun b => by unfold pW; omega) (fun b => by unfold pW; omega) (by unfold pW; omega)) hs (md_dom (show (0 : Nat) ∈ mdL by decide)).1 (md_dom (show (0 : Nat) ∈ mdL by decide)).2) (by omega) rfl rfl rfl (by decide) rfl rfl (Nat.le_of_ble_eq_true rfl) (fun σ4 hσ4 => ?_)
    refine R_icmp_eq rfl rfl (fun g2 => ?_) (fun g2 => ?_)
    · refine R_iload_n rfl rfl ?_
      refine R_aload_n rfl rfl ?_
      refine R_iconst (v := 0) rfl rfl ?_
      refine R_aload_n rfl rfl ?_
      refine R_cV (as := []) rfl rfl iv_M_allRows (sp_mallRows ((hσ1.trans hσ4).mV hv (fun b => by unfold pW; omega) (fun b => by unfold pW; omega) (by unfold pW; omega))) (by omega) rfl rfl rfl (by decide) rfl rfl (Nat.le_of_ble_eq_true rfl) (fun _ q => ?_)
      obtain rfl := q.symm
      refine R_cV (as := [.int 0, .int (nI (2 ^ h - 1))]) rfl rfl iv_M_profileOfColumns (sp_mprofileOfColumns (m := 0) (S := (2 ^ h - 1)) ((hσ1.trans hσ4).mV hv (fun b => by unfold pW; omega) (fun b => by unfold pW; omega) (by unfold pW; omega)) hs (md_dom (show (0 : Nat) ∈ mdL by decide)).1 (md_dom (show (0 : Nat) ∈ mdL by decide)).2 (by first | assumption | exact lw_lt (by omega) | exact wi_lt (by first | assumption | omega) (by omega) | exact wo_lt (by first | assumption | omega) (by omega) | omega)) (by omega) rfl rfl rfl (by decide) rfl rfl (Nat.le_of_ble_eq_true rfl) (fun σ7 hσ7 => ?_)
      refine R_icmp_eq rfl rfl (fun g3 => ?_) (fun g3 => ?_)
      · refine R_iconst (v := 0) rfl rfl ?_
        exact T_ireturn rfl rfl (am_oki (by unfold faF; exact ((if_pos g1).trans ((if_pos g2).trans (if_pos g3))).symm) ((hσ1.trans hσ4).trans hσ7))
      · refine R_iconst (v := 3) rfl rfl ?_
        refine R_goto rfl rfl ?_
        exact T_ireturn rfl rfl (am_oki (by unfold faF; exact ((if_pos g1).trans ((if_pos g2).trans (if_neg g3))).symm) ((hσ1.trans hσ4).trans hσ7))
    · refine R_iconst (v := 2) rfl rfl ?_
      exact T_ireturn rfl rfl (am_oki (by unfold faF; exact ((if_pos g1).trans (if_neg g2)).symm) (hσ1.trans hσ4))
  · refine R_iconst (v := 1) rfl rfl ?_
    exact T_ireturn rfl rfl (am_oki (by unfold faF; exact (if_neg g1).symm) hσ1)
set_option maxRecDepth 100000 in
set_option maxHeartbeats 4000000 in
theorem sp_faultNow {σ : am_G} {h w rh pn : Nat} {f v rl : am_Gr} {I : Nat → Int32} (hn : nV σ h w f v rh rl pn I) (hc : ¬ I 4 = -1) : am_Call am_TX 9 0 c_M_faultNow [.ref 120] (mm σ) (am_Ok (some (.int (faF f h w (I 5) (I 6) (I 7)))) (fun σ1 => smP pW σ σ1)) := by
  have hv := hn.toV
  have hs := hn.2.1.2.1
  have hh1 := hv.1.1.1
  have hh6 := hv.1.1.2
  have hw1 := hv.1.2.1
  have hw6 := hv.1.2.2
  have hp6 := hn.2.1.2.2.2.1.1
  have hr6 := hn.2.1.2.2.2.2.2.2.1
  have hs7 := lw_lt hh6
  have ws7 := lw_lt hw6
  refine ⟨mf_M_faultNow, Nat.le_of_ble_eq_true rfl, ?_⟩
  refine R_aload_n rfl rfl ?_
  refine R_aload_n rfl rfl ?_
  refine R_iconst (v := 5) rfl rfl ?_
  refine R_cV (as := [.int 5]) rfl rfl iv_M_get (mget_g (j := 1) hn hc (by omega)) (by omega) rfl rfl rfl (by decide) rfl rfl (Nat.le_of_ble_eq_true rfl) (fun _ q => ?_)
  obtain rfl := q.symm
  refine R_aload_n rfl rfl ?_
  refine R_bipush (v := 6) rfl (by decide) ?_
  refine R_cV (as := [.int 6]) rfl rfl iv_M_get (mget_g (j := 2) hn hc (by omega)) (by omega) rfl rfl rfl (by decide) rfl rfl (Nat.le_of_ble_eq_true rfl) (fun _ q => ?_)
  obtain rfl := q.symm
  refine R_aload_n rfl rfl ?_
  refine R_bipush (v := 7) rfl (by decide) ?_
  refine R_cV (as := [.int 7]) rfl rfl iv_M_get (mget_g (j := 3) hn hc (by omega)) (by omega) rfl rfl rfl (by decide) rfl rfl (Nat.le_of_ble_eq_true rfl) (fun _ q => ?_)
  obtain rfl := q.symm
  refine R_cV (as := [.int (I (4 + 1)), .int (I (4 + 2)), .int (I (4 + 3))]) rfl rfl iv_M_faultOf (sp_mfaultOf (x1 := (I (4 + 1))) (x2 := (I (4 + 2))) (x3 := (I (4 + 3))) hv hs) (by omega) rfl rfl rfl (by decide) rfl rfl (Nat.le_of_ble_eq_true rfl) (fun σ4 hσ4 => ?_)
  exact T_ireturn rfl rfl (am_oki rfl hσ4)
set_option maxRecDepth 100000 in
set_option maxHeartbeats 4000000 in
theorem sp_M_guess_0 {σ : am_G} {h w rh pn : Nat} {f v rl : am_Gr} {I : Nat → Int32} (hn : nV σ h w f v rh rl pn I) : am_Call am_TX 14 0 c_M_guess [.ref 120, .int 0] (mm σ) (am_Ok (some (.int (I (4 + 0)))) (fun σ1 => smP pQ σ σ1 ∧ σ1.1 120 0 = 0)) := by
  have hv := hn.toV
  have hs := hn.2.1.2.1
  have hh1 := hv.1.1.1
  have hh6 := hv.1.1.2
  have hw1 := hv.1.2.1
  have hw6 := hv.1.2.2
  have hp6 := hn.2.1.2.2.2.1.1
  have hr6 := hn.2.1.2.2.2.2.2.2.1
  have hs7 := lw_lt hh6
  have ws7 := lw_lt hw6
  have hrg : (0 : Int32) ≤ 0 ∧ (0 : Int32) ≤ 4 := by decide
  refine ⟨mf_M_guess, Nat.le_of_ble_eq_true rfl, ?_⟩
  refine R_aload_n rfl rfl ?_
  refine R_iload_n rfl rfl ?_
  refine R_i2l rfl ?_
  refine R_lconst (v := 0) rfl rfl ?_
  refine R_ldc2 (v := 4) rfl (by decide) ?_
  refine R_cS (as := [.long ((0 : Int32).toInt64), .long 0, .long 4]) rfl rfl iv_M_in (in_1 (x := 0) (a := 0) (b := 4) hrg rfl rfl) (by omega) rfl rfl rfl rfl (Nat.le_of_ble_eq_true rfl) (fun _ q => ?_)
  obtain rfl := q.symm
  refine R_cV (as := [.int 1]) rfl rfl iv_M_passes (pass_1) (by omega) rfl rfl rfl (by decide) rfl rfl (Nat.le_of_ble_eq_true rfl) (fun _ q => ?_)
  obtain rfl := q.symm
  refine R_if_ne rfl rfl (fun _ => ?_) (fun z => absurd z (by decide))
  refine R_aload_n rfl rfl ?_
  refine R_iconst (v := 3) rfl rfl ?_
  refine R_cV (as := [.int 3]) rfl rfl iv_M_get (mget_3 (hn.fr (smP_sI (p := pQ) (k := 120) (j := 0) (x := 0) (by unfold pQ; omega)) (fun b => by unfold pQ; omega) (by unfold pQ; omega))) (by omega) rfl rfl rfl (by decide) rfl rfl (Nat.le_of_ble_eq_true rfl) (fun _ q => ?_)
  obtain rfl := q.symm
  refine R_zif_ne rfl rfl (fun g1 => ?_) (fun g1 => ?_)
  · refine R_iload_n rfl rfl ?_
    refine R_iconst (v := 4) rfl rfl ?_
    refine R_icmp_ne rfl rfl (fun _ => ?_) (fun z => absurd z (by decide))
    refine R_aload_n rfl rfl ?_
    refine R_iconst (v := 4) rfl rfl ?_
    refine R_iload_n rfl rfl ?_
    refine R_iadd rfl ?_
    rw [show (4 + 0 : Int32) = 4 from rfl]
    refine R_cV (as := [.int 4]) rfl rfl iv_M_get (mget_g (j := 0) (hn.fr (smP_sI (p := pQ) (k := 120) (j := 0) (x := 0) (by unfold pQ; omega)) (fun b => by unfold pQ; omega) (by unfold pQ; omega)) g1 (by omega)) (by omega) rfl rfl rfl (by decide) rfl rfl (Nat.le_of_ble_eq_true rfl) (fun _ q => ?_)
    obtain rfl := q.symm
    exact T_ireturn rfl rfl (am_oki (rfl) ⟨(smP_sI (p := pQ) (k := 120) (j := 0) (x := 0) (by unfold pQ; omega)), sI_s⟩)
  · refine R_iconst (v := -1) rfl rfl ?_
    exact T_ireturn rfl rfl (am_oki ((okV_g hn.2.1 (Classical.not_not.mp g1) 0 (by omega)).symm) ⟨(smP_sI (p := pQ) (k := 120) (j := 0) (x := 0) (by unfold pQ; omega)), sI_s⟩)
set_option maxRecDepth 100000 in
set_option maxHeartbeats 4000000 in
theorem sp_M_guess_1 {σ : am_G} {h w rh pn : Nat} {f v rl : am_Gr} {I : Nat → Int32} (hn : nV σ h w f v rh rl pn I) : am_Call am_TX 14 0 c_M_guess [.ref 120, .int 1] (mm σ) (am_Ok (some (.int (I (4 + 1)))) (fun σ1 => smP pQ σ σ1 ∧ σ1.1 120 0 = 0)) := by
  have hv := hn.toV
  have hs := hn.2.1.2.1
  have hh1 := hv.1.1.1
  have hh6 := hv.1.1.2
  have hw1 := hv.1.2.1
  have hw6 := hv.1.2.2
  have hp6 := hn.2.1.2.2.2.1.1
  have hr6 := hn.2.1.2.2.2.2.2.2.1
  have hs7 := lw_lt hh6
  have ws7 := lw_lt hw6
  have hrg : (0 : Int32) ≤ 1 ∧ (1 : Int32) ≤ 4 := by decide
  refine ⟨mf_M_guess, Nat.le_of_ble_eq_true rfl, ?_⟩
  refine R_aload_n rfl rfl ?_
  refine R_iload_n rfl rfl ?_
  refine R_i2l rfl ?_
  refine R_lconst (v := 0) rfl rfl ?_
  refine R_ldc2 (v := 4) rfl (by decide) ?_
  refine R_cS (as := [.long ((1 : Int32).toInt64), .long 0, .long 4]) rfl rfl iv_M_in (in_1 (x := 1) (a := 0) (b := 4) hrg rfl rfl) (by omega) rfl rfl rfl rfl (Nat.le_of_ble_eq_true rfl) (fun _ q => ?_)
  obtain rfl := q.symm
  refine R_cV (as := [.int 1]) rfl rfl iv_M_passes (pass_1) (by omega) rfl rfl rfl (by decide) rfl rfl (Nat.le_of_ble_eq_true rfl) (fun _ q => ?_)
  obtain rfl := q.symm
  refine R_if_ne rfl rfl (fun _ => ?_) (fun z => absurd z (by decide))
  refine R_aload_n rfl rfl ?_
  refine R_iconst (v := 3) rfl rfl ?_
  refine R_cV (as := [.int 3]) rfl rfl iv_M_get (mget_3 (hn.fr (smP_sI (p := pQ) (k := 120) (j := 0) (x := 0) (by unfold pQ; omega)) (fun b => by unfold pQ; omega) (by unfold pQ; omega))) (by omega) rfl rfl rfl (by decide) rfl rfl (Nat.le_of_ble_eq_true rfl) (fun _ q => ?_)
  obtain rfl := q.symm
  refine R_zif_ne rfl rfl (fun g1 => ?_) (fun g1 => ?_)
  · refine R_iload_n rfl rfl ?_
    refine R_iconst (v := 4) rfl rfl ?_
    refine R_icmp_ne rfl rfl (fun _ => ?_) (fun z => absurd z (by decide))
    refine R_aload_n rfl rfl ?_
    refine R_iconst (v := 4) rfl rfl ?_
    refine R_iload_n rfl rfl ?_
    refine R_iadd rfl ?_
    rw [show (4 + 1 : Int32) = 5 from rfl]
    refine R_cV (as := [.int 5]) rfl rfl iv_M_get (mget_g (j := 1) (hn.fr (smP_sI (p := pQ) (k := 120) (j := 0) (x := 0) (by unfold pQ; omega)) (fun b => by unfold pQ; omega) (by unfold pQ; omega)) g1 (by omega)) (by omega) rfl rfl rfl (by decide) rfl rfl (Nat.le_of_ble_eq_true rfl) (fun _ q => ?_)
    obtain rfl := q.symm
    exact T_ireturn rfl rfl (am_oki (rfl) ⟨(smP_sI (p := pQ) (k := 120) (j := 0) (x := 0) (by unfold pQ; omega)), sI_s⟩)
  · refine R_iconst (v := -1) rfl rfl ?_
    exact T_ireturn rfl rfl (am_oki ((okV_g hn.2.1 (Classical.not_not.mp g1) 1 (by omega)).symm) ⟨(smP_sI (p := pQ) (k := 120) (j := 0) (x := 0) (by unfold pQ; omega)), sI_s⟩)
set_option maxRecDepth 100000 in
set_option maxHeartbeats 4000000 in
theorem sp_M_guess_2 {σ : am_G} {h w rh pn : Nat} {f v rl : am_Gr} {I : Nat → Int32} (hn : nV σ h w f v rh rl pn I) : am_Call am_TX 14 0 c_M_guess [.ref 120, .int 2] (mm σ) (am_Ok (some (.int (I (4 + 2)))) (fun σ1 => smP pQ σ σ1 ∧ σ1.1 120 0 = 0)) := by
  have hv := hn.toV
  have hs := hn.2.1.2.1
  have hh1 := hv.1.1.1
  have hh6 := hv.1.1.2
  have hw1 := hv.1.2.1
  have hw6 := hv.1.2.2
  have hp6 := hn.2.1.2.2.2.1.1
  have hr6 := hn.2.1.2.2.2.2.2.2.1
  have hs7 := lw_lt hh6
  have ws7 := lw_lt hw6
  have hrg : (0 : Int32) ≤ 2 ∧ (2 : Int32) ≤ 4 := by decide
  refine ⟨mf_M_guess, Nat.le_of_ble_eq_true rfl, ?_⟩
  refine R_aload_n rfl rfl ?_
  refine R_iload_n rfl rfl ?_
  refine R_i2l rfl ?_
  refine R_lconst (v := 0) rfl rfl ?_
  refine R_ldc2 (v := 4) rfl (by decide) ?_
  refine R_cS (as := [.long ((2 : Int32).toInt64), .long 0, .long 4]) rfl rfl iv_M_in (in_1 (x := 2) (a := 0) (b := 4) hrg rfl rfl) (by omega) rfl rfl rfl rfl (Nat.le_of_ble_eq_true rfl) (fun _ q => ?_)
  obtain rfl := q.symm
  refine R_cV (as := [.int 1]) rfl rfl iv_M_passes (pass_1) (by omega) rfl rfl rfl (by decide) rfl rfl (Nat.le_of_ble_eq_true rfl) (fun _ q => ?_)
  obtain rfl := q.symm
  refine R_if_ne rfl rfl (fun _ => ?_) (fun z => absurd z (by decide))
  refine R_aload_n rfl rfl ?_
  refine R_iconst (v := 3) rfl rfl ?_
  refine R_cV (as := [.int 3]) rfl rfl iv_M_get (mget_3 (hn.fr (smP_sI (p := pQ) (k := 120) (j := 0) (x := 0) (by unfold pQ; omega)) (fun b => by unfold pQ; omega) (by unfold pQ; omega))) (by omega) rfl rfl rfl (by decide) rfl rfl (Nat.le_of_ble_eq_true rfl) (fun _ q => ?_)
  obtain rfl := q.symm
  refine R_zif_ne rfl rfl (fun g1 => ?_) (fun g1 => ?_)
  · refine R_iload_n rfl rfl ?_
    refine R_iconst (v := 4) rfl rfl ?_
    refine R_icmp_ne rfl rfl (fun _ => ?_) (fun z => absurd z (by decide))
    refine R_aload_n rfl rfl ?_
    refine R_iconst (v := 4) rfl rfl ?_
    refine R_iload_n rfl rfl ?_
    refine R_iadd rfl ?_
    rw [show (4 + 2 : Int32) = 6 from rfl]
    refine R_cV (as := [.int 6]) rfl rfl iv_M_get (mget_g (j := 2) (hn.fr (smP_sI (p := pQ) (k := 120) (j := 0) (x := 0) (by unfold pQ; omega)) (fun b => by unfold pQ; omega) (by unfold pQ; omega)) g1 (by omega)) (by omega) rfl rfl rfl (by decide) rfl rfl (Nat.le_of_ble_eq_true rfl) (fun _ q => ?_)
    obtain rfl := q.symm
    exact T_ireturn rfl rfl (am_oki (rfl) ⟨(smP_sI (p := pQ) (k := 120) (j := 0) (x := 0) (by unfold pQ; omega)), sI_s⟩)
  · refine R_iconst (v := -1) rfl rfl ?_
    exact T_ireturn rfl rfl (am_oki ((okV_g hn.2.1 (Classical.not_not.mp g1) 2 (by omega)).symm) ⟨(smP_sI (p := pQ) (k := 120) (j := 0) (x := 0) (by unfold pQ; omega)), sI_s⟩)
set_option maxRecDepth 100000 in
set_option maxHeartbeats 4000000 in
theorem sp_M_guess_3 {σ : am_G} {h w rh pn : Nat} {f v rl : am_Gr} {I : Nat → Int32} (hn : nV σ h w f v rh rl pn I) : am_Call am_TX 14 0 c_M_guess [.ref 120, .int 3] (mm σ) (am_Ok (some (.int (I (4 + 3)))) (fun σ1 => smP pQ σ σ1 ∧ σ1.1 120 0 = 0)) := by
  have hv := hn.toV
  have hs := hn.2.1.2.1
  have hh1 := hv.1.1.1
  have hh6 := hv.1.1.2
  have hw1 := hv.1.2.1
  have hw6 := hv.1.2.2
  have hp6 := hn.2.1.2.2.2.1.1
  have hr6 := hn.2.1.2.2.2.2.2.2.1
  have hs7 := lw_lt hh6
  have ws7 := lw_lt hw6
  have hrg : (0 : Int32) ≤ 3 ∧ (3 : Int32) ≤ 4 := by decide
  refine ⟨mf_M_guess, Nat.le_of_ble_eq_true rfl, ?_⟩
  refine R_aload_n rfl rfl ?_
  refine R_iload_n rfl rfl ?_
  refine R_i2l rfl ?_
  refine R_lconst (v := 0) rfl rfl ?_
  refine R_ldc2 (v := 4) rfl (by decide) ?_
  refine R_cS (as := [.long ((3 : Int32).toInt64), .long 0, .long 4]) rfl rfl iv_M_in (in_1 (x := 3) (a := 0) (b := 4) hrg rfl rfl) (by omega) rfl rfl rfl rfl (Nat.le_of_ble_eq_true rfl) (fun _ q => ?_)
  obtain rfl := q.symm
  refine R_cV (as := [.int 1]) rfl rfl iv_M_passes (pass_1) (by omega) rfl rfl rfl (by decide) rfl rfl (Nat.le_of_ble_eq_true rfl) (fun _ q => ?_)
  obtain rfl := q.symm
  refine R_if_ne rfl rfl (fun _ => ?_) (fun z => absurd z (by decide))
  refine R_aload_n rfl rfl ?_
  refine R_iconst (v := 3) rfl rfl ?_
  refine R_cV (as := [.int 3]) rfl rfl iv_M_get (mget_3 (hn.fr (smP_sI (p := pQ) (k := 120) (j := 0) (x := 0) (by unfold pQ; omega)) (fun b => by unfold pQ; omega) (by unfold pQ; omega))) (by omega) rfl rfl rfl (by decide) rfl rfl (Nat.le_of_ble_eq_true rfl) (fun _ q => ?_)
  obtain rfl := q.symm
  refine R_zif_ne rfl rfl (fun g1 => ?_) (fun g1 => ?_)
  · refine R_iload_n rfl rfl ?_
    refine R_iconst (v := 4) rfl rfl ?_
    refine R_icmp_ne rfl rfl (fun _ => ?_) (fun z => absurd z (by decide))
    refine R_aload_n rfl rfl ?_
    refine R_iconst (v := 4) rfl rfl ?_
    refine R_iload_n rfl rfl ?_
    refine R_iadd rfl ?_
    rw [show (4 + 3 : Int32) = 7 from rfl]
    refine R_cV (as := [.int 7]) rfl rfl iv_M_get (mget_g (j := 3) (hn.fr (smP_sI (p := pQ) (k := 120) (j := 0) (x := 0) (by unfold pQ; omega)) (fun b => by unfold pQ; omega) (by unfold pQ; omega)) g1 (by omega)) (by omega) rfl rfl rfl (by decide) rfl rfl (Nat.le_of_ble_eq_true rfl) (fun _ q => ?_)
    obtain rfl := q.symm
    exact T_ireturn rfl rfl (am_oki (rfl) ⟨(smP_sI (p := pQ) (k := 120) (j := 0) (x := 0) (by unfold pQ; omega)), sI_s⟩)
  · refine R_iconst (v := -1) rfl rfl ?_
    exact T_ireturn rfl rfl (am_oki ((okV_g hn.2.1 (Classical.not_not.mp g1) 3 (by omega)).symm) ⟨(smP_sI (p := pQ) (k := 120) (j := 0) (x := 0) (by unfold pQ; omega)), sI_s⟩)
set_option maxRecDepth 100000 in
set_option maxHeartbeats 4000000 in
theorem sp_M_guess_4 {σ : am_G} {h w rh pn : Nat} {f v rl : am_Gr} {I : Nat → Int32} (hn : nV σ h w f v rh rl pn I) : am_Call am_TX 14 0 c_M_guess [.ref 120, .int 4] (mm σ) (am_Ok (some (.int (if I 4 = -1 then -1 else faF f h w (I 5) (I 6) (I 7)))) (fun σ1 => smP pQ σ σ1 ∧ σ1.1 120 0 = 0)) := by
  have hv := hn.toV
  have hs := hn.2.1.2.1
  have hh1 := hv.1.1.1
  have hh6 := hv.1.1.2
  have hw1 := hv.1.2.1
  have hw6 := hv.1.2.2
  have hp6 := hn.2.1.2.2.2.1.1
  have hr6 := hn.2.1.2.2.2.2.2.2.1
  have hs7 := lw_lt hh6
  have ws7 := lw_lt hw6
  have hrg : (0 : Int32) ≤ 4 ∧ (4 : Int32) ≤ 4 := by decide
  refine ⟨mf_M_guess, Nat.le_of_ble_eq_true rfl, ?_⟩
  refine R_aload_n rfl rfl ?_
  refine R_iload_n rfl rfl ?_
  refine R_i2l rfl ?_
  refine R_lconst (v := 0) rfl rfl ?_
  refine R_ldc2 (v := 4) rfl (by decide) ?_
  refine R_cS (as := [.long ((4 : Int32).toInt64), .long 0, .long 4]) rfl rfl iv_M_in (in_1 (x := 4) (a := 0) (b := 4) hrg rfl rfl) (by omega) rfl rfl rfl rfl (Nat.le_of_ble_eq_true rfl) (fun _ q => ?_)
  obtain rfl := q.symm
  refine R_cV (as := [.int 1]) rfl rfl iv_M_passes (pass_1) (by omega) rfl rfl rfl (by decide) rfl rfl (Nat.le_of_ble_eq_true rfl) (fun _ q => ?_)
  obtain rfl := q.symm
  refine R_if_ne rfl rfl (fun _ => ?_) (fun z => absurd z (by decide))
  refine R_aload_n rfl rfl ?_
  refine R_iconst (v := 3) rfl rfl ?_
  refine R_cV (as := [.int 3]) rfl rfl iv_M_get (mget_3 (hn.fr (smP_sI (p := pQ) (k := 120) (j := 0) (x := 0) (by unfold pQ; omega)) (fun b => by unfold pQ; omega) (by unfold pQ; omega))) (by omega) rfl rfl rfl (by decide) rfl rfl (Nat.le_of_ble_eq_true rfl) (fun _ q => ?_)
  obtain rfl := q.symm
  refine R_zif_ne rfl rfl (fun g1 => ?_) (fun g1 => ?_)
  · refine R_iload_n rfl rfl ?_
    refine R_iconst (v := 4) rfl rfl ?_
    refine R_icmp_ne rfl rfl (fun z => absurd z (by decide)) (fun _ => ?_)
    refine R_aload_n rfl rfl ?_
    refine R_cV (as := []) rfl rfl iv_M_faultNow (sp_faultNow (hn.fr (smP_sI (p := pQ) (k := 120) (j := 0) (x := 0) (by unfold pQ; omega)) (fun b => by unfold pQ; omega) (by unfold pQ; omega)) g1) (by omega) rfl rfl rfl (by decide) rfl rfl (Nat.le_of_ble_eq_true rfl) (fun σ4 hσ4 => ?_)
    refine R_goto rfl rfl ?_
    exact T_ireturn rfl rfl (am_oki ((if_neg g1).symm) ⟨((smP_sI (p := pQ) (k := 120) (j := 0) (x := 0) (by unfold pQ; omega)).trans (hσ4.mono (q := pQ) pQ_W)), ((hσ4.i (by unfold pW; omega)).trans sI_s)⟩)
  · refine R_iconst (v := -1) rfl rfl ?_
    exact T_ireturn rfl rfl (am_oki ((if_pos (Classical.not_not.mp g1)).symm) ⟨(smP_sI (p := pQ) (k := 120) (j := 0) (x := 0) (by unfold pQ; omega)), sI_s⟩)
set_option maxRecDepth 100000 in
set_option maxHeartbeats 4000000 in
theorem sp_M_guess_x0 {σ : am_G} {h w rh pn : Nat} {f v rl : am_Gr} {I : Nat → Int32} {x : Int32} (hn : nV σ h w f v rh rl pn I) (hb : ¬ (0 ≤ x ∧ x ≤ 4)) : am_Call am_TX 14 0 c_M_guess [.ref 120, .int x] (mm σ) (am_Ok (some (.int 0)) (fun σ1 => smP pQ σ σ1 ∧ σ1.1 120 0 = 1)) := by
  have hv := hn.toV
  have hs := hn.2.1.2.1
  have hh1 := hv.1.1.1
  have hh6 := hv.1.1.2
  have hw1 := hv.1.2.1
  have hw6 := hv.1.2.2
  have hp6 := hn.2.1.2.2.2.1.1
  have hr6 := hn.2.1.2.2.2.2.2.2.1
  have hs7 := lw_lt hh6
  have ws7 := lw_lt hw6
  refine ⟨mf_M_guess, Nat.le_of_ble_eq_true rfl, ?_⟩
  refine R_aload_n rfl rfl ?_
  refine R_iload_n rfl rfl ?_
  refine R_i2l rfl ?_
  refine R_lconst (v := 0) rfl rfl ?_
  refine R_ldc2 (v := 4) rfl (by decide) ?_
  refine R_cS (as := [.long x.toInt64, .long 0, .long 4]) rfl rfl iv_M_in (in_0 (x := x) (a := 0) (b := 4) hb rfl rfl) (by omega) rfl rfl rfl rfl (Nat.le_of_ble_eq_true rfl) (fun _ q => ?_)
  obtain rfl := q.symm
  refine R_cV (as := [.int 0]) rfl rfl iv_M_passes (pass_0) (by omega) rfl rfl rfl (by decide) rfl rfl (Nat.le_of_ble_eq_true rfl) (fun _ q => ?_)
  obtain rfl := q.symm
  refine R_if_ne rfl rfl (fun z => absurd z (by decide)) (fun _ => ?_)
  refine R_iconst (v := 0) rfl rfl ?_
  exact T_ireturn rfl rfl (am_oki rfl ⟨(smP_sI (p := pQ) (k := 120) (j := 0) (x := 1) (by unfold pQ; omega)), sI_s⟩)
set_option maxRecDepth 100000 in
set_option maxHeartbeats 4000000 in
theorem lp_mgs {σ : am_G} {h w rh pn : Nat} {f v rl : am_Gr} {I : Nat → Int32} {n S T : Nat} {P : Nat → Nat} {d k0 : Nat} {Q : am_Res → Prop} (hn : nV σ h w f v rh rl pn I) (hP : prP pn I P) (n_k : n ≤ pn) (hd : 4 ≤ d) (hx : ∀ (τ : am_G), (smP pQ σ τ ∧ τ.1 120 0 = 0) → am_R am_TX d k0 c_M_guessed 71 [some (.ref 120), some (.int (nI S)), some (.int (nI T)), some (.int (nI n)), some (.long (gmF P n)), none, some (.int (nI n)), none] [] (mm τ) Q) : ∀ (uu i : Nat) (τ : am_G), i + uu = n → (smP pQ σ τ ∧ τ.1 120 0 = 0) → am_R am_TX d k0 c_M_guessed 44 [some (.ref 120), some (.int (nI S)), some (.int (nI T)), some (.int (nI n)), some (.long (gmF P i)), none, some (.int (nI i)), none] [] (mm τ) Q := by
  have hv := hn.toV
  have hs := hn.2.1.2.1
  have hh1 := hv.1.1.1
  have hh6 := hv.1.1.2
  have hw1 := hv.1.2.1
  have hw6 := hv.1.2.2
  have hp6 := hn.2.1.2.2.2.1.1
  have hr6 := hn.2.1.2.2.2.2.2.2.1
  have hs7 := lw_lt hh6
  have ws7 := lw_lt hw6
  intro uu
  induction uu with
  | zero =>
    intro i τ hi hI
    obtain rfl : n = i := by omega
    refine R_iload rfl rfl ?_
    refine R_iload_n rfl rfl ?_
    refine R_nicmp_ge (x := n) (y := n) rfl rfl (by omega) (by omega) (fun g1 => ?_) (fun z => by omega)
    exact hx τ hI
  | succ uu ih =>
    intro i τ hi hI
    refine R_iload rfl rfl ?_
    refine R_iload_n rfl rfl ?_
    refine R_nicmp_ge (x := i) (y := n) rfl rfl (by omega) (by omega) (fun z => by omega) (fun g1 => ?_)
    refine R_lload rfl rfl ?_
    refine R_aload_n rfl rfl ?_
    refine R_bipush (v := 50) rfl (by decide) ?_
    refine R_iload rfl rfl ?_
    refine R_iaddN (x := 50) (y := i) rfl ?_
    refine R_cV (as := [.int (nI (50 + i))]) rfl rfl iv_M_get ((by have z := mget_x (hn.fr hI.1 (fun b => by unfold pQ; omega) (by unfold pQ; omega)) (j := (50 + i)) (by omega) ((hn.fr hI.1 (fun b => by unfold pQ; omega) (by unfold pQ; omega)).1.2.1.2 _ (by omega)) (σ := τ); rw [(hP _ (by omega)).1] at z; exact z)) (by omega) rfl rfl rfl (by decide) rfl rfl (Nat.le_of_ble_eq_true rfl) (fun _ q => ?_)
    obtain rfl := q.symm
    refine R_i2l rfl ?_
    refine R_lmul rfl ?_
    refine R_lstore rfl (by decide) ?_
    refine R_iincN (x := i) (m := 1) rfl rfl rfl (by decide) ?_
    refine R_goto rfl rfl ?_
    exact (ih (i + 1) _ (by omega) ⟨hI.1, hI.2⟩).weak ⟨rfl, rfl, rfl, rfl, rfl, rfl, trivial⟩
set_option maxRecDepth 100000 in
set_option maxHeartbeats 4000000 in
theorem en_mgs {σ : am_G} {h w rh pn : Nat} {f v rl : am_Gr} {I : Nat → Int32} {n S T : Nat} {P : Nat → Nat} {d k0 : Nat} (hn : nV σ h w f v rh rl pn I) (hP : prP pn I P) (n_k : n ≤ pn) (hS : S < 2 ^ h) (hT : T < 2 ^ w) (hc : pc S = pc T) (hd : 13 ≤ d) {τ : am_G} (hτ : smP pQ σ τ ∧ τ.1 120 0 = 0) : am_R am_TX d k0 c_M_guessed 71 [some (.ref 120), some (.int (nI S)), some (.int (nI T)), some (.int (nI n)), some (.long (gmF P n)), none, some (.int (nI n)), none] [] (mm τ) (am_Ok (some (.long (gsF (mnF f S w T) (gmF P n)))) (fun σ1 => smP pQ σ σ1 ∧ σ1.1 120 0 = 0)) := by
  have hv := hn.toV
  have hs := hn.2.1.2.1
  have hh1 := hv.1.1.1
  have hh6 := hv.1.1.2
  have hw1 := hv.1.2.1
  have hw6 := hv.1.2.2
  have hp6 := hn.2.1.2.2.2.1.1
  have hr6 := hn.2.1.2.2.2.2.2.2.1
  have hs7 := lw_lt hh6
  have ws7 := lw_lt hw6
  have hgm := gmF_t n (by omega) (fun i hi => (hP i (by omega)).2)
  have hM0 : ¬ (gmF P n) = 0 := fun z => by rw [z, l0] at hgm; omega
  have hg6 : (97 : Int) ^ n ≤ 97 ^ 6 := by
    have e : ∀ n : Nat, n < 7 → (97 : Int) ^ n ≤ 97 ^ 6 := by decide
    exact e n (by omega)
  refine R_aload_n rfl rfl ?_
  refine R_iload_n rfl rfl ?_
  refine R_iload_n rfl rfl ?_
  refine R_cV (as := [.int (nI S), .int (nI T)]) rfl rfl iv_M_minorOf (sp_mminorOf (S := S) (s := T) (hτ.1.mV hv (fun b => by unfold pQ; omega) (fun b => by unfold pQ; omega) (by unfold pQ; omega)) hs hS hT hc.symm) (by omega) rfl rfl rfl (by decide) rfl rfl (Nat.le_of_ble_eq_true rfl) (fun σ1 hσ1 => ?_)
  refine R_lload rfl rfl ?_
  refine R_lrem rfl hM0 ?_
  refine R_lload rfl rfl ?_
  refine R_ladd rfl ?_
  refine R_lload rfl rfl ?_
  refine R_lrem rfl hM0 ?_
  rw [show ((mnF f S w T) - (mnF f S w T) / (gmF P n) * (gmF P n) + (gmF P n)) - ((mnF f S w T) - (mnF f S w T) / (gmF P n) * (gmF P n) + (gmF P n)) / (gmF P n) * (gmF P n) = fmL (mnF f S w T) (gmF P n) from rm_fm hgm.1 (Int.le_trans hgm.2 hg6)]
  refine R_lstore rfl (by decide) ?_
  refine R_ldc2 (v := 2) rfl (by decide) ?_
  refine R_lload rfl rfl ?_
  refine R_lmul rfl ?_
  refine R_lload rfl rfl ?_
  refine R_l_le rfl rfl rfl (fun g1 => ?_) (fun g1 => ?_)
  · refine R_lload rfl rfl ?_
    exact T_lreturn rfl rfl (am_okl (by unfold gsF; exact (if_neg (by rw [Int64.lt_iff_toInt_lt]; rw [Int64.le_iff_toInt_le] at g1; omega)).symm) ⟨(hτ.1.trans (hσ1.mono (q := pQ) pQ_K)), ((hσ1.i (by unfold pK; omega)).trans hτ.2)⟩)
  · refine R_lload rfl rfl ?_
    refine R_lload rfl rfl ?_
    refine R_lsub rfl ?_
    refine R_goto rfl rfl ?_
    exact T_lreturn rfl rfl (am_okl (by unfold gsF; exact (if_pos (by rw [Int64.lt_iff_toInt_lt]; rw [Int64.le_iff_toInt_le] at g1; omega)).symm) ⟨(hτ.1.trans (hσ1.mono (q := pQ) pQ_K)), ((hσ1.i (by unfold pK; omega)).trans hτ.2)⟩)
set_option maxRecDepth 100000 in
set_option maxHeartbeats 4000000 in
theorem sp_M_guessed {σ : am_G} {h w rh pn : Nat} {f v rl : am_Gr} {I : Nat → Int32} {P : Nat → Nat} {n : Nat} {S T : Nat} (hn : nV σ h w f v rh rl pn I) (n_k : n ≤ pn) (hS : S < 2 ^ h) (hT : T < 2 ^ w) (hc : pc S = pc T) (hP : prP pn I P) : am_Call am_TX 14 0 c_M_guessed [.ref 120, .int (nI S), .int (nI T), .int (nI n)] (mm σ) (am_Ok (some (.long (gsF (mnF f S w T) (gmF P n)))) (fun σ1 => smP pQ σ σ1 ∧ σ1.1 120 0 = 0)) := by
  have hv := hn.toV
  have hs := hn.2.1.2.1
  have hh1 := hv.1.1.1
  have hh6 := hv.1.1.2
  have hw1 := hv.1.2.1
  have hw6 := hv.1.2.2
  have hp6 := hn.2.1.2.2.2.1.1
  have hr6 := hn.2.1.2.2.2.2.2.2.1
  have hs7 := lw_lt hh6
  have ws7 := lw_lt hw6
  have hrg : (0 : Int32) ≤ nI n ∧ nI n ≤ nI pn := rg_n (k := pn) (by omega) (by omega)
  have hS6 := p2_64 hS hh6
  have hT6 := p2_64 hT hw6
  refine ⟨mf_M_guessed, Nat.le_of_ble_eq_true rfl, ?_⟩
  refine R_aload_n rfl rfl ?_
  refine R_iload_n rfl rfl ?_
  refine R_i2l rfl ?_
  refine R_lconst (v := 0) rfl rfl ?_
  refine R_aload_n rfl rfl ?_
  refine R_iconst (v := 2) rfl rfl ?_
  refine R_cV (as := [.int 2]) rfl rfl iv_M_get (mget_x hn (j := 2) (by omega) hn.1.2.1.1) (by omega) rfl rfl rfl (by decide) rfl rfl (Nat.le_of_ble_eq_true rfl) (fun _ q => ?_)
  obtain rfl := q.symm
  refine R_i2l rfl ?_
  refine R_cS (as := [.long ((nI n).toInt64), .long 0, .long ((nI pn).toInt64)]) rfl rfl iv_M_in (in_1 (x := nI n) (a := 0) (b := nI pn) hrg rfl rfl) (by omega) rfl rfl rfl rfl (Nat.le_of_ble_eq_true rfl) (fun _ q => ?_)
  obtain rfl := q.symm
  refine R_if_eq rfl rfl (fun z => absurd z (by decide)) (fun _ => ?_)
  refine R_aload_n rfl rfl ?_
  refine R_iload_n rfl rfl ?_
  refine R_iload_n rfl rfl ?_
  refine R_cV (as := [.int (nI S), .int (nI T)]) rfl rfl iv_M_arePart (arePart_1 hn hS hT hc) (by omega) rfl rfl rfl (by decide) rfl rfl (Nat.le_of_ble_eq_true rfl) (fun _ q => ?_)
  obtain rfl := q.symm
  refine R_if_eq rfl rfl (fun z => absurd z (by decide)) (fun _ => ?_)
  refine R_iconst (v := 1) rfl rfl ?_
  refine R_goto rfl rfl ?_
  refine R_cV (as := [.int 1]) rfl rfl iv_M_passes (pass_1) (by omega) rfl rfl rfl (by decide) rfl rfl (Nat.le_of_ble_eq_true rfl) (fun _ q => ?_)
  obtain rfl := q.symm
  refine R_if_ne rfl rfl (fun _ => ?_) (fun z => absurd z (by decide))
  refine R_lconst (v := 1) rfl rfl ?_
  refine R_lstore rfl (by decide) ?_
  refine R_iconst (v := 0) rfl rfl ?_
  refine R_istore rfl (by decide) ?_
  exact (lp_mgs hn hP n_k (by omega) (fun τ hτ => (en_mgs hn hP n_k hS hT hc (by omega) hτ).weak ⟨rfl, rfl, rfl, rfl, rfl, rfl, trivial⟩) n 0 _ (by omega) ⟨(smP_sI (p := pQ) (k := 120) (j := 0) (x := 0) (by unfold pQ; omega)), sI_s⟩).weak ⟨rfl, rfl, rfl, rfl, rfl, rfl, trivial⟩
set_option maxRecDepth 100000 in
set_option maxHeartbeats 4000000 in
theorem sp_M_guessed_x0 {σ : am_G} {h w rh pn : Nat} {f v rl : am_Gr} {I : Nat → Int32} {S_ : Int32} {T_ : Int32} {x : Int32} (hn : nV σ h w f v rh rl pn I) (hb : ¬ (0 ≤ x ∧ x ≤ nI pn)) : am_Call am_TX 14 0 c_M_guessed [.ref 120, .int S_, .int T_, .int x] (mm σ) (am_Ok (some (.long 0)) (fun σ1 => smP pQ σ σ1 ∧ σ1.1 120 0 = 1)) := by
  have hv := hn.toV
  have hs := hn.2.1.2.1
  have hh1 := hv.1.1.1
  have hh6 := hv.1.1.2
  have hw1 := hv.1.2.1
  have hw6 := hv.1.2.2
  have hp6 := hn.2.1.2.2.2.1.1
  have hr6 := hn.2.1.2.2.2.2.2.2.1
  have hs7 := lw_lt hh6
  have ws7 := lw_lt hw6
  refine ⟨mf_M_guessed, Nat.le_of_ble_eq_true rfl, ?_⟩
  refine R_aload_n rfl rfl ?_
  refine R_iload_n rfl rfl ?_
  refine R_i2l rfl ?_
  refine R_lconst (v := 0) rfl rfl ?_
  refine R_aload_n rfl rfl ?_
  refine R_iconst (v := 2) rfl rfl ?_
  refine R_cV (as := [.int 2]) rfl rfl iv_M_get (mget_x hn (j := 2) (by omega) hn.1.2.1.1) (by omega) rfl rfl rfl (by decide) rfl rfl (Nat.le_of_ble_eq_true rfl) (fun _ q => ?_)
  obtain rfl := q.symm
  refine R_i2l rfl ?_
  refine R_cS (as := [.long x.toInt64, .long 0, .long ((nI pn).toInt64)]) rfl rfl iv_M_in (in_0 (x := x) (a := 0) (b := nI pn) hb rfl rfl) (by omega) rfl rfl rfl rfl (Nat.le_of_ble_eq_true rfl) (fun _ q => ?_)
  obtain rfl := q.symm
  refine R_if_eq rfl rfl (fun _ => ?_) (fun z => absurd z (by decide))
  refine R_iconst (v := 0) rfl rfl ?_
  refine R_cV (as := [.int 0]) rfl rfl iv_M_passes (pass_0) (by omega) rfl rfl rfl (by decide) rfl rfl (Nat.le_of_ble_eq_true rfl) (fun _ q => ?_)
  obtain rfl := q.symm
  refine R_if_ne rfl rfl (fun z => absurd z (by decide)) (fun _ => ?_)
  refine R_lconst (v := 0) rfl rfl ?_
  exact T_lreturn rfl rfl (am_okl rfl ⟨(smP_sI (p := pQ) (k := 120) (j := 0) (x := 1) (by unfold pQ; omega)), sI_s⟩)
set_option maxRecDepth 100000 in
set_option maxHeartbeats 4000000 in
theorem sp_M_guessed_x1x {σ : am_G} {h w rh pn : Nat} {f v rl : am_Gr} {I : Nat → Int32} {n : Nat} {T_ : Int32} {x : Int32} (hn : nV σ h w f v rh rl pn I) (n_k : n ≤ pn) (hb : ¬ x &&& (nI (2 ^ h - 1) ^^^ (-1)) = 0) : am_Call am_TX 14 0 c_M_guessed [.ref 120, .int x, .int T_, .int (nI n)] (mm σ) (am_Ok (some (.long 0)) (fun σ1 => smP pQ σ σ1 ∧ σ1.1 120 0 = 1)) := by
  have hv := hn.toV
  have hs := hn.2.1.2.1
  have hh1 := hv.1.1.1
  have hh6 := hv.1.1.2
  have hw1 := hv.1.2.1
  have hw6 := hv.1.2.2
  have hp6 := hn.2.1.2.2.2.1.1
  have hr6 := hn.2.1.2.2.2.2.2.2.1
  have hs7 := lw_lt hh6
  have ws7 := lw_lt hw6
  have hrg : (0 : Int32) ≤ nI n ∧ nI n ≤ nI pn := rg_n (k := pn) (by omega) (by omega)
  refine ⟨mf_M_guessed, Nat.le_of_ble_eq_true rfl, ?_⟩
  refine R_aload_n rfl rfl ?_
  refine R_iload_n rfl rfl ?_
  refine R_i2l rfl ?_
  refine R_lconst (v := 0) rfl rfl ?_
  refine R_aload_n rfl rfl ?_
  refine R_iconst (v := 2) rfl rfl ?_
  refine R_cV (as := [.int 2]) rfl rfl iv_M_get (mget_x hn (j := 2) (by omega) hn.1.2.1.1) (by omega) rfl rfl rfl (by decide) rfl rfl (Nat.le_of_ble_eq_true rfl) (fun _ q => ?_)
  obtain rfl := q.symm
  refine R_i2l rfl ?_
  refine R_cS (as := [.long ((nI n).toInt64), .long 0, .long ((nI pn).toInt64)]) rfl rfl iv_M_in (in_1 (x := nI n) (a := 0) (b := nI pn) hrg rfl rfl) (by omega) rfl rfl rfl rfl (Nat.le_of_ble_eq_true rfl) (fun _ q => ?_)
  obtain rfl := q.symm
  refine R_if_eq rfl rfl (fun z => absurd z (by decide)) (fun _ => ?_)
  refine R_aload_n rfl rfl ?_
  refine R_iload_n rfl rfl ?_
  refine R_iload_n rfl rfl ?_
  refine R_cV (as := [.int x, .int T_]) rfl rfl iv_M_arePart (arePart_x hn hb) (by omega) rfl rfl rfl (by decide) rfl rfl (Nat.le_of_ble_eq_true rfl) (fun _ q => ?_)
  obtain rfl := q.symm
  refine R_if_eq rfl rfl (fun _ => ?_) (fun z => absurd z (by decide))
  refine R_iconst (v := 0) rfl rfl ?_
  refine R_cV (as := [.int 0]) rfl rfl iv_M_passes (pass_0) (by omega) rfl rfl rfl (by decide) rfl rfl (Nat.le_of_ble_eq_true rfl) (fun _ q => ?_)
  obtain rfl := q.symm
  refine R_if_ne rfl rfl (fun z => absurd z (by decide)) (fun _ => ?_)
  refine R_lconst (v := 0) rfl rfl ?_
  exact T_lreturn rfl rfl (am_okl rfl ⟨(smP_sI (p := pQ) (k := 120) (j := 0) (x := 1) (by unfold pQ; omega)), sI_s⟩)
set_option maxRecDepth 100000 in
set_option maxHeartbeats 4000000 in
theorem sp_M_guessed_x1y {σ : am_G} {h w rh pn : Nat} {f v rl : am_Gr} {I : Nat → Int32} {n : Nat} {S : Int32} {x : Int32} (hn : nV σ h w f v rh rl pn I) (n_k : n ≤ pn) (hs_ : S &&& (nI (2 ^ h - 1) ^^^ (-1)) = 0) (hb : ¬ x &&& (nI (2 ^ w - 1) ^^^ (-1)) = 0) : am_Call am_TX 14 0 c_M_guessed [.ref 120, .int S, .int x, .int (nI n)] (mm σ) (am_Ok (some (.long 0)) (fun σ1 => smP pQ σ σ1 ∧ σ1.1 120 0 = 1)) := by
  have hv := hn.toV
  have hs := hn.2.1.2.1
  have hh1 := hv.1.1.1
  have hh6 := hv.1.1.2
  have hw1 := hv.1.2.1
  have hw6 := hv.1.2.2
  have hp6 := hn.2.1.2.2.2.1.1
  have hr6 := hn.2.1.2.2.2.2.2.2.1
  have hs7 := lw_lt hh6
  have ws7 := lw_lt hw6
  have hrg : (0 : Int32) ≤ nI n ∧ nI n ≤ nI pn := rg_n (k := pn) (by omega) (by omega)
  refine ⟨mf_M_guessed, Nat.le_of_ble_eq_true rfl, ?_⟩
  refine R_aload_n rfl rfl ?_
  refine R_iload_n rfl rfl ?_
  refine R_i2l rfl ?_
  refine R_lconst (v := 0) rfl rfl ?_
  refine R_aload_n rfl rfl ?_
  refine R_iconst (v := 2) rfl rfl ?_
  refine R_cV (as := [.int 2]) rfl rfl iv_M_get (mget_x hn (j := 2) (by omega) hn.1.2.1.1) (by omega) rfl rfl rfl (by decide) rfl rfl (Nat.le_of_ble_eq_true rfl) (fun _ q => ?_)
  obtain rfl := q.symm
  refine R_i2l rfl ?_
  refine R_cS (as := [.long ((nI n).toInt64), .long 0, .long ((nI pn).toInt64)]) rfl rfl iv_M_in (in_1 (x := nI n) (a := 0) (b := nI pn) hrg rfl rfl) (by omega) rfl rfl rfl rfl (Nat.le_of_ble_eq_true rfl) (fun _ q => ?_)
  obtain rfl := q.symm
  refine R_if_eq rfl rfl (fun z => absurd z (by decide)) (fun _ => ?_)
  refine R_aload_n rfl rfl ?_
  refine R_iload_n rfl rfl ?_
  refine R_iload_n rfl rfl ?_
  refine R_cV (as := [.int S, .int x]) rfl rfl iv_M_arePart (arePart_y hn hs_ hb) (by omega) rfl rfl rfl (by decide) rfl rfl (Nat.le_of_ble_eq_true rfl) (fun _ q => ?_)
  obtain rfl := q.symm
  refine R_if_eq rfl rfl (fun _ => ?_) (fun z => absurd z (by decide))
  refine R_iconst (v := 0) rfl rfl ?_
  refine R_cV (as := [.int 0]) rfl rfl iv_M_passes (pass_0) (by omega) rfl rfl rfl (by decide) rfl rfl (Nat.le_of_ble_eq_true rfl) (fun _ q => ?_)
  obtain rfl := q.symm
  refine R_if_ne rfl rfl (fun z => absurd z (by decide)) (fun _ => ?_)
  refine R_lconst (v := 0) rfl rfl ?_
  exact T_lreturn rfl rfl (am_okl rfl ⟨(smP_sI (p := pQ) (k := 120) (j := 0) (x := 1) (by unfold pQ; omega)), sI_s⟩)
set_option maxRecDepth 100000 in
set_option maxHeartbeats 4000000 in
theorem sp_M_guessed_x1z {σ : am_G} {h w rh pn : Nat} {f v rl : am_Gr} {I : Nat → Int32} {n : Nat} {S T : Nat} (hn : nV σ h w f v rh rl pn I) (n_k : n ≤ pn) (hS : S < 2 ^ h) (hT : T < 2 ^ w) (hc : ¬ pc S = pc T) : am_Call am_TX 14 0 c_M_guessed [.ref 120, .int (nI S), .int (nI T), .int (nI n)] (mm σ) (am_Ok (some (.long 0)) (fun σ1 => smP pQ σ σ1 ∧ σ1.1 120 0 = 1)) := by
  have hv := hn.toV
  have hs := hn.2.1.2.1
  have hh1 := hv.1.1.1
  have hh6 := hv.1.1.2
  have hw1 := hv.1.2.1
  have hw6 := hv.1.2.2
  have hp6 := hn.2.1.2.2.2.1.1
  have hr6 := hn.2.1.2.2.2.2.2.2.1
  have hs7 := lw_lt hh6
  have ws7 := lw_lt hw6
  have hrg : (0 : Int32) ≤ nI n ∧ nI n ≤ nI pn := rg_n (k := pn) (by omega) (by omega)
  have hS6 := p2_64 hS hh6
  have hT6 := p2_64 hT hw6
  refine ⟨mf_M_guessed, Nat.le_of_ble_eq_true rfl, ?_⟩
  refine R_aload_n rfl rfl ?_
  refine R_iload_n rfl rfl ?_
  refine R_i2l rfl ?_
  refine R_lconst (v := 0) rfl rfl ?_
  refine R_aload_n rfl rfl ?_
  refine R_iconst (v := 2) rfl rfl ?_
  refine R_cV (as := [.int 2]) rfl rfl iv_M_get (mget_x hn (j := 2) (by omega) hn.1.2.1.1) (by omega) rfl rfl rfl (by decide) rfl rfl (Nat.le_of_ble_eq_true rfl) (fun _ q => ?_)
  obtain rfl := q.symm
  refine R_i2l rfl ?_
  refine R_cS (as := [.long ((nI n).toInt64), .long 0, .long ((nI pn).toInt64)]) rfl rfl iv_M_in (in_1 (x := nI n) (a := 0) (b := nI pn) hrg rfl rfl) (by omega) rfl rfl rfl rfl (Nat.le_of_ble_eq_true rfl) (fun _ q => ?_)
  obtain rfl := q.symm
  refine R_if_eq rfl rfl (fun z => absurd z (by decide)) (fun _ => ?_)
  refine R_aload_n rfl rfl ?_
  refine R_iload_n rfl rfl ?_
  refine R_iload_n rfl rfl ?_
  refine R_cV (as := [.int (nI S), .int (nI T)]) rfl rfl iv_M_arePart (arePart_z hn hS hT hc) (by omega) rfl rfl rfl (by decide) rfl rfl (Nat.le_of_ble_eq_true rfl) (fun _ q => ?_)
  obtain rfl := q.symm
  refine R_if_eq rfl rfl (fun _ => ?_) (fun z => absurd z (by decide))
  refine R_iconst (v := 0) rfl rfl ?_
  refine R_cV (as := [.int 0]) rfl rfl iv_M_passes (pass_0) (by omega) rfl rfl rfl (by decide) rfl rfl (Nat.le_of_ble_eq_true rfl) (fun _ q => ?_)
  obtain rfl := q.symm
  refine R_if_ne rfl rfl (fun z => absurd z (by decide)) (fun _ => ?_)
  refine R_lconst (v := 0) rfl rfl ?_
  exact T_lreturn rfl rfl (am_okl rfl ⟨(smP_sI (p := pQ) (k := 120) (j := 0) (x := 1) (by unfold pQ; omega)), sI_s⟩)
