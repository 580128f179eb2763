/-! ===== the rest of what the class answers ===== -/
theorem sp_primeAtV {σ : am_G} {h w rh pn p : Nat} {f v rl : am_Gr} {I : Nat → Int32} (hv : vS σ 26 h w f v rh rl pn I) (hp : p < 6) : am_Call am_TX 0 0 c_State_primeAt [.ref 26, .int (nI p)] (mm σ) (am_Ok (some (.int (I (8 + p)))) (fun σ1 => σ1 = σ)) := by
  have z := sp_primeAt (σ := σ) (s := 26) (p := p) isState_26 hp
  rw [show σ.1 (26 + 9) p = I (8 + p) from hv.2.2.2.2.2.2.2.2.2 p hp] at z
  exact z
theorem rg_g {lo n k : Nat} (h1 : lo ≤ n) (h : n ≤ k) (hk : k < 2 ^ 31) : nI lo ≤ nI n ∧ nI n ≤ nI k := by
  rw [Int32.le_iff_toInt_le, Int32.le_iff_toInt_le, nI_toInt (by omega), nI_toInt (by omega), nI_toInt hk]
  omega
/-- the primes that were told -/
def prP (pn : Nat) (I : Nat → Int32) (P : Nat → Nat) : Prop := ∀ j, j < pn → I (8 + j) = nI (P j) ∧ P j ∈ prL
theorem im31 : isMat 31 := ⟨rfl, rfl, rfl⟩
theorem im33 : isMat 33 := ⟨rfl, rfl, rfl⟩
theorem im17 : isMat 17 := ⟨rfl, rfl, rfl⟩
set_option maxRecDepth 100000 in
set_option maxHeartbeats 4000000 in
theorem sp_D_count_0 {σ : am_G} {h w rh pn : Nat} {f v rl : am_Gr} {I : Nat → Int32} (hv : vS σ 26 h w f v rh rl pn I) : am_Call am_TX 8 0 c_D_count [.ref 0, .int 0] (mm σ) (am_Ok (some (.int (nI h))) (fun σ1 => smP (plc 17 26) σ σ1)) := by
  have hh6 := hv.1.1.2
  have hw6 := hv.1.2.1.2
  have hr6 := hv.2.2.1.1.2
  have hp6 := hv.2.2.2.1.2
  have hrg : (0 : Int32) ≤ 0 ∧ (0 : Int32) ≤ 6 := by decide
  refine ⟨mf_D_count, Nat.le_of_ble_eq_true rfl, ?_⟩
  refine R_aload_n rfl rfl ?_
  refine R_iload_n rfl rfl ?_
  refine R_iconst (v := 0) rfl rfl ?_
  refine R_bipush (v := 6) rfl (by decide) ?_
  refine R_cV (as := [.int 0, .int 0, .int 6]) rfl rfl iv_D_requireRange (sp_requireRange hrg) (by decide) rfl rfl rfl (by decide) rfl rfl (Nat.le_of_ble_eq_true rfl) (fun _ q => ?_)
  obtain rfl := q.symm
  refine R_iload_n rfl rfl ?_
  refine R_tswIn (off := 39) (tgt := 48) rfl (by decide) (by decide) rfl rfl ?_
  refine R_aload_n rfl rfl ?_
  refine R_gP (x := 26) rfl rfl fp_10_6 rfl ?_
  refine R_gP (x := 27) rfl rfl fp_9_0 rfl ?_
  refine R_gIN (n := h) rfl rfl fd_4_0 hv.1.1.1 ?_
  exact T_ireturn rfl rfl (am_oki rfl smP.refl)
set_option maxRecDepth 100000 in
set_option maxHeartbeats 4000000 in
theorem sp_D_count_1 {σ : am_G} {h w rh pn : Nat} {f v rl : am_Gr} {I : Nat → Int32} (hv : vS σ 26 h w f v rh rl pn I) : am_Call am_TX 8 0 c_D_count [.ref 0, .int 1] (mm σ) (am_Ok (some (.int (nI w))) (fun σ1 => smP (plc 17 26) σ σ1)) := by
  have hh6 := hv.1.1.2
  have hw6 := hv.1.2.1.2
  have hr6 := hv.2.2.1.1.2
  have hp6 := hv.2.2.2.1.2
  have hrg : (0 : Int32) ≤ 1 ∧ (1 : Int32) ≤ 6 := by decide
  refine ⟨mf_D_count, Nat.le_of_ble_eq_true rfl, ?_⟩
  refine R_aload_n rfl rfl ?_
  refine R_iload_n rfl rfl ?_
  refine R_iconst (v := 0) rfl rfl ?_
  refine R_bipush (v := 6) rfl (by decide) ?_
  refine R_cV (as := [.int 1, .int 0, .int 6]) rfl rfl iv_D_requireRange (sp_requireRange hrg) (by decide) rfl rfl rfl (by decide) rfl rfl (Nat.le_of_ble_eq_true rfl) (fun _ q => ?_)
  obtain rfl := q.symm
  refine R_iload_n rfl rfl ?_
  refine R_tswIn (off := 50) (tgt := 59) rfl (by decide) (by decide) rfl rfl ?_
  refine R_aload_n rfl rfl ?_
  refine R_gP (x := 26) rfl rfl fp_10_6 rfl ?_
  refine R_gP (x := 27) rfl rfl fp_9_0 rfl ?_
  refine R_gIN (n := w) rfl rfl fd_4_1 hv.1.2.1.1 ?_
  exact T_ireturn rfl rfl (am_oki rfl smP.refl)
set_option maxRecDepth 100000 in
set_option maxHeartbeats 4000000 in
theorem sp_D_count_2 {σ : am_G} {h w rh pn : Nat} {f v rl : am_Gr} {I : Nat → Int32} (hv : vS σ 26 h w f v rh rl pn I) : am_Call am_TX 8 0 c_D_count [.ref 0, .int 2] (mm σ) (am_Ok (some (.int (nI pn))) (fun σ1 => smP (plc 17 26) σ σ1)) := by
  have hh6 := hv.1.1.2
  have hw6 := hv.1.2.1.2
  have hr6 := hv.2.2.1.1.2
  have hp6 := hv.2.2.2.1.2
  have hrg : (0 : Int32) ≤ 2 ∧ (2 : Int32) ≤ 6 := by decide
  refine ⟨mf_D_count, Nat.le_of_ble_eq_true rfl, ?_⟩
  refine R_aload_n rfl rfl ?_
  refine R_iload_n rfl rfl ?_
  refine R_iconst (v := 0) rfl rfl ?_
  refine R_bipush (v := 6) rfl (by decide) ?_
  refine R_cV (as := [.int 2, .int 0, .int 6]) rfl rfl iv_D_requireRange (sp_requireRange hrg) (by decide) rfl rfl rfl (by decide) rfl rfl (Nat.le_of_ble_eq_true rfl) (fun _ q => ?_)
  obtain rfl := q.symm
  refine R_iload_n rfl rfl ?_
  refine R_tswIn (off := 61) (tgt := 70) rfl (by decide) (by decide) rfl rfl ?_
  refine R_aload_n rfl rfl ?_
  refine R_gP (x := 26) rfl rfl fp_10_6 rfl ?_
  refine R_gIN (n := pn) rfl rfl fd_9_3 hv.2.2.2.1.1 ?_
  exact T_ireturn rfl rfl (am_oki rfl smP.refl)
set_option maxRecDepth 100000 in
set_option maxHeartbeats 4000000 in
theorem sp_D_count_3 {σ : am_G} {h w rh pn : Nat} {f v rl : am_Gr} {I : Nat → Int32} (hv : vS σ 26 h w f v rh rl pn I) : am_Call am_TX 8 0 c_D_count [.ref 0, .int 3] (mm σ) (am_Ok (some (.int (nI (cnG f w h)))) (fun σ1 => smP (plc 17 26) σ σ1)) := by
  have hh6 := hv.1.1.2
  have hw6 := hv.1.2.1.2
  have hr6 := hv.2.2.1.1.2
  have hp6 := hv.2.2.2.1.2
  have hrg : (0 : Int32) ≤ 3 ∧ (3 : Int32) ≤ 6 := by decide
  refine ⟨mf_D_count, Nat.le_of_ble_eq_true rfl, ?_⟩
  refine R_aload_n rfl rfl ?_
  refine R_iload_n rfl rfl ?_
  refine R_iconst (v := 0) rfl rfl ?_
  refine R_bipush (v := 6) rfl (by decide) ?_
  refine R_cV (as := [.int 3, .int 0, .int 6]) rfl rfl iv_D_requireRange (sp_requireRange hrg) (by decide) rfl rfl rfl (by decide) rfl rfl (Nat.le_of_ble_eq_true rfl) (fun _ q => ?_)
  obtain rfl := q.symm
  refine R_iload_n rfl rfl ?_
  refine R_tswIn (off := 69) (tgt := 78) rfl (by decide) (by decide) rfl rfl ?_
  refine R_aload_n rfl rfl ?_
  refine R_gP (x := 26) rfl rfl fp_10_6 rfl ?_
  refine R_gP (x := 27) rfl rfl fp_9_0 rfl ?_
  refine R_cV (as := []) rfl rfl iv_Matrix_filledCells (sp_Matrix_filledCells im27 hv.1) (by decide) rfl rfl rfl (by decide) rfl rfl (Nat.le_of_ble_eq_true rfl) (fun _ q => ?_)
  obtain rfl := q.symm
  exact T_ireturn rfl rfl (am_oki rfl smP.refl)
set_option maxRecDepth 100000 in
set_option maxHeartbeats 4000000 in
theorem sp_D_count_4 {σ : am_G} {h w rh pn : Nat} {f v rl : am_Gr} {I : Nat → Int32} (hv : vS σ 26 h w f v rh rl pn I) : am_Call am_TX 8 0 c_D_count [.ref 0, .int 4] (mm σ) (am_Ok (some (.int (nI rh))) (fun σ1 => smP (plc 17 26) σ σ1)) := by
  have hh6 := hv.1.1.2
  have hw6 := hv.1.2.1.2
  have hr6 := hv.2.2.1.1.2
  have hp6 := hv.2.2.2.1.2
  have hrg : (0 : Int32) ≤ 4 ∧ (4 : Int32) ≤ 6 := by decide
  refine ⟨mf_D_count, Nat.le_of_ble_eq_true rfl, ?_⟩
  refine R_aload_n rfl rfl ?_
  refine R_iload_n rfl rfl ?_
  refine R_iconst (v := 0) rfl rfl ?_
  refine R_bipush (v := 6) rfl (by decide) ?_
  refine R_cV (as := [.int 4, .int 0, .int 6]) rfl rfl iv_D_requireRange (sp_requireRange hrg) (by decide) rfl rfl rfl (by decide) rfl rfl (Nat.le_of_ble_eq_true rfl) (fun _ q => ?_)
  obtain rfl := q.symm
  refine R_iload_n rfl rfl ?_
  refine R_tswIn (off := 80) (tgt := 89) rfl (by decide) (by decide) rfl rfl ?_
  refine R_aload_n rfl rfl ?_
  refine R_gP (x := 26) rfl rfl fp_10_6 rfl ?_
  refine R_gP (x := 30) rfl rfl fp_9_2 rfl ?_
  refine R_gP (x := 33) rfl rfl fp_0_1 rfl ?_
  refine R_gIN (n := rh) rfl rfl fd_4_0 hv.2.2.1.1.1 ?_
  exact T_ireturn rfl rfl (am_oki rfl smP.refl)
set_option maxRecDepth 100000 in
set_option maxHeartbeats 4000000 in
theorem sp_D_count_5 {σ : am_G} {h w rh pn : Nat} {f v rl : am_Gr} {I : Nat → Int32} (hv : vS σ 26 h w f v rh rl pn I) : am_Call am_TX 8 0 c_D_count [.ref 0, .int 5] (mm σ) (am_Ok (some (.int (I 0))) (fun σ1 => smP (plc 17 26) σ σ1)) := by
  have hh6 := hv.1.1.2
  have hw6 := hv.1.2.1.2
  have hr6 := hv.2.2.1.1.2
  have hp6 := hv.2.2.2.1.2
  have hrg : (0 : Int32) ≤ 5 ∧ (5 : Int32) ≤ 6 := by decide
  refine ⟨mf_D_count, Nat.le_of_ble_eq_true rfl, ?_⟩
  refine R_aload_n rfl rfl ?_
  refine R_iload_n rfl rfl ?_
  refine R_iconst (v := 0) rfl rfl ?_
  refine R_bipush (v := 6) rfl (by decide) ?_
  refine R_cV (as := [.int 5, .int 0, .int 6]) rfl rfl iv_D_requireRange (sp_requireRange hrg) (by decide) rfl rfl rfl (by decide) rfl rfl (Nat.le_of_ble_eq_true rfl) (fun _ q => ?_)
  obtain rfl := q.symm
  refine R_iload_n rfl rfl ?_
  refine R_tswIn (off := 94) (tgt := 103) rfl (by decide) (by decide) rfl rfl ?_
  refine R_aload_n rfl rfl ?_
  refine R_gP (x := 26) rfl rfl fp_10_6 rfl ?_
  refine R_gIX (x := (I 0)) rfl rfl fd_9_4 hv.2.2.2.2.1 ?_
  exact T_ireturn rfl rfl (am_oki rfl smP.refl)
set_option maxRecDepth 100000 in
set_option maxHeartbeats 4000000 in
theorem sp_D_count_6 {σ : am_G} {h w rh pn : Nat} {f v rl : am_Gr} {I : Nat → Int32} (hv : vS σ 26 h w f v rh rl pn I) : am_Call am_TX 8 0 c_D_count [.ref 0, .int 6] (mm σ) (am_Ok (some (.int (I 1))) (fun σ1 => smP (plc 17 26) σ σ1)) := by
  have hh6 := hv.1.1.2
  have hw6 := hv.1.2.1.2
  have hr6 := hv.2.2.1.1.2
  have hp6 := hv.2.2.2.1.2
  have hrg : (0 : Int32) ≤ 6 ∧ (6 : Int32) ≤ 6 := by decide
  refine ⟨mf_D_count, Nat.le_of_ble_eq_true rfl, ?_⟩
  refine R_aload_n rfl rfl ?_
  refine R_iload_n rfl rfl ?_
  refine R_iconst (v := 0) rfl rfl ?_
  refine R_bipush (v := 6) rfl (by decide) ?_
  refine R_cV (as := [.int 6, .int 0, .int 6]) rfl rfl iv_D_requireRange (sp_requireRange hrg) (by decide) rfl rfl rfl (by decide) rfl rfl (Nat.le_of_ble_eq_true rfl) (fun _ q => ?_)
  obtain rfl := q.symm
  refine R_iload_n rfl rfl ?_
  refine R_tswOut (tgt := 111) rfl (by decide) rfl ?_
  refine R_aload_n rfl rfl ?_
  refine R_gP (x := 26) rfl rfl fp_10_6 rfl ?_
  refine R_gIX (x := (I 1)) rfl rfl fd_9_5 hv.2.2.2.2.2.1 ?_
  exact T_ireturn rfl rfl (am_oki rfl smP.refl)
set_option maxRecDepth 100000 in
set_option maxHeartbeats 4000000 in
theorem sp_D_count_x0 {σ : am_G} {h w rh pn : Nat} {f v rl : am_Gr} {I : Nat → Int32} {x : Int32} (hv : vS σ 26 h w f v rh rl pn I) (hb : ¬ (0 ≤ x ∧ x ≤ 6)) : am_Call am_TX 8 1 c_D_count [.ref 0, .int x] (mm σ) (am_ThP "java/lang/IllegalArgumentException" (fun σ1 => smP (plc 17 26) σ σ1)) := by
  have hh6 := hv.1.1.2
  have hw6 := hv.1.2.1.2
  have hr6 := hv.2.2.1.1.2
  have hp6 := hv.2.2.2.1.2
  refine ⟨mf_D_count, Nat.le_of_ble_eq_true rfl, ?_⟩
  refine R_aload_n rfl rfl ?_
  refine R_iload_n rfl rfl ?_
  refine R_iconst (v := 0) rfl rfl ?_
  refine R_bipush (v := 6) rfl (by decide) ?_
  refine R_cVxP (k := 0) (as := [.int x, .int 0, .int 6]) rfl rfl iv_D_requireRange (sp_requireRange_x hb) (by decide) rfl rfl rfl (by decide) rfl rfl (Nat.le_of_ble_eq_true rfl) (fun σ' hσ' => Rx_out rfl ⟨σ', rfl, by rw [hσ']; exact smP.refl⟩)
set_option maxRecDepth 100000 in
set_option maxHeartbeats 4000000 in
theorem sp_D_prime {σ : am_G} {h w rh pn : Nat} {f v rl : am_Gr} {I : Nat → Int32} {p : Nat} (hv : vS σ 26 h w f v rh rl pn I) (p_p : p < pn) : am_Call am_TX 8 0 c_D_prime [.ref 0, .int (nI p)] (mm σ) (am_Ok (some (.int (I (8 + p)))) (fun σ1 => smP (plc 17 26) σ σ1)) := by
  have hh6 := hv.1.1.2
  have hw6 := hv.1.2.1.2
  have hr6 := hv.2.2.1.1.2
  have hp6 := hv.2.2.2.1.2
  refine ⟨mf_D_prime, Nat.le_of_ble_eq_true rfl, ?_⟩
  refine R_aload_n rfl rfl ?_
  refine R_iload_n rfl rfl ?_
  refine R_cV (as := [.int (nI p)]) rfl rfl iv_D_requirePlace (sp_requirePlace (r := p) hv (by omega)) (by decide) rfl rfl rfl (by decide) rfl rfl (Nat.le_of_ble_eq_true rfl) (fun _ q => ?_)
  obtain rfl := q.symm
  refine R_aload_n rfl rfl ?_
  refine R_gP (x := 26) rfl rfl fp_10_6 rfl ?_
  refine R_iload_n rfl rfl ?_
  refine R_cV (as := [.int (nI p)]) rfl rfl iv_State_primeAt (sp_primeAtV (p := p) hv (by omega)) (by decide) rfl rfl rfl (by decide) rfl rfl (Nat.le_of_ble_eq_true rfl) (fun _ q => ?_)
  obtain rfl := q.symm
  exact T_ireturn rfl rfl (am_oki rfl smP.refl)
set_option maxRecDepth 100000 in
set_option maxHeartbeats 4000000 in
theorem sp_D_prime_x0 {σ : am_G} {h w rh pn : Nat} {f v rl : am_Gr} {I : Nat → Int32} {x : Int32} (hv : vS σ 26 h w f v rh rl pn I) (hb : ¬ (0 ≤ x ∧ x < nI pn)) : am_Call am_TX 8 1 c_D_prime [.ref 0, .int x] (mm σ) (am_ThP "java/lang/IndexOutOfBoundsException" (fun σ1 => smP (plc 17 26) σ σ1)) := by
  have hh6 := hv.1.1.2
  have hw6 := hv.1.2.1.2
  have hr6 := hv.2.2.1.1.2
  have hp6 := hv.2.2.2.1.2
  refine ⟨mf_D_prime, Nat.le_of_ble_eq_true rfl, ?_⟩
  refine R_aload_n rfl rfl ?_
  refine R_iload_n rfl rfl ?_
  refine R_cVxP (k := 0) (as := [.int x]) rfl rfl iv_D_requirePlace (sp_requirePlace_x hv hb) (by decide) rfl rfl rfl (by decide) rfl rfl (Nat.le_of_ble_eq_true rfl) (fun σ' hσ' => Rx_out rfl ⟨σ', rfl, by rw [hσ']; exact smP.refl⟩)
set_option maxRecDepth 100000 in
set_option maxHeartbeats 4000000 in
theorem sp_D_entry {σ : am_G} {h w rh pn : Nat} {f v rl : am_Gr} {I : Nat → Int32} {i : Nat} {j : Nat} (hv : vS σ 26 h w f v rh rl pn I) (i_h : i < h) (j_w : j < w) : am_Call am_TX 8 0 c_D_entry [.ref 0, .int (nI i), .int (nI j)] (mm σ) (am_Ok (some (.int (f i j).toInt32)) (fun σ1 => smP (plc 17 26) σ σ1)) := by
  have hh6 := hv.1.1.2
  have hw6 := hv.1.2.1.2
  have hr6 := hv.2.2.1.1.2
  have hp6 := hv.2.2.2.1.2
  refine ⟨mf_D_entry, Nat.le_of_ble_eq_true rfl, ?_⟩
  refine R_aload_n rfl rfl ?_
  refine R_iload_n rfl rfl ?_
  refine R_iload_n rfl rfl ?_
  refine R_cV (as := [.int (nI i), .int (nI j)]) rfl rfl iv_D_requireCell (sp_requireCell (i := i) (j := j) hv (by omega) (by omega)) (by decide) rfl rfl rfl (by decide) rfl rfl (Nat.le_of_ble_eq_true rfl) (fun _ q => ?_)
  obtain rfl := q.symm
  refine R_aload_n rfl rfl ?_
  refine R_gP (x := 26) rfl rfl fp_10_6 rfl ?_
  refine R_gP (x := 27) rfl rfl fp_9_0 rfl ?_
  refine R_iload_n rfl rfl ?_
  refine R_iload_n rfl rfl ?_
  refine R_cV (as := [.int (nI i), .int (nI j)]) rfl rfl iv_Matrix_at ((by have z := sp_Matrix_at (σ := σ) (k := 27) (i := i) (j := j) im27 (by omega) (by omega); rw [(hv.1).at (by omega) (by omega)] at z; exact z)) (by decide) rfl rfl rfl (by decide) rfl rfl (Nat.le_of_ble_eq_true rfl) (fun _ q => ?_)
  obtain rfl := q.symm
  refine R_l2i rfl ?_
  exact T_ireturn rfl rfl (am_oki rfl smP.refl)
set_option maxRecDepth 100000 in
set_option maxHeartbeats 4000000 in
theorem sp_D_entry_x0x {σ : am_G} {h w rh pn : Nat} {f v rl : am_Gr} {I : Nat → Int32} {j_ : Int32} {x : Int32} (hv : vS σ 26 h w f v rh rl pn I) (hb : ¬ (0 ≤ x ∧ x < nI h)) : am_Call am_TX 8 1 c_D_entry [.ref 0, .int x, .int j_] (mm σ) (am_ThP "java/lang/IndexOutOfBoundsException" (fun σ1 => smP (plc 17 26) σ σ1)) := by
  have hh6 := hv.1.1.2
  have hw6 := hv.1.2.1.2
  have hr6 := hv.2.2.1.1.2
  have hp6 := hv.2.2.2.1.2
  refine ⟨mf_D_entry, Nat.le_of_ble_eq_true rfl, ?_⟩
  refine R_aload_n rfl rfl ?_
  refine R_iload_n rfl rfl ?_
  refine R_iload_n rfl rfl ?_
  refine R_cVxP (k := 0) (as := [.int x, .int j_]) rfl rfl iv_D_requireCell (sp_requireCell_x hv hb) (by decide) rfl rfl rfl (by decide) rfl rfl (Nat.le_of_ble_eq_true rfl) (fun σ' hσ' => Rx_out rfl ⟨σ', rfl, by rw [hσ']; exact smP.refl⟩)
set_option maxRecDepth 100000 in
set_option maxHeartbeats 4000000 in
theorem sp_D_entry_x0y {σ : am_G} {h w rh pn : Nat} {f v rl : am_Gr} {I : Nat → Int32} {i : Nat} {x : Int32} (hv : vS σ 26 h w f v rh rl pn I) (i_h : i < h) (hb : ¬ (0 ≤ x ∧ x < nI w)) : am_Call am_TX 8 1 c_D_entry [.ref 0, .int (nI i), .int x] (mm σ) (am_ThP "java/lang/IndexOutOfBoundsException" (fun σ1 => smP (plc 17 26) σ σ1)) := by
  have hh6 := hv.1.1.2
  have hw6 := hv.1.2.1.2
  have hr6 := hv.2.2.1.1.2
  have hp6 := hv.2.2.2.1.2
  refine ⟨mf_D_entry, Nat.le_of_ble_eq_true rfl, ?_⟩
  refine R_aload_n rfl rfl ?_
  refine R_iload_n rfl rfl ?_
  refine R_iload_n rfl rfl ?_
  refine R_cVxP (k := 0) (as := [.int (nI i), .int x]) rfl rfl iv_D_requireCell (sp_requireCell_y hv (by omega) hb) (by decide) rfl rfl rfl (by decide) rfl rfl (Nat.le_of_ble_eq_true rfl) (fun σ' hσ' => Rx_out rfl ⟨σ', rfl, by rw [hσ']; exact smP.refl⟩)
set_option maxRecDepth 100000 in
set_option maxHeartbeats 4000000 in
theorem sp_D_spoils {σ : am_G} {h w rh pn : Nat} {f v rl : am_Gr} {I : Nat → Int32} {i : Nat} {j : Nat} (hv : vS σ 26 h w f v rh rl pn I) (i_h : i < h) (j_w : j < w) : am_Call am_TX 8 0 c_D_spoils [.ref 0, .int (nI i), .int (nI j)] (mm σ) (am_Ok (some (.int (nI (csN f h w i j 41)))) (fun σ1 => smP (plc 17 26) σ σ1)) := by
  have hh6 := hv.1.1.2
  have hw6 := hv.1.2.1.2
  have hr6 := hv.2.2.1.1.2
  have hp6 := hv.2.2.2.1.2
  refine ⟨mf_D_spoils, Nat.le_of_ble_eq_true rfl, ?_⟩
  refine R_aload_n rfl rfl ?_
  refine R_iload_n rfl rfl ?_
  refine R_iload_n rfl rfl ?_
  refine R_cV (as := [.int (nI i), .int (nI j)]) rfl rfl iv_D_requireCell (sp_requireCell (i := i) (j := j) hv (by omega) (by omega)) (by decide) rfl rfl rfl (by decide) rfl rfl (Nat.le_of_ble_eq_true rfl) (fun _ q => ?_)
  obtain rfl := q.symm
  refine R_aload_n rfl rfl ?_
  refine R_gP (x := 16) rfl rfl fp_10_4 rfl ?_
  refine R_aload_n rfl rfl ?_
  refine R_gP (x := 26) rfl rfl fp_10_6 rfl ?_
  refine R_gP (x := 27) rfl rfl fp_9_0 rfl ?_
  refine R_iload_n rfl rfl ?_
  refine R_iload_n rfl rfl ?_
  refine R_cV (as := [.ref 27, .int (nI i), .int (nI j)]) rfl rfl iv_Reckoner_countSpoilers (sp_countSpoilers (i := i) (j := j) hv.1 (by omega) (by omega)) (by decide) rfl rfl rfl (by decide) rfl rfl (Nat.le_of_ble_eq_true rfl) (fun σ2 hσ2 => ?_)
  exact T_ireturn rfl rfl (am_oki rfl (hσ2.mono (q := plc 17 26) (fun a b => by unfold pCs plc; omega)))
set_option maxRecDepth 100000 in
set_option maxHeartbeats 4000000 in
theorem sp_D_spoils_x0x {σ : am_G} {h w rh pn : Nat} {f v rl : am_Gr} {I : Nat → Int32} {j_ : Int32} {x : Int32} (hv : vS σ 26 h w f v rh rl pn I) (hb : ¬ (0 ≤ x ∧ x < nI h)) : am_Call am_TX 8 1 c_D_spoils [.ref 0, .int x, .int j_] (mm σ) (am_ThP "java/lang/IndexOutOfBoundsException" (fun σ1 => smP (plc 17 26) σ σ1)) := by
  have hh6 := hv.1.1.2
  have hw6 := hv.1.2.1.2
  have hr6 := hv.2.2.1.1.2
  have hp6 := hv.2.2.2.1.2
  refine ⟨mf_D_spoils, Nat.le_of_ble_eq_true rfl, ?_⟩
  refine R_aload_n rfl rfl ?_
  refine R_iload_n rfl rfl ?_
  refine R_iload_n rfl rfl ?_
  refine R_cVxP (k := 0) (as := [.int x, .int j_]) rfl rfl iv_D_requireCell (sp_requireCell_x hv hb) (by decide) rfl rfl rfl (by decide) rfl rfl (Nat.le_of_ble_eq_true rfl) (fun σ' hσ' => Rx_out rfl ⟨σ', rfl, by rw [hσ']; exact smP.refl⟩)
set_option maxRecDepth 100000 in
set_option maxHeartbeats 4000000 in
theorem sp_D_spoils_x0y {σ : am_G} {h w rh pn : Nat} {f v rl : am_Gr} {I : Nat → Int32} {i : Nat} {x : Int32} (hv : vS σ 26 h w f v rh rl pn I) (i_h : i < h) (hb : ¬ (0 ≤ x ∧ x < nI w)) : am_Call am_TX 8 1 c_D_spoils [.ref 0, .int (nI i), .int x] (mm σ) (am_ThP "java/lang/IndexOutOfBoundsException" (fun σ1 => smP (plc 17 26) σ σ1)) := by
  have hh6 := hv.1.1.2
  have hw6 := hv.1.2.1.2
  have hr6 := hv.2.2.1.1.2
  have hp6 := hv.2.2.2.1.2
  refine ⟨mf_D_spoils, Nat.le_of_ble_eq_true rfl, ?_⟩
  refine R_aload_n rfl rfl ?_
  refine R_iload_n rfl rfl ?_
  refine R_iload_n rfl rfl ?_
  refine R_cVxP (k := 0) (as := [.int (nI i), .int x]) rfl rfl iv_D_requireCell (sp_requireCell_y hv (by omega) hb) (by decide) rfl rfl rfl (by decide) rfl rfl (Nat.le_of_ble_eq_true rfl) (fun σ' hσ' => Rx_out rfl ⟨σ', rfl, by rw [hσ']; exact smP.refl⟩)
set_option maxRecDepth 100000 in
set_option maxHeartbeats 4000000 in
theorem sp_D_vector {σ : am_G} {h w rh pn : Nat} {f v rl : am_Gr} {I : Nat → Int32} {r : Nat} (hv : vS σ 26 h w f v rh rl pn I) (r_h : r < h) : am_Call am_TX 8 0 c_D_vector [.ref 0, .int (nI r)] (mm σ) (am_Ok (some (.int (v 0 r).toInt32)) (fun σ1 => smP (plc 17 26) σ σ1)) := by
  have hh6 := hv.1.1.2
  have hw6 := hv.1.2.1.2
  have hr6 := hv.2.2.1.1.2
  have hp6 := hv.2.2.2.1.2
  refine ⟨mf_D_vector, Nat.le_of_ble_eq_true rfl, ?_⟩
  refine R_aload_n rfl rfl ?_
  refine R_iload_n rfl rfl ?_
  refine R_cV (as := [.int (nI r)]) rfl rfl iv_D_requireRow (sp_requireRow (r := r) hv (by omega)) (by decide) rfl rfl rfl (by decide) rfl rfl (Nat.le_of_ble_eq_true rfl) (fun _ q => ?_)
  obtain rfl := q.symm
  refine R_aload_n rfl rfl ?_
  refine R_gP (x := 26) rfl rfl fp_10_6 rfl ?_
  refine R_gP (x := 30) rfl rfl fp_9_2 rfl ?_
  refine R_gP (x := 31) rfl rfl fp_0_0 rfl ?_
  refine R_iconst (v := 0) rfl rfl ?_
  refine R_iload_n rfl rfl ?_
  refine R_cV (as := [.int 0, .int (nI r)]) rfl rfl iv_Matrix_at ((by have z := sp_Matrix_at (σ := σ) (k := 31) (i := 0) (j := r) im31 (by omega) (by omega); rw [(hv.2.1).at (by omega) (by omega)] at z; exact z)) (by decide) rfl rfl rfl (by decide) rfl rfl (Nat.le_of_ble_eq_true rfl) (fun _ q => ?_)
  obtain rfl := q.symm
  refine R_l2i rfl ?_
  exact T_ireturn rfl rfl (am_oki rfl smP.refl)
set_option maxRecDepth 100000 in
set_option maxHeartbeats 4000000 in
theorem sp_D_vector_x0 {σ : am_G} {h w rh pn : Nat} {f v rl : am_Gr} {I : Nat → Int32} {x : Int32} (hv : vS σ 26 h w f v rh rl pn I) (hb : ¬ (0 ≤ x ∧ x < nI h)) : am_Call am_TX 8 1 c_D_vector [.ref 0, .int x] (mm σ) (am_ThP "java/lang/IndexOutOfBoundsException" (fun σ1 => smP (plc 17 26) σ σ1)) := by
  have hh6 := hv.1.1.2
  have hw6 := hv.1.2.1.2
  have hr6 := hv.2.2.1.1.2
  have hp6 := hv.2.2.2.1.2
  refine ⟨mf_D_vector, Nat.le_of_ble_eq_true rfl, ?_⟩
  refine R_aload_n rfl rfl ?_
  refine R_iload_n rfl rfl ?_
  refine R_cVxP (k := 0) (as := [.int x]) rfl rfl iv_D_requireRow (sp_requireRow_x hv hb) (by decide) rfl rfl rfl (by decide) rfl rfl (Nat.le_of_ble_eq_true rfl) (fun σ' hσ' => Rx_out rfl ⟨σ', rfl, by rw [hσ']; exact smP.refl⟩)
set_option maxRecDepth 100000 in
set_option maxHeartbeats 4000000 in
theorem sp_D_product {σ : am_G} {h w rh pn : Nat} {f v rl : am_Gr} {I : Nat → Int32} {c : Nat} (hv : vS σ 26 h w f v rh rl pn I) (c_w : c < w) : am_Call am_TX 8 0 c_D_product [.ref 0, .int (nI c)] (mm σ) (am_Ok (some (.int (smL (fun a => v 0 a * f a c) h).toInt32)) (fun σ1 => smP (plc 17 26) σ σ1)) := by
  have hh6 := hv.1.1.2
  have hw6 := hv.1.2.1.2
  have hr6 := hv.2.2.1.1.2
  have hp6 := hv.2.2.2.1.2
  refine ⟨mf_D_product, Nat.le_of_ble_eq_true rfl, ?_⟩
  refine R_aload_n rfl rfl ?_
  refine R_iload_n rfl rfl ?_
  refine R_cV (as := [.int (nI c)]) rfl rfl iv_D_requireColumn (sp_requireColumn (r := c) hv (by omega)) (by decide) rfl rfl rfl (by decide) rfl rfl (Nat.le_of_ble_eq_true rfl) (fun _ q => ?_)
  obtain rfl := q.symm
  refine R_aload_n rfl rfl ?_
  refine R_gP (x := 26) rfl rfl fp_10_6 rfl ?_
  refine R_gP (x := 30) rfl rfl fp_9_2 rfl ?_
  refine R_gP (x := 31) rfl rfl fp_0_0 rfl ?_
  refine R_iconst (v := 0) rfl rfl ?_
  refine R_aload_n rfl rfl ?_
  refine R_gP (x := 26) rfl rfl fp_10_6 rfl ?_
  refine R_gP (x := 27) rfl rfl fp_9_0 rfl ?_
  refine R_iload_n rfl rfl ?_
  refine R_cV (as := [.int 0, .ref 27, .int (nI c)]) rfl rfl iv_Matrix_combination (sp_Matrix_combination (r := 0) (c := c) im31 hv.2.1 im27 hv.1 (by omega) (by omega)) (by decide) rfl rfl rfl (by decide) rfl rfl (Nat.le_of_ble_eq_true rfl) (fun _ q => ?_)
  obtain rfl := q.symm
  refine R_l2i rfl ?_
  exact T_ireturn rfl rfl (am_oki rfl smP.refl)
set_option maxRecDepth 100000 in
set_option maxHeartbeats 4000000 in
theorem sp_D_product_x0 {σ : am_G} {h w rh pn : Nat} {f v rl : am_Gr} {I : Nat → Int32} {x : Int32} (hv : vS σ 26 h w f v rh rl pn I) (hb : ¬ (0 ≤ x ∧ x < nI w)) : am_Call am_TX 8 1 c_D_product [.ref 0, .int x] (mm σ) (am_ThP "java/lang/IndexOutOfBoundsException" (fun σ1 => smP (plc 17 26) σ σ1)) := by
  have hh6 := hv.1.1.2
  have hw6 := hv.1.2.1.2
  have hr6 := hv.2.2.1.1.2
  have hp6 := hv.2.2.2.1.2
  refine ⟨mf_D_product, Nat.le_of_ble_eq_true rfl, ?_⟩
  refine R_aload_n rfl rfl ?_
  refine R_iload_n rfl rfl ?_
  refine R_cVxP (k := 0) (as := [.int x]) rfl rfl iv_D_requireColumn (sp_requireColumn_x hv hb) (by decide) rfl rfl rfl (by decide) rfl rfl (Nat.le_of_ble_eq_true rfl) (fun σ' hσ' => Rx_out rfl ⟨σ', rfl, by rw [hσ']; exact smP.refl⟩)
set_option maxRecDepth 100000 in
set_option maxHeartbeats 4000000 in
theorem sp_D_claimed_0 {σ : am_G} {h w rh pn : Nat} {f v rl : am_Gr} {I : Nat → Int32} (hv : vS σ 26 h w f v rh rl pn I) : am_Call am_TX 8 0 c_D_claimed [.ref 0, .int 0] (mm σ) (am_Ok (some (.int (I 2))) (fun σ1 => smP (plc 17 26) σ σ1)) := by
  have hh6 := hv.1.1.2
  have hw6 := hv.1.2.1.2
  have hr6 := hv.2.2.1.1.2
  have hp6 := hv.2.2.2.1.2
  have hrg : (0 : Int32) ≤ 0 ∧ (0 : Int32) ≤ 1 := by decide
  refine ⟨mf_D_claimed, Nat.le_of_ble_eq_true rfl, ?_⟩
  refine R_aload_n rfl rfl ?_
  refine R_iload_n rfl rfl ?_
  refine R_iconst (v := 0) rfl rfl ?_
  refine R_iconst (v := 1) rfl rfl ?_
  refine R_cV (as := [.int 0, .int 0, .int 1]) rfl rfl iv_D_requireRange (sp_requireRange hrg) (by decide) rfl rfl rfl (by decide) rfl rfl (Nat.le_of_ble_eq_true rfl) (fun _ q => ?_)
  obtain rfl := q.symm
  refine R_iload_n rfl rfl ?_
  refine R_if_ne rfl rfl (fun z => absurd z (by decide)) (fun _ => ?_)
  refine R_aload_n rfl rfl ?_
  refine R_gP (x := 26) rfl rfl fp_10_6 rfl ?_
  refine R_gP (x := 30) rfl rfl fp_9_2 rfl ?_
  refine R_gIX (x := (I 2)) rfl rfl fd_0_2 hv.2.2.2.2.2.2.1 ?_
  refine R_goto rfl rfl ?_
  exact T_ireturn rfl rfl (am_oki rfl smP.refl)
set_option maxRecDepth 100000 in
set_option maxHeartbeats 4000000 in
theorem sp_D_claimed_1 {σ : am_G} {h w rh pn : Nat} {f v rl : am_Gr} {I : Nat → Int32} (hv : vS σ 26 h w f v rh rl pn I) : am_Call am_TX 8 0 c_D_claimed [.ref 0, .int 1] (mm σ) (am_Ok (some (.int (I 3))) (fun σ1 => smP (plc 17 26) σ σ1)) := by
  have hh6 := hv.1.1.2
  have hw6 := hv.1.2.1.2
  have hr6 := hv.2.2.1.1.2
  have hp6 := hv.2.2.2.1.2
  have hrg : (0 : Int32) ≤ 1 ∧ (1 : Int32) ≤ 1 := by decide
  refine ⟨mf_D_claimed, Nat.le_of_ble_eq_true rfl, ?_⟩
  refine R_aload_n rfl rfl ?_
  refine R_iload_n rfl rfl ?_
  refine R_iconst (v := 0) rfl rfl ?_
  refine R_iconst (v := 1) rfl rfl ?_
  refine R_cV (as := [.int 1, .int 0, .int 1]) rfl rfl iv_D_requireRange (sp_requireRange hrg) (by decide) rfl rfl rfl (by decide) rfl rfl (Nat.le_of_ble_eq_true rfl) (fun _ q => ?_)
  obtain rfl := q.symm
  refine R_iload_n rfl rfl ?_
  refine R_if_ne rfl rfl (fun _ => ?_) (fun z => absurd z (by decide))
  refine R_aload_n rfl rfl ?_
  refine R_gP (x := 26) rfl rfl fp_10_6 rfl ?_
  refine R_gP (x := 30) rfl rfl fp_9_2 rfl ?_
  refine R_gIX (x := (I 3)) rfl rfl fd_0_3 hv.2.2.2.2.2.2.2.1 ?_
  exact T_ireturn rfl rfl (am_oki rfl smP.refl)
set_option maxRecDepth 100000 in
set_option maxHeartbeats 4000000 in
theorem sp_D_claimed_x0 {σ : am_G} {h w rh pn : Nat} {f v rl : am_Gr} {I : Nat → Int32} {x : Int32} (hv : vS σ 26 h w f v rh rl pn I) (hb : ¬ (0 ≤ x ∧ x ≤ 1)) : am_Call am_TX 8 1 c_D_claimed [.ref 0, .int x] (mm σ) (am_ThP "java/lang/IllegalArgumentException" (fun σ1 => smP (plc 17 26) σ σ1)) := by
  have hh6 := hv.1.1.2
  have hw6 := hv.1.2.1.2
  have hr6 := hv.2.2.1.1.2
  have hp6 := hv.2.2.2.1.2
  refine ⟨mf_D_claimed, Nat.le_of_ble_eq_true rfl, ?_⟩
  refine R_aload_n rfl rfl ?_
  refine R_iload_n rfl rfl ?_
  refine R_iconst (v := 0) rfl rfl ?_
  refine R_iconst (v := 1) rfl rfl ?_
  refine R_cVxP (k := 0) (as := [.int x, .int 0, .int 1]) rfl rfl iv_D_requireRange (sp_requireRange_x hb) (by decide) rfl rfl rfl (by decide) rfl rfl (Nat.le_of_ble_eq_true rfl) (fun σ' hσ' => Rx_out rfl ⟨σ', rfl, by rw [hσ']; exact smP.refl⟩)
set_option maxRecDepth 100000 in
set_option maxHeartbeats 4000000 in
theorem sp_D_relationOf {σ : am_G} {h w rh pn : Nat} {f v rl : am_Gr} {I : Nat → Int32} {k : Nat} {r : Nat} (hv : vS σ 26 h w f v rh rl pn I) (k_r : k < rh) (r_h : r < h) : am_Call am_TX 8 0 c_D_relationOf [.ref 0, .int (nI k), .int (nI r)] (mm σ) (am_Ok (some (.long (rl k r))) (fun σ1 => smP (plc 17 26) σ σ1)) := by
  have hh6 := hv.1.1.2
  have hw6 := hv.1.2.1.2
  have hr6 := hv.2.2.1.1.2
  have hp6 := hv.2.2.2.1.2
  refine ⟨mf_D_relationOf, Nat.le_of_ble_eq_true rfl, ?_⟩
  refine R_aload_n rfl rfl ?_
  refine R_iload_n rfl rfl ?_
  refine R_cV (as := [.int (nI k)]) rfl rfl iv_D_requireRelation (sp_requireRelation (r := k) hv (by omega)) (by decide) rfl rfl rfl (by decide) rfl rfl (Nat.le_of_ble_eq_true rfl) (fun _ q => ?_)
  obtain rfl := q.symm
  refine R_aload_n rfl rfl ?_
  refine R_iload_n rfl rfl ?_
  refine R_cV (as := [.int (nI r)]) rfl rfl iv_D_requireRow (sp_requireRow (r := r) hv (by omega)) (by decide) rfl rfl rfl (by decide) rfl rfl (Nat.le_of_ble_eq_true rfl) (fun _ q => ?_)
  obtain rfl := q.symm
  refine R_aload_n rfl rfl ?_
  refine R_gP (x := 26) rfl rfl fp_10_6 rfl ?_
  refine R_gP (x := 30) rfl rfl fp_9_2 rfl ?_
  refine R_gP (x := 33) rfl rfl fp_0_1 rfl ?_
  refine R_iload_n rfl rfl ?_
  refine R_iload_n rfl rfl ?_
  refine R_cV (as := [.int (nI k), .int (nI r)]) rfl rfl iv_Matrix_at ((by have z := sp_Matrix_at (σ := σ) (k := 33) (i := k) (j := r) im33 (by omega) (by omega); rw [(hv.2.2.1).at (by omega) (by omega)] at z; exact z)) (by decide) rfl rfl rfl (by decide) rfl rfl (Nat.le_of_ble_eq_true rfl) (fun _ q => ?_)
  obtain rfl := q.symm
  exact T_lreturn rfl rfl (am_okl rfl smP.refl)
set_option maxRecDepth 100000 in
set_option maxHeartbeats 4000000 in
theorem sp_D_relationOf_x0 {σ : am_G} {h w rh pn : Nat} {f v rl : am_Gr} {I : Nat → Int32} {r_ : Int32} {x : Int32} (hv : vS σ 26 h w f v rh rl pn I) (hb : ¬ (0 ≤ x ∧ x < nI rh)) : am_Call am_TX 8 1 c_D_relationOf [.ref 0, .int x, .int r_] (mm σ) (am_ThP "java/lang/IndexOutOfBoundsException" (fun σ1 => smP (plc 17 26) σ σ1)) := by
  have hh6 := hv.1.1.2
  have hw6 := hv.1.2.1.2
  have hr6 := hv.2.2.1.1.2
  have hp6 := hv.2.2.2.1.2
  refine ⟨mf_D_relationOf, Nat.le_of_ble_eq_true rfl, ?_⟩
  refine R_aload_n rfl rfl ?_
  refine R_iload_n rfl rfl ?_
  refine R_cVxP (k := 0) (as := [.int x]) rfl rfl iv_D_requireRelation (sp_requireRelation_x hv hb) (by decide) rfl rfl rfl (by decide) rfl rfl (Nat.le_of_ble_eq_true rfl) (fun σ' hσ' => Rx_out rfl ⟨σ', rfl, by rw [hσ']; exact smP.refl⟩)
set_option maxRecDepth 100000 in
set_option maxHeartbeats 4000000 in
theorem sp_D_relationOf_x1 {σ : am_G} {h w rh pn : Nat} {f v rl : am_Gr} {I : Nat → Int32} {k : Nat} {x : Int32} (hv : vS σ 26 h w f v rh rl pn I) (k_r : k < rh) (hb : ¬ (0 ≤ x ∧ x < nI h)) : am_Call am_TX 8 1 c_D_relationOf [.ref 0, .int (nI k), .int x] (mm σ) (am_ThP "java/lang/IndexOutOfBoundsException" (fun σ1 => smP (plc 17 26) σ σ1)) := by
  have hh6 := hv.1.1.2
  have hw6 := hv.1.2.1.2
  have hr6 := hv.2.2.1.1.2
  have hp6 := hv.2.2.2.1.2
  refine ⟨mf_D_relationOf, Nat.le_of_ble_eq_true rfl, ?_⟩
  refine R_aload_n rfl rfl ?_
  refine R_iload_n rfl rfl ?_
  refine R_cV (as := [.int (nI k)]) rfl rfl iv_D_requireRelation (sp_requireRelation (r := k) hv (by omega)) (by decide) rfl rfl rfl (by decide) rfl rfl (Nat.le_of_ble_eq_true rfl) (fun _ q => ?_)
  obtain rfl := q.symm
  refine R_aload_n rfl rfl ?_
  refine R_iload_n rfl rfl ?_
  refine R_cVxP (k := 0) (as := [.int x]) rfl rfl iv_D_requireRow (sp_requireRow_x hv hb) (by decide) rfl rfl rfl (by decide) rfl rfl (Nat.le_of_ble_eq_true rfl) (fun σ' hσ' => Rx_out rfl ⟨σ', rfl, by rw [hσ']; exact smP.refl⟩)
set_option maxRecDepth 100000 in
set_option maxHeartbeats 4000000 in
theorem sp_D_head {σ : am_G} {h w rh pn : Nat} {f v rl : am_Gr} {I : Nat → Int32} {k : Nat} (hv : vS σ 26 h w f v rh rl pn I) (k_r : k < rh) (h1 : 1 ≤ h) : am_Call am_TX 8 0 c_D_head [.ref 0, .int (nI k)] (mm σ) (am_Ok (some (.int (hdF (rl k) h))) (fun σ1 => smP (plc 17 26) σ σ1)) := by
  have hh6 := hv.1.1.2
  have hw6 := hv.1.2.1.2
  have hr6 := hv.2.2.1.1.2
  have hp6 := hv.2.2.2.1.2
  refine ⟨mf_D_head, Nat.le_of_ble_eq_true rfl, ?_⟩
  refine R_aload_n rfl rfl ?_
  refine R_iload_n rfl rfl ?_
  refine R_cV (as := [.int (nI k)]) rfl rfl iv_D_requireRelation (sp_requireRelation (r := k) hv (by omega)) (by decide) rfl rfl rfl (by decide) rfl rfl (Nat.le_of_ble_eq_true rfl) (fun _ q => ?_)
  obtain rfl := q.symm
  refine R_aload_n rfl rfl ?_
  refine R_gP (x := 26) rfl rfl fp_10_6 rfl ?_
  refine R_gP (x := 30) rfl rfl fp_9_2 rfl ?_
  refine R_iload_n rfl rfl ?_
  refine R_cV (as := [.int (nI k)]) rfl rfl iv_Certificate_headOf (sp_headOf (s := 26) (r := k) isState_26 hv.2.2.1 (by omega) (by omega)) (by decide) rfl rfl rfl (by decide) rfl rfl (Nat.le_of_ble_eq_true rfl) (fun _ q => ?_)
  obtain rfl := q.symm
  exact T_ireturn rfl rfl (am_oki rfl smP.refl)
set_option maxRecDepth 100000 in
set_option maxHeartbeats 4000000 in
theorem sp_D_head_x0 {σ : am_G} {h w rh pn : Nat} {f v rl : am_Gr} {I : Nat → Int32} {x : Int32} (hv : vS σ 26 h w f v rh rl pn I) (hb : ¬ (0 ≤ x ∧ x < nI rh)) : am_Call am_TX 8 1 c_D_head [.ref 0, .int x] (mm σ) (am_ThP "java/lang/IndexOutOfBoundsException" (fun σ1 => smP (plc 17 26) σ σ1)) := by
  have hh6 := hv.1.1.2
  have hw6 := hv.1.2.1.2
  have hr6 := hv.2.2.1.1.2
  have hp6 := hv.2.2.2.1.2
  refine ⟨mf_D_head, Nat.le_of_ble_eq_true rfl, ?_⟩
  refine R_aload_n rfl rfl ?_
  refine R_iload_n rfl rfl ?_
  refine R_cVxP (k := 0) (as := [.int x]) rfl rfl iv_D_requireRelation (sp_requireRelation_x hv hb) (by decide) rfl rfl rfl (by decide) rfl rfl (Nat.le_of_ble_eq_true rfl) (fun σ' hσ' => Rx_out rfl ⟨σ', rfl, by rw [hσ']; exact smP.refl⟩)
set_option maxRecDepth 100000 in
set_option maxHeartbeats 4000000 in
theorem sp_D_holds {σ : am_G} {h w rh pn : Nat} {f v rl : am_Gr} {I : Nat → Int32} {k : Nat} (hv : vS σ 26 h w f v rh rl pn I) (k_r : k < rh) : am_Call am_TX 8 0 c_D_holds [.ref 0, .int (nI k)] (mm σ) (am_Ok (some (.int (zP (∀ c, c < w → smL (fun a => rl k a * f a c) h = 0)))) (fun σ1 => smP (plc 17 26) σ σ1)) := by
  have hh6 := hv.1.1.2
  have hw6 := hv.1.2.1.2
  have hr6 := hv.2.2.1.1.2
  have hp6 := hv.2.2.2.1.2
  refine ⟨mf_D_holds, Nat.le_of_ble_eq_true rfl, ?_⟩
  refine R_aload_n rfl rfl ?_
  refine R_iload_n rfl rfl ?_
  refine R_cV (as := [.int (nI k)]) rfl rfl iv_D_requireRelation (sp_requireRelation (r := k) hv (by omega)) (by decide) rfl rfl rfl (by decide) rfl rfl (Nat.le_of_ble_eq_true rfl) (fun _ q => ?_)
  obtain rfl := q.symm
  refine R_aload_n rfl rfl ?_
  refine R_gP (x := 26) rfl rfl fp_10_6 rfl ?_
  refine R_gP (x := 30) rfl rfl fp_9_2 rfl ?_
  refine R_iload_n rfl rfl ?_
  refine R_aload_n rfl rfl ?_
  refine R_gP (x := 26) rfl rfl fp_10_6 rfl ?_
  refine R_gP (x := 27) rfl rfl fp_9_0 rfl ?_
  refine R_cV (as := [.int (nI k), .ref 27]) rfl rfl iv_Certificate_isTrue (sp_isTrue (s := 26) (r := k) isState_26 hv.2.2.1 (by omega) im27 hv.1) (by decide) rfl rfl rfl (by decide) rfl rfl (Nat.le_of_ble_eq_true rfl) (fun _ q => ?_)
  obtain rfl := q.symm
  exact T_zreturn rfl rfl nr_zP (am_oki rfl smP.refl)
set_option maxRecDepth 100000 in
set_option maxHeartbeats 4000000 in
theorem sp_D_holds_x0 {σ : am_G} {h w rh pn : Nat} {f v rl : am_Gr} {I : Nat → Int32} {x : Int32} (hv : vS σ 26 h w f v rh rl pn I) (hb : ¬ (0 ≤ x ∧ x < nI rh)) : am_Call am_TX 8 1 c_D_holds [.ref 0, .int x] (mm σ) (am_ThP "java/lang/IndexOutOfBoundsException" (fun σ1 => smP (plc 17 26) σ σ1)) := by
  have hh6 := hv.1.1.2
  have hw6 := hv.1.2.1.2
  have hr6 := hv.2.2.1.1.2
  have hp6 := hv.2.2.2.1.2
  refine ⟨mf_D_holds, Nat.le_of_ble_eq_true rfl, ?_⟩
  refine R_aload_n rfl rfl ?_
  refine R_iload_n rfl rfl ?_
  refine R_cVxP (k := 0) (as := [.int x]) rfl rfl iv_D_requireRelation (sp_requireRelation_x hv hb) (by decide) rfl rfl rfl (by decide) rfl rfl (Nat.le_of_ble_eq_true rfl) (fun σ' hσ' => Rx_out rfl ⟨σ', rfl, by rw [hσ']; exact smP.refl⟩)
set_option maxRecDepth 100000 in
set_option maxHeartbeats 4000000 in
theorem sp_D_guess_0 {σ : am_G} {h w rh pn : Nat} {f v rl : am_Gr} {I : Nat → Int32} (hv : vS σ 26 h w f v rh rl pn I) : am_Call am_TX 8 0 c_D_guess [.ref 0, .int 0] (mm σ) (am_Ok (some (.int (I (4 + 0)))) (fun σ1 => smP (plc 17 26) σ σ1)) := by
  have hh6 := hv.1.1.2
  have hw6 := hv.1.2.1.2
  have hr6 := hv.2.2.1.1.2
  have hp6 := hv.2.2.2.1.2
  have hrg : (0 : Int32) ≤ 0 ∧ (0 : Int32) ≤ 4 := by decide
  refine ⟨mf_D_guess, Nat.le_of_ble_eq_true rfl, ?_⟩
  refine R_aload_n rfl rfl ?_
  refine R_iload_n rfl rfl ?_
  refine R_iconst (v := 0) rfl rfl ?_
  refine R_iconst (v := 4) rfl rfl ?_
  refine R_cV (as := [.int 0, .int 0, .int 4]) rfl rfl iv_D_requireRange (sp_requireRange hrg) (by decide) rfl rfl rfl (by decide) rfl rfl (Nat.le_of_ble_eq_true rfl) (fun _ q => ?_)
  obtain rfl := q.symm
  refine R_iload_n rfl rfl ?_
  refine R_iconst (v := 4) rfl rfl ?_
  refine R_icmp_ne rfl rfl (fun _ => ?_) (fun z => absurd z (by decide))
  refine R_aload_n rfl rfl ?_
  refine R_gP (x := 26) rfl rfl fp_10_6 rfl ?_
  refine R_gP (x := 29) rfl rfl fp_9_1 rfl ?_
  refine R_iload_n rfl rfl ?_
  refine R_cV (as := [.int 0]) rfl rfl iv_Guess_valueOf (sp_Guess_valueOf_0 (x := fun j => I (4 + j)) rfl (fun j hj => hv.2.2.2.2.2.2.2.2.1 j hj)) (by decide) rfl rfl rfl (by decide) rfl rfl (Nat.le_of_ble_eq_true rfl) (fun _ q => ?_)
  obtain rfl := q.symm
  exact T_ireturn rfl rfl (am_oki rfl smP.refl)
set_option maxRecDepth 100000 in
set_option maxHeartbeats 4000000 in
theorem sp_D_guess_1 {σ : am_G} {h w rh pn : Nat} {f v rl : am_Gr} {I : Nat → Int32} (hv : vS σ 26 h w f v rh rl pn I) : am_Call am_TX 8 0 c_D_guess [.ref 0, .int 1] (mm σ) (am_Ok (some (.int (I (4 + 1)))) (fun σ1 => smP (plc 17 26) σ σ1)) := by
  have hh6 := hv.1.1.2
  have hw6 := hv.1.2.1.2
  have hr6 := hv.2.2.1.1.2
  have hp6 := hv.2.2.2.1.2
  have hrg : (0 : Int32) ≤ 1 ∧ (1 : Int32) ≤ 4 := by decide
  refine ⟨mf_D_guess, Nat.le_of_ble_eq_true rfl, ?_⟩
  refine R_aload_n rfl rfl ?_
  refine R_iload_n rfl rfl ?_
  refine R_iconst (v := 0) rfl rfl ?_
  refine R_iconst (v := 4) rfl rfl ?_
  refine R_cV (as := [.int 1, .int 0, .int 4]) rfl rfl iv_D_requireRange (sp_requireRange hrg) (by decide) rfl rfl rfl (by decide) rfl rfl (Nat.le_of_ble_eq_true rfl) (fun _ q => ?_)
  obtain rfl := q.symm
  refine R_iload_n rfl rfl ?_
  refine R_iconst (v := 4) rfl rfl ?_
  refine R_icmp_ne rfl rfl (fun _ => ?_) (fun z => absurd z (by decide))
  refine R_aload_n rfl rfl ?_
  refine R_gP (x := 26) rfl rfl fp_10_6 rfl ?_
  refine R_gP (x := 29) rfl rfl fp_9_1 rfl ?_
  refine R_iload_n rfl rfl ?_
  refine R_cV (as := [.int 1]) rfl rfl iv_Guess_valueOf (sp_Guess_valueOf_1 (x := fun j => I (4 + j)) rfl (fun j hj => hv.2.2.2.2.2.2.2.2.1 j hj)) (by decide) rfl rfl rfl (by decide) rfl rfl (Nat.le_of_ble_eq_true rfl) (fun _ q => ?_)
  obtain rfl := q.symm
  exact T_ireturn rfl rfl (am_oki rfl smP.refl)
set_option maxRecDepth 100000 in
set_option maxHeartbeats 4000000 in
theorem sp_D_guess_2 {σ : am_G} {h w rh pn : Nat} {f v rl : am_Gr} {I : Nat → Int32} (hv : vS σ 26 h w f v rh rl pn I) : am_Call am_TX 8 0 c_D_guess [.ref 0, .int 2] (mm σ) (am_Ok (some (.int (I (4 + 2)))) (fun σ1 => smP (plc 17 26) σ σ1)) := by
  have hh6 := hv.1.1.2
  have hw6 := hv.1.2.1.2
  have hr6 := hv.2.2.1.1.2
  have hp6 := hv.2.2.2.1.2
  have hrg : (0 : Int32) ≤ 2 ∧ (2 : Int32) ≤ 4 := by decide
  refine ⟨mf_D_guess, Nat.le_of_ble_eq_true rfl, ?_⟩
  refine R_aload_n rfl rfl ?_
  refine R_iload_n rfl rfl ?_
  refine R_iconst (v := 0) rfl rfl ?_
  refine R_iconst (v := 4) rfl rfl ?_
  refine R_cV (as := [.int 2, .int 0, .int 4]) rfl rfl iv_D_requireRange (sp_requireRange hrg) (by decide) rfl rfl rfl (by decide) rfl rfl (Nat.le_of_ble_eq_true rfl) (fun _ q => ?_)
  obtain rfl := q.symm
  refine R_iload_n rfl rfl ?_
  refine R_iconst (v := 4) rfl rfl ?_
  refine R_icmp_ne rfl rfl (fun _ => ?_) (fun z => absurd z (by decide))
  refine R_aload_n rfl rfl ?_
  refine R_gP (x := 26) rfl rfl fp_10_6 rfl ?_
  refine R_gP (x := 29) rfl rfl fp_9_1 rfl ?_
  refine R_iload_n rfl rfl ?_
  refine R_cV (as := [.int 2]) rfl rfl iv_Guess_valueOf (sp_Guess_valueOf_2 (x := fun j => I (4 + j)) rfl (fun j hj => hv.2.2.2.2.2.2.2.2.1 j hj)) (by decide) rfl rfl rfl (by decide) rfl rfl (Nat.le_of_ble_eq_true rfl) (fun _ q => ?_)
  obtain rfl := q.symm
  exact T_ireturn rfl rfl (am_oki rfl smP.refl)
set_option maxRecDepth 100000 in
set_option maxHeartbeats 4000000 in
theorem sp_D_guess_3 {σ : am_G} {h w rh pn : Nat} {f v rl : am_Gr} {I : Nat → Int32} (hv : vS σ 26 h w f v rh rl pn I) : am_Call am_TX 8 0 c_D_guess [.ref 0, .int 3] (mm σ) (am_Ok (some (.int (I (4 + 3)))) (fun σ1 => smP (plc 17 26) σ σ1)) := by
  have hh6 := hv.1.1.2
  have hw6 := hv.1.2.1.2
  have hr6 := hv.2.2.1.1.2
  have hp6 := hv.2.2.2.1.2
  have hrg : (0 : Int32) ≤ 3 ∧ (3 : Int32) ≤ 4 := by decide
  refine ⟨mf_D_guess, Nat.le_of_ble_eq_true rfl, ?_⟩
  refine R_aload_n rfl rfl ?_
  refine R_iload_n rfl rfl ?_
  refine R_iconst (v := 0) rfl rfl ?_
  refine R_iconst (v := 4) rfl rfl ?_
  refine R_cV (as := [.int 3, .int 0, .int 4]) rfl rfl iv_D_requireRange (sp_requireRange hrg) (by decide) rfl rfl rfl (by decide) rfl rfl (Nat.le_of_ble_eq_true rfl) (fun _ q => ?_)
  obtain rfl := q.symm
  refine R_iload_n rfl rfl ?_
  refine R_iconst (v := 4) rfl rfl ?_
  refine R_icmp_ne rfl rfl (fun _ => ?_) (fun z => absurd z (by decide))
  refine R_aload_n rfl rfl ?_
  refine R_gP (x := 26) rfl rfl fp_10_6 rfl ?_
  refine R_gP (x := 29) rfl rfl fp_9_1 rfl ?_
  refine R_iload_n rfl rfl ?_
  refine R_cV (as := [.int 3]) rfl rfl iv_Guess_valueOf (sp_Guess_valueOf_3 (x := fun j => I (4 + j)) rfl (fun j hj => hv.2.2.2.2.2.2.2.2.1 j hj)) (by decide) rfl rfl rfl (by decide) rfl rfl (Nat.le_of_ble_eq_true rfl) (fun _ q => ?_)
  obtain rfl := q.symm
  exact T_ireturn rfl rfl (am_oki rfl smP.refl)
set_option maxRecDepth 100000 in
set_option maxHeartbeats 4000000 in
theorem sp_D_guess_4 {σ : am_G} {h w rh pn : Nat} {f v rl : am_Gr} {I : Nat → Int32} (hv : vS σ 26 h w f v rh rl pn I) : am_Call am_TX 8 0 c_D_guess [.ref 0, .int 4] (mm σ) (am_Ok (some (.int (if I 4 = -1 then -1 else faF f h w (I 5) (I 6) (I 7)))) (fun σ1 => smP (plc 17 26) σ σ1)) := by
  have hh6 := hv.1.1.2
  have hw6 := hv.1.2.1.2
  have hr6 := hv.2.2.1.1.2
  have hp6 := hv.2.2.2.1.2
  have hrg : (0 : Int32) ≤ 4 ∧ (4 : Int32) ≤ 4 := by decide
  refine ⟨mf_D_guess, Nat.le_of_ble_eq_true rfl, ?_⟩
  refine R_aload_n rfl rfl ?_
  refine R_iload_n rfl rfl ?_
  refine R_iconst (v := 0) rfl rfl ?_
  refine R_iconst (v := 4) rfl rfl ?_
  refine R_cV (as := [.int 4, .int 0, .int 4]) rfl rfl iv_D_requireRange (sp_requireRange hrg) (by decide) rfl rfl rfl (by decide) rfl rfl (Nat.le_of_ble_eq_true rfl) (fun _ q => ?_)
  obtain rfl := q.symm
  refine R_iload_n rfl rfl ?_
  refine R_iconst (v := 4) rfl rfl ?_
  refine R_icmp_ne rfl rfl (fun z => absurd z (by decide)) (fun _ => ?_)
  refine R_aload_n rfl rfl ?_
  refine R_gP (x := 26) rfl rfl fp_10_6 rfl ?_
  refine R_gP (x := 29) rfl rfl fp_9_1 rfl ?_
  refine R_cV (as := []) rfl rfl iv_Guess_isMade (sp_Guess_isMade (x := fun j => I (4 + j)) rfl (fun j hj => hv.2.2.2.2.2.2.2.2.1 j hj)) (by decide) rfl rfl rfl (by decide) rfl rfl (Nat.le_of_ble_eq_true rfl) (fun _ q => ?_)
  obtain rfl := q.symm
  refine R_zif_eq rfl rfl (fun h1 => ?_) (fun h1 => ?_)
  · refine R_aload_n rfl rfl ?_
    refine R_gP (x := 26) rfl rfl fp_10_6 rfl ?_
    refine R_gP (x := 29) rfl rfl fp_9_1 rfl ?_
    refine R_iload_n rfl rfl ?_
    refine R_cV (as := [.int 4]) rfl rfl iv_Guess_valueOf (sp_Guess_valueOf_4 (x := fun j => I (4 + j)) rfl (fun j hj => hv.2.2.2.2.2.2.2.2.1 j hj)) (by decide) rfl rfl rfl (by decide) rfl rfl (Nat.le_of_ble_eq_true rfl) (fun _ q => ?_)
    obtain rfl := q.symm
    exact T_ireturn rfl rfl (am_oki (if_pos (Classical.not_not.mp h1)).symm smP.refl)
  · refine R_aload_n rfl rfl ?_
    refine R_gP (x := 16) rfl rfl fp_10_4 rfl ?_
    refine R_aload_n rfl rfl ?_
    refine R_gP (x := 26) rfl rfl fp_10_6 rfl ?_
    refine R_gP (x := 29) rfl rfl fp_9_1 rfl ?_
    refine R_aload_n rfl rfl ?_
    refine R_gP (x := 26) rfl rfl fp_10_6 rfl ?_
    refine R_gP (x := 27) rfl rfl fp_9_0 rfl ?_
    refine R_cV (as := [.ref 29, .ref 27]) rfl rfl iv_Reckoner_faultOf (sp_faultOf (g := 29) (x := fun j => I (4 + j)) rfl (by omega) (fun j hj => hv.2.2.2.2.2.2.2.2.1 j hj) hv.1) (by decide) rfl rfl rfl (by decide) rfl rfl (Nat.le_of_ble_eq_true rfl) (fun σ4 hσ4 => ?_)
    exact T_ireturn rfl rfl (am_oki (if_neg h1).symm (hσ4.mono (q := plc 17 26) (fun a b => by unfold plc; omega)))
set_option maxRecDepth 100000 in
set_option maxHeartbeats 4000000 in
theorem sp_D_guess_x0 {σ : am_G} {h w rh pn : Nat} {f v rl : am_Gr} {I : Nat → Int32} {x : Int32} (hv : vS σ 26 h w f v rh rl pn I) (hb : ¬ (0 ≤ x ∧ x ≤ 4)) : am_Call am_TX 8 1 c_D_guess [.ref 0, .int x] (mm σ) (am_ThP "java/lang/IllegalArgumentException" (fun σ1 => smP (plc 17 26) σ σ1)) := by
  have hh6 := hv.1.1.2
  have hw6 := hv.1.2.1.2
  have hr6 := hv.2.2.1.1.2
  have hp6 := hv.2.2.2.1.2
  refine ⟨mf_D_guess, Nat.le_of_ble_eq_true rfl, ?_⟩
  refine R_aload_n rfl rfl ?_
  refine R_iload_n rfl rfl ?_
  refine R_iconst (v := 0) rfl rfl ?_
  refine R_iconst (v := 4) rfl rfl ?_
  refine R_cVxP (k := 0) (as := [.int x, .int 0, .int 4]) rfl rfl iv_D_requireRange (sp_requireRange_x hb) (by decide) rfl rfl rfl (by decide) rfl rfl (Nat.le_of_ble_eq_true rfl) (fun σ' hσ' => Rx_out rfl ⟨σ', rfl, by rw [hσ']; exact smP.refl⟩)
def ulF (f : am_Gr) (h w : Nat) (P : Nat → Nat) : Nat → Nat
  | 0 => 0
  | i + 1 => if rkO f (P i) (2 ^ h - 1) (2 ^ w - 1) h w < rkO f 0 (2 ^ h - 1) (2 ^ w - 1) h w then wi (ulF f h w P i) i else ulF f h w P i
theorem ulF_lt {f : am_Gr} {h w : Nat} {P : Nat → Nat} : ∀ i, i ≤ 6 → ulF f h w P i < 64
  | 0, _ => by show (0 : Nat) < 64; decide
  | i + 1, hi => by
    have ih := @ulF_lt f h w P i (by omega)
    simp only [ulF]
    split
    · exact wi_lt ih (by omega)
    · exact ih
def nuF (f : am_Gr) (h w : Nat) : Nat → Nat → Int32
  | 0, _ => -1
  | u + 1, t => if t ∈ prL ∧ rkO f t (2 ^ h - 1) (2 ^ w - 1) h w < rkO f 0 (2 ^ h - 1) (2 ^ w - 1) h w then nI t else nuF f h w u (t + 1)
set_option maxRecDepth 100000 in
set_option maxHeartbeats 4000000 in
theorem lp_unl {σ : am_G} {h w rh pn : Nat} {f v rl : am_Gr} {I : Nat → Int32} {P : Nat → Nat} {d k0 : Nat} (hv : vS σ 26 h w f v rh rl pn I) (hP : prP pn I P) (hd : 6 ≤ d)  : ∀ (uu i : Nat) (τ : am_G), i + uu = pn → (smP (plc 17 26) σ τ) → am_R am_TX d k0 c_D_unlucky 20 [some (.ref 0), some (.int (nI (rkO f 0 (2 ^ h - 1) (2 ^ w - 1) h w))), some (.int (nI (ulF f h w P i))), some (.int (nI i))] [] (mm τ) (am_Ok (some (.int (nI (ulF f h w P pn)))) (fun σ1 => smP (plc 17 26) σ σ1)) := by
  have hh6 := hv.1.1.2
  have hw6 := hv.1.2.1.2
  have hr6 := hv.2.2.1.1.2
  have hp6 := hv.2.2.2.1.2
  intro uu
  induction uu with
  | zero =>
    intro i τ hi hI
    obtain rfl : pn = i := by omega
    skip
    refine R_iload_n rfl rfl ?_
    refine R_aload_n rfl rfl ?_
    refine R_gP (x := 26) rfl rfl fp_10_6 rfl ?_
    refine R_gIN (n := pn) rfl rfl fd_9_3 ((hI.i (by unfold plc; omega)).trans hv.2.2.2.1.1) ?_
    refine R_nicmp_ge (x := pn) (y := pn) rfl rfl (by omega) (by omega) (fun h1 => ?_) (fun z => by omega)
    refine R_iload_n rfl rfl ?_
    exact T_ireturn rfl rfl (am_oki rfl hI)
  | succ uu ih =>
    intro i τ hi hI
    have hp97 := (prL_le _ (hP i (by omega)).2).2
    have hul := @ulF_lt f h w P i (by omega)
    have hk1 : rkO f 0 (2 ^ h - 1) (2 ^ w - 1) h w ≤ 6 := rkO_6 hh6
    have hk2 : rkO f (P i) (2 ^ h - 1) (2 ^ w - 1) h w ≤ 6 := rkO_6 hh6
    refine R_iload_n rfl rfl ?_
    refine R_aload_n rfl rfl ?_
    refine R_gP (x := 26) rfl rfl fp_10_6 rfl ?_
    refine R_gIN (n := pn) rfl rfl fd_9_3 ((hI.i (by unfold plc; omega)).trans hv.2.2.2.1.1) ?_
    refine R_nicmp_ge (x := i) (y := pn) rfl rfl (by omega) (by omega) (fun z => by omega) (fun h1 => ?_)
    refine R_aload_n rfl rfl ?_
    refine R_gP (x := 16) rfl rfl fp_10_4 rfl ?_
    refine R_aload_n rfl rfl ?_
    refine R_gP (x := 26) rfl rfl fp_10_6 rfl ?_
    refine R_gP (x := 27) rfl rfl fp_9_0 rfl ?_
    refine R_aload_n rfl rfl ?_
    refine R_gP (x := 26) rfl rfl fp_10_6 rfl ?_
    refine R_iload_n rfl rfl ?_
    refine R_cV (as := [.int (nI i)]) rfl rfl iv_State_primeAt ((by have z := sp_primeAtV (p := i) (hI.vS hv (fun a b _ _ => by unfold plc; omega)) (by omega); rw [(hP i (by omega)).1] at z; exact z)) (by omega) rfl rfl rfl (by decide) rfl rfl (Nat.le_of_ble_eq_true rfl) (fun _ q => ?_)
    obtain rfl := q.symm
    refine R_cV (as := [.ref 27, .int (nI (P i))]) rfl rfl iv_Reckoner_fullRank (sp_fullRank (m := (P i)) im27 (by omega) (hI.vM hv.1 (fun b => by unfold plc; omega) (fun b => by unfold plc; omega)) (by omega)) (by omega) rfl rfl rfl (by decide) rfl rfl (Nat.le_of_ble_eq_true rfl) (fun σ2 hσ2 => ?_)
    refine R_iload_n rfl rfl ?_
    refine R_nicmp_ge (x := (rkO f (P i) (2 ^ h - 1) (2 ^ w - 1) h w)) (y := (rkO f 0 (2 ^ h - 1) (2 ^ w - 1) h w)) rfl rfl (by omega) (by omega) (fun h2 => ?_) (fun h2 => ?_)
    · refine R_iincN (x := i) (m := 1) rfl rfl rfl (by decide) ?_
      refine R_goto rfl rfl ?_
      have e := ih (i + 1) _ (by omega) ((hI.trans (hσ2.mono (q := plc 17 26) (fun a b => by unfold plc; omega))))
      rw [show ulF f h w P (i + 1) = ulF f h w P i from by simp only [ulF]; exact if_neg (by omega)] at e
      exact e.weak ⟨rfl, rfl, rfl, rfl, trivial⟩
    · refine R_iload_n rfl rfl ?_
      refine R_iconst (v := 1) rfl rfl ?_
      refine R_iload_n rfl rfl ?_
      refine R_shl1N (y := i) rfl (by omega) ?_
      refine R_iorB (s := (ulF f h w P i)) (y := i) rfl (by first | assumption | omega) (by omega) ?_
      refine R_istore_n rfl (by decide) ?_
      refine R_iincN (x := i) (m := 1) rfl rfl rfl (by decide) ?_
      refine R_goto rfl rfl ?_
      have e := ih (i + 1) _ (by omega) ((hI.trans (hσ2.mono (q := plc 17 26) (fun a b => by unfold plc; omega))))
      rw [show ulF f h w P (i + 1) = wi (ulF f h w P i) i from by simp only [ulF]; exact if_pos (by omega)] at e
      exact e.weak ⟨rfl, rfl, rfl, rfl, trivial⟩
set_option maxRecDepth 100000 in
set_option maxHeartbeats 4000000 in
theorem sp_D_unlucky {σ : am_G} {h w rh pn : Nat} {f v rl : am_Gr} {I : Nat → Int32} {P : Nat → Nat} (hv : vS σ 26 h w f v rh rl pn I) (hP : prP pn I P) : am_Call am_TX 8 0 c_D_unlucky [.ref 0] (mm σ) (am_Ok (some (.int (nI (ulF f h w P pn)))) (fun σ1 => smP (plc 17 26) σ σ1)) := by
  have hh6 := hv.1.1.2
  have hw6 := hv.1.2.1.2
  have hr6 := hv.2.2.1.1.2
  have hp6 := hv.2.2.2.1.2
  refine ⟨mf_D_unlucky, Nat.le_of_ble_eq_true rfl, ?_⟩
  refine R_aload_n rfl rfl ?_
  refine R_gP (x := 16) rfl rfl fp_10_4 rfl ?_
  refine R_aload_n rfl rfl ?_
  refine R_gP (x := 26) rfl rfl fp_10_6 rfl ?_
  refine R_gP (x := 27) rfl rfl fp_9_0 rfl ?_
  refine R_iconst (v := 0) rfl rfl ?_
  refine R_cV (as := [.ref 27, .int 0]) rfl rfl iv_Reckoner_fullRank (sp_fullRank (m := 0) im27 (by omega) hv.1 (by omega)) (by decide) rfl rfl rfl (by decide) rfl rfl (Nat.le_of_ble_eq_true rfl) (fun σ1 hσ1 => ?_)
  refine R_istore_n rfl (by decide) ?_
  refine R_iconst (v := 0) rfl rfl ?_
  refine R_istore_n rfl (by decide) ?_
  refine R_iconst (v := 0) rfl rfl ?_
  refine R_istore_n rfl (by decide) ?_
  exact (lp_unl hv hP (by omega) pn 0 _ (by omega) ((hσ1.mono (q := plc 17 26) (fun a b => by unfold plc; omega)))).weak ⟨rfl, rfl, rfl, rfl, trivial⟩
set_option maxRecDepth 100000 in
set_option maxHeartbeats 4000000 in
theorem lp_nun {σ : am_G} {h w rh pn : Nat} {f v rl : am_Gr} {I : Nat → Int32} {d k0 : Nat} (hv : vS σ 26 h w f v rh rl pn I) (hd : 6 ≤ d)  : ∀ (uu i : Nat) (τ : am_G), i + uu = 98 → (smP (plc 17 26) σ τ ∧ 2 ≤ i) → am_R am_TX d k0 c_D_nextUnlucky 26 [some (.ref 0), none, some (.int (nI (rkO f 0 (2 ^ h - 1) (2 ^ w - 1) h w))), some (.int (nI i))] [] (mm τ) (am_Ok (some (.int (nuF f h w uu i))) (fun σ1 => smP (plc 17 26) σ σ1)) := by
  have hh6 := hv.1.1.2
  have hw6 := hv.1.2.1.2
  have hr6 := hv.2.2.1.1.2
  have hp6 := hv.2.2.2.1.2
  intro uu
  induction uu with
  | zero =>
    intro i τ hi hI
    obtain rfl : 98 = i := by omega
    skip
    refine R_iload_n rfl rfl ?_
    refine R_bipush (v := 97) rfl (by decide) ?_
    refine R_nicmp_gt (x := 98) (y := 97) rfl rfl (by omega) (by omega) (fun h1 => ?_) (fun z => by omega)
    refine R_iconst (v := -1) rfl rfl ?_
    exact T_ireturn rfl rfl (am_oki (by first | rfl | (simp only [nuF]; rfl)) hI.1)
  | succ uu ih =>
    intro i τ hi hI
    have hk1 : rkO f 0 (2 ^ h - 1) (2 ^ w - 1) h w ≤ 6 := rkO_6 hh6
    have hk2 : rkO f i (2 ^ h - 1) (2 ^ w - 1) h w ≤ 6 := rkO_6 hh6
    have hi2 : 2 ≤ i := hI.2
    refine R_iload_n rfl rfl ?_
    refine R_bipush (v := 97) rfl (by decide) ?_
    refine R_nicmp_gt (x := i) (y := 97) rfl rfl (by omega) (by omega) (fun z => by omega) (fun h1 => ?_)
    refine R_iload_n rfl rfl ?_
    refine R_cS (as := [.int (nI i)]) rfl rfl iv_D_isPrime (sp_prime (n := i) (by omega) (by omega)) (by omega) rfl rfl rfl rfl (Nat.le_of_ble_eq_true rfl) (fun _ q => ?_)
    obtain rfl := q.symm
    refine R_zif_eq rfl rfl (fun h2 => ?_) (fun h2 => ?_)
    · refine R_iincN (x := i) (m := 1) rfl rfl rfl (by decide) ?_
      refine R_goto rfl rfl ?_
      have e := ih (i + 1) _ (by omega) ⟨hI.1, by omega⟩
      rw [show nuF f h w (uu + 1) i = nuF f h w uu (i + 1) from by simp only [nuF]; exact if_neg (fun z => h2 z.1)]
      exact e.weak ⟨rfl, rfl, rfl, trivial⟩
    · refine R_aload_n rfl rfl ?_
      refine R_gP (x := 16) rfl rfl fp_10_4 rfl ?_
      refine R_aload_n rfl rfl ?_
      refine R_gP (x := 26) rfl rfl fp_10_6 rfl ?_
      refine R_gP (x := 27) rfl rfl fp_9_0 rfl ?_
      refine R_iload_n rfl rfl ?_
      refine R_cV (as := [.ref 27, .int (nI i)]) rfl rfl iv_Reckoner_fullRank (sp_fullRank (m := i) im27 (by omega) (hI.1.vM hv.1 (fun b => by unfold plc; omega) (fun b => by unfold plc; omega)) (by omega)) (by omega) rfl rfl rfl (by decide) rfl rfl (Nat.le_of_ble_eq_true rfl) (fun σ2 hσ2 => ?_)
      refine R_iload_n rfl rfl ?_
      refine R_nicmp_ge (x := (rkO f i (2 ^ h - 1) (2 ^ w - 1) h w)) (y := (rkO f 0 (2 ^ h - 1) (2 ^ w - 1) h w)) rfl rfl (by omega) (by omega) (fun h3 => ?_) (fun h3 => ?_)
      · refine R_iincN (x := i) (m := 1) rfl rfl rfl (by decide) ?_
        refine R_goto rfl rfl ?_
        have e := ih (i + 1) _ (by omega) ⟨(hI.1.trans (hσ2.mono (q := plc 17 26) (fun a b => by unfold plc; omega))), by omega⟩
        rw [show nuF f h w (uu + 1) i = nuF f h w uu (i + 1) from by simp only [nuF]; exact if_neg (fun z => by omega)]
        exact e.weak ⟨rfl, rfl, rfl, trivial⟩
      · refine R_iload_n rfl rfl ?_
        exact T_ireturn rfl rfl (am_oki (by simp only [nuF]; rw [if_pos ⟨h2, by omega⟩]) ((hI.1.trans (hσ2.mono (q := plc 17 26) (fun a b => by unfold plc; omega)))))
set_option maxRecDepth 100000 in
set_option maxHeartbeats 4000000 in
theorem sp_D_nextUnlucky {σ : am_G} {h w rh pn : Nat} {f v rl : am_Gr} {I : Nat → Int32} {n : Nat} (hv : vS σ 26 h w f v rh rl pn I) (n_k : 2 ≤ n ∧ n ≤ 97) : am_Call am_TX 8 0 c_D_nextUnlucky [.ref 0, .int (nI n)] (mm σ) (am_Ok (some (.int (nuF f h w (98 - n) n))) (fun σ1 => smP (plc 17 26) σ σ1)) := by
  have hh6 := hv.1.1.2
  have hw6 := hv.1.2.1.2
  have hr6 := hv.2.2.1.1.2
  have hp6 := hv.2.2.2.1.2
  have hrg : (2 : Int32) ≤ nI n ∧ nI n ≤ 97 := rg_g (lo := 2) (k := 97) (by omega) (by omega) (by omega)
  refine ⟨mf_D_nextUnlucky, Nat.le_of_ble_eq_true rfl, ?_⟩
  refine R_aload_n rfl rfl ?_
  refine R_iload_n rfl rfl ?_
  refine R_iconst (v := 2) rfl rfl ?_
  refine R_bipush (v := 97) rfl (by decide) ?_
  refine R_cV (as := [.int (nI n), .int 2, .int 97]) rfl rfl iv_D_requireRange (sp_requireRange hrg) (by decide) rfl rfl rfl (by decide) rfl rfl (Nat.le_of_ble_eq_true rfl) (fun _ q => ?_)
  obtain rfl := q.symm
  refine R_aload_n rfl rfl ?_
  refine R_gP (x := 16) rfl rfl fp_10_4 rfl ?_
  refine R_aload_n rfl rfl ?_
  refine R_gP (x := 26) rfl rfl fp_10_6 rfl ?_
  refine R_gP (x := 27) rfl rfl fp_9_0 rfl ?_
  refine R_iconst (v := 0) rfl rfl ?_
  refine R_cV (as := [.ref 27, .int 0]) rfl rfl iv_Reckoner_fullRank (sp_fullRank (m := 0) im27 (by omega) hv.1 (by omega)) (by decide) rfl rfl rfl (by decide) rfl rfl (Nat.le_of_ble_eq_true rfl) (fun σ2 hσ2 => ?_)
  refine R_istore_n rfl (by decide) ?_
  refine R_iload_n rfl rfl ?_
  refine R_istore_n rfl (by decide) ?_
  exact (lp_nun hv (by omega) (98 - n) n _ (by omega) ⟨(hσ2.mono (q := plc 17 26) (fun a b => by unfold plc; omega)), by omega⟩).weak ⟨rfl, rfl, rfl, trivial⟩
set_option maxRecDepth 100000 in
set_option maxHeartbeats 4000000 in
theorem sp_D_nextUnlucky_x0 {σ : am_G} {h w rh pn : Nat} {f v rl : am_Gr} {I : Nat → Int32} {x : Int32} (hv : vS σ 26 h w f v rh rl pn I) (hb : ¬ (2 ≤ x ∧ x ≤ 97)) : am_Call am_TX 8 1 c_D_nextUnlucky [.ref 0, .int x] (mm σ) (am_ThP "java/lang/IllegalArgumentException" (fun σ1 => smP (plc 17 26) σ σ1)) := by
  have hh6 := hv.1.1.2
  have hw6 := hv.1.2.1.2
  have hr6 := hv.2.2.1.1.2
  have hp6 := hv.2.2.2.1.2
  refine ⟨mf_D_nextUnlucky, Nat.le_of_ble_eq_true rfl, ?_⟩
  refine R_aload_n rfl rfl ?_
  refine R_iload_n rfl rfl ?_
  refine R_iconst (v := 2) rfl rfl ?_
  refine R_bipush (v := 97) rfl (by decide) ?_
  refine R_cVxP (k := 0) (as := [.int x, .int 2, .int 97]) rfl rfl iv_D_requireRange (sp_requireRange_x hb) (by decide) rfl rfl rfl (by decide) rfl rfl (Nat.le_of_ble_eq_true rfl) (fun σ' hσ' => Rx_out rfl ⟨σ', rfl, by rw [hσ']; exact smP.refl⟩)
