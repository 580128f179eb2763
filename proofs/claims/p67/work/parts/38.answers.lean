/-! ===== what the class answers about its matrix ===== -/
theorem im27 : isMat 27 := ⟨rfl, rfl, rfl⟩
theorem rg_n {n k : Nat} (h : n ≤ k) (hk : k < 2 ^ 31) : (0 : Int32) ≤ nI n ∧ nI n ≤ nI k := by
  rw [Int32.le_iff_toInt_le, Int32.le_iff_toInt_le, nI_toInt (by omega), nI_toInt hk, show (0 : Int32).toInt = 0 from rfl]
  omega
theorem rg_1 {n k : Nat} (h1 : 1 ≤ n) (h : n ≤ k) (hk : k < 2 ^ 31) : (1 : Int32) ≤ nI n ∧ nI n ≤ nI k := by
  rw [Int32.le_iff_toInt_le, Int32.le_iff_toInt_le, nI_toInt (by omega), nI_toInt hk, show (1 : Int32).toInt = 1 from rfl]
  omega
set_option maxRecDepth 100000 in
set_option maxHeartbeats 4000000 in
theorem sp_D_rank {σ : am_G} {h w rh pn : Nat} {f v rl : am_Gr} {I : Nat → Int32} {m : Nat} (hv : vS σ 26 h w f v rh rl pn I) (hmd : m ∈ mdL) : am_Call am_TX 8 0 c_D_rank [.ref 0, .int (nI m)] (mm σ) (am_Ok (some (.int (nI (rkO f m (2 ^ h - 1) (2 ^ w - 1) h w)))) (fun σ1 => smP (plc 17 26) σ σ1)) := by
  have hh6 := hv.1.1.2
  have hw6 := hv.1.2.1.2
  have hr6 := hv.2.2.1.1.2
  have hp6 := hv.2.2.2.1.2
  have hm97 := md_97 hmd
  refine ⟨mf_D_rank, Nat.le_of_ble_eq_true rfl, ?_⟩
  refine R_aload_n rfl rfl ?_
  refine R_iload_n rfl rfl ?_
  refine R_cV (as := [.int (nI m)]) rfl rfl iv_D_requireModulus (sp_requireModulus (m := m) hmd) (by decide) rfl rfl rfl (by decide) rfl rfl (Nat.le_of_ble_eq_true rfl) (fun _ q => ?_)
  obtain rfl := q.symm
  refine R_aload_n rfl rfl ?_
  refine R_gP (x := 16) rfl rfl fp_10_4 rfl ?_
  refine R_aload_n rfl rfl ?_
  refine R_gP (x := 26) rfl rfl fp_10_6 rfl ?_
  refine R_gP (x := 27) rfl rfl fp_9_0 rfl ?_
  refine R_iload_n rfl rfl ?_
  refine R_cV (as := [.ref 27, .int (nI m)]) rfl rfl iv_Reckoner_fullRank (sp_fullRank (m := m) im27 (by omega) hv.1 (by omega)) (by decide) rfl rfl rfl (by decide) rfl rfl (Nat.le_of_ble_eq_true rfl) (fun σ2 hσ2 => ?_)
  exact T_ireturn rfl rfl (am_oki rfl (hσ2.mono (q := plc 17 26) (fun a b => by unfold plc; omega)))
set_option maxRecDepth 100000 in
set_option maxHeartbeats 4000000 in
theorem sp_D_rankOf {σ : am_G} {h w rh pn : Nat} {f v rl : am_Gr} {I : Nat → Int32} {m : Nat} {S : Nat} {T : Nat} (hv : vS σ 26 h w f v rh rl pn I) (hmd : m ∈ mdL) (hS : S < 2 ^ h) (hT : T < 2 ^ w) : am_Call am_TX 8 0 c_D_rankOf [.ref 0, .int (nI m), .int (nI S), .int (nI T)] (mm σ) (am_Ok (some (.int (nI (rkO f m S T h w)))) (fun σ1 => smP (plc 17 26) σ σ1)) := by
  have hh6 := hv.1.1.2
  have hw6 := hv.1.2.1.2
  have hr6 := hv.2.2.1.1.2
  have hp6 := hv.2.2.2.1.2
  have hm97 := md_97 hmd
  have hS6 := p2_64 hS hh6
  have hT6 := p2_64 hT hw6
  refine ⟨mf_D_rankOf, Nat.le_of_ble_eq_true rfl, ?_⟩
  refine R_aload_n rfl rfl ?_
  refine R_iload_n rfl rfl ?_
  refine R_cV (as := [.int (nI m)]) rfl rfl iv_D_requireModulus (sp_requireModulus (m := m) hmd) (by decide) rfl rfl rfl (by decide) rfl rfl (Nat.le_of_ble_eq_true rfl) (fun _ q => ?_)
  obtain rfl := q.symm
  refine R_aload_n rfl rfl ?_
  refine R_iload_n rfl rfl ?_
  refine R_cV (as := [.int (nI S)]) rfl rfl iv_D_requireRowSet (sp_requireRowSet hv (msk_ok hv.1.1.2 hS)) (by decide) rfl rfl rfl (by decide) rfl rfl (Nat.le_of_ble_eq_true rfl) (fun _ q => ?_)
  obtain rfl := q.symm
  refine R_aload_n rfl rfl ?_
  refine R_iload_n rfl rfl ?_
  refine R_cV (as := [.int (nI T)]) rfl rfl iv_D_requireColumnSet (sp_requireColumnSet hv (msk_ok hv.1.2.1.2 hT)) (by decide) rfl rfl rfl (by decide) rfl rfl (Nat.le_of_ble_eq_true rfl) (fun _ q => ?_)
  obtain rfl := q.symm
  refine R_aload_n rfl rfl ?_
  refine R_gP (x := 16) rfl rfl fp_10_4 rfl ?_
  refine R_aload_n rfl rfl ?_
  refine R_gP (x := 26) rfl rfl fp_10_6 rfl ?_
  refine R_gP (x := 27) rfl rfl fp_9_0 rfl ?_
  refine R_iload_n rfl rfl ?_
  refine R_iload_n rfl rfl ?_
  refine R_iload_n rfl rfl ?_
  refine R_cV (as := [.ref 27, .int (nI m), .int (nI S), .int (nI T)]) rfl rfl iv_Reckoner_partRank (sp_partRank (m := m) (S := S) (T := T) im27 (by omega) hv.1 (by omega) (by first | assumption | exact lw_lt (by omega) | exact wi_lt (by first | assumption | omega) (by omega) | exact wo_lt (by first | assumption | omega) (by omega) | omega) (by first | assumption | exact lw_lt (by omega) | exact wi_lt (by first | assumption | omega) (by omega) | exact wo_lt (by first | assumption | omega) (by omega) | omega)) (by decide) rfl rfl rfl (by decide) rfl rfl (Nat.le_of_ble_eq_true rfl) (fun σ4 hσ4 => ?_)
  exact T_ireturn rfl rfl (am_oki rfl (hσ4.mono (q := plc 17 26) (fun a b => by unfold plc; omega)))
set_option maxRecDepth 100000 in
set_option maxHeartbeats 4000000 in
theorem sp_D_minor {σ : am_G} {h w rh pn : Nat} {f v rl : am_Gr} {I : Nat → Int32} {S T : Nat} (hv : vS σ 26 h w f v rh rl pn I) (hS : S < 2 ^ h) (hT : T < 2 ^ w) (hc : pc S = pc T) : am_Call am_TX 8 0 c_D_minor [.ref 0, .int (nI S), .int (nI T)] (mm σ) (am_Ok (some (.long (mnF f S w T))) (fun σ1 => smP (plc 17 26) σ σ1)) := by
  have hh6 := hv.1.1.2
  have hw6 := hv.1.2.1.2
  have hr6 := hv.2.2.1.1.2
  have hp6 := hv.2.2.2.1.2
  have hS6 := p2_64 hS hh6
  have hT6 := p2_64 hT hw6
  refine ⟨mf_D_minor, Nat.le_of_ble_eq_true rfl, ?_⟩
  refine R_aload_n rfl rfl ?_
  refine R_iload_n rfl rfl ?_
  refine R_iload_n rfl rfl ?_
  refine R_cV (as := [.int (nI S), .int (nI T)]) rfl rfl iv_D_requireSquare (sp_requireSquare hv hS hT hc) (by decide) rfl rfl rfl (by decide) rfl rfl (Nat.le_of_ble_eq_true rfl) (fun _ q => ?_)
  obtain rfl := q.symm
  refine R_aload_n rfl rfl ?_
  refine R_gP (x := 16) rfl rfl fp_10_4 rfl ?_
  refine R_aload_n rfl rfl ?_
  refine R_gP (x := 26) rfl rfl fp_10_6 rfl ?_
  refine R_gP (x := 27) rfl rfl fp_9_0 rfl ?_
  refine R_iload_n rfl rfl ?_
  refine R_iload_n rfl rfl ?_
  refine R_cV (as := [.ref 27, .int (nI S), .int (nI T)]) rfl rfl iv_Reckoner_minorOf (sp_minorOf (S := S) (s := T) im27 (by omega) hv.1 (by first | assumption | exact lw_lt (by omega) | exact wi_lt (by first | assumption | omega) (by omega) | exact wo_lt (by first | assumption | omega) (by omega) | omega) (by first | assumption | exact lw_lt (by omega) | exact wi_lt (by first | assumption | omega) (by omega) | exact wo_lt (by first | assumption | omega) (by omega) | omega)) (by decide) rfl rfl rfl (by decide) rfl rfl (Nat.le_of_ble_eq_true rfl) (fun σ2 hσ2 => ?_)
  exact T_lreturn rfl rfl (am_okl rfl (hσ2.mono (q := plc 17 26) (fun a b => by unfold plc; omega)))
set_option maxRecDepth 100000 in
set_option maxHeartbeats 4000000 in
theorem sp_D_rowProfile {σ : am_G} {h w rh pn : Nat} {f v rl : am_Gr} {I : Nat → Int32} {m : Nat} (hv : vS σ 26 h w f v rh rl pn I) (hmd : m ∈ mdL) : am_Call am_TX 8 0 c_D_rowProfile [.ref 0, .int (nI m)] (mm σ) (am_Ok (some (.int (nI (prR f m h w h)))) (fun σ1 => smP (plc 17 26) σ σ1)) := by
  have hh6 := hv.1.1.2
  have hw6 := hv.1.2.1.2
  have hr6 := hv.2.2.1.1.2
  have hp6 := hv.2.2.2.1.2
  have hm97 := md_97 hmd
  refine ⟨mf_D_rowProfile, Nat.le_of_ble_eq_true rfl, ?_⟩
  refine R_aload_n rfl rfl ?_
  refine R_iload_n rfl rfl ?_
  refine R_cV (as := [.int (nI m)]) rfl rfl iv_D_requireModulus (sp_requireModulus (m := m) hmd) (by decide) rfl rfl rfl (by decide) rfl rfl (Nat.le_of_ble_eq_true rfl) (fun _ q => ?_)
  obtain rfl := q.symm
  refine R_aload_n rfl rfl ?_
  refine R_gP (x := 16) rfl rfl fp_10_4 rfl ?_
  refine R_aload_n rfl rfl ?_
  refine R_gP (x := 26) rfl rfl fp_10_6 rfl ?_
  refine R_gP (x := 27) rfl rfl fp_9_0 rfl ?_
  refine R_iload_n rfl rfl ?_
  refine R_cV (as := [.ref 27, .int (nI m)]) rfl rfl iv_Reckoner_profileOfRows (sp_profileOfRows (m := m) im27 (by omega) hv.1 (by omega)) (by decide) rfl rfl rfl (by decide) rfl rfl (Nat.le_of_ble_eq_true rfl) (fun σ2 hσ2 => ?_)
  exact T_ireturn rfl rfl (am_oki rfl (hσ2.mono (q := plc 17 26) (fun a b => by unfold plc; omega)))
set_option maxRecDepth 100000 in
set_option maxHeartbeats 4000000 in
theorem sp_D_columnProfile {σ : am_G} {h w rh pn : Nat} {f v rl : am_Gr} {I : Nat → Int32} {m : Nat} (hv : vS σ 26 h w f v rh rl pn I) (hmd : m ∈ mdL) : am_Call am_TX 8 0 c_D_columnProfile [.ref 0, .int (nI m)] (mm σ) (am_Ok (some (.int (nI (prC f m (2 ^ h - 1) h w w)))) (fun σ1 => smP (plc 17 26) σ σ1)) := by
  have hh6 := hv.1.1.2
  have hw6 := hv.1.2.1.2
  have hr6 := hv.2.2.1.1.2
  have hp6 := hv.2.2.2.1.2
  have hm97 := md_97 hmd
  refine ⟨mf_D_columnProfile, Nat.le_of_ble_eq_true rfl, ?_⟩
  refine R_aload_n rfl rfl ?_
  refine R_iload_n rfl rfl ?_
  refine R_cV (as := [.int (nI m)]) rfl rfl iv_D_requireModulus (sp_requireModulus (m := m) hmd) (by decide) rfl rfl rfl (by decide) rfl rfl (Nat.le_of_ble_eq_true rfl) (fun _ q => ?_)
  obtain rfl := q.symm
  refine R_aload_n rfl rfl ?_
  refine R_gP (x := 16) rfl rfl fp_10_4 rfl ?_
  refine R_aload_n rfl rfl ?_
  refine R_gP (x := 26) rfl rfl fp_10_6 rfl ?_
  refine R_gP (x := 27) rfl rfl fp_9_0 rfl ?_
  refine R_iload_n rfl rfl ?_
  refine R_aload_n rfl rfl ?_
  refine R_gP (x := 26) rfl rfl fp_10_6 rfl ?_
  refine R_gP (x := 27) rfl rfl fp_9_0 rfl ?_
  refine R_cV (as := []) rfl rfl iv_Matrix_allRows (sp_Matrix_allRows im27 hv.1.1.1 hv.1.1.2) (by decide) rfl rfl rfl (by decide) rfl rfl (Nat.le_of_ble_eq_true rfl) (fun _ q => ?_)
  obtain rfl := q.symm
  refine R_cV (as := [.ref 27, .int (nI m), .int (nI (2 ^ h - 1))]) rfl rfl iv_Reckoner_profileOfColumns (sp_profileOfColumns (m := m) (S := (2 ^ h - 1)) im27 (by omega) hv.1 (by omega) (by first | assumption | exact lw_lt (by omega) | exact wi_lt (by first | assumption | omega) (by omega) | exact wo_lt (by first | assumption | omega) (by omega) | omega)) (by decide) rfl rfl rfl (by decide) rfl rfl (Nat.le_of_ble_eq_true rfl) (fun σ3 hσ3 => ?_)
  exact T_ireturn rfl rfl (am_oki rfl (hσ3.mono (q := plc 17 26) (fun a b => by unfold plc; omega)))
set_option maxRecDepth 100000 in
set_option maxHeartbeats 4000000 in
theorem sp_D_pivot {σ : am_G} {h w rh pn : Nat} {f v rl : am_Gr} {I : Nat → Int32} {r : Nat} {m : Nat} (hv : vS σ 26 h w f v rh rl pn I) (r_h : r < h) (hmd : m ∈ mdL) : am_Call am_TX 8 0 c_D_pivot [.ref 0, .int (nI m), .int (nI r)] (mm σ) (am_Ok (some (.int (ptF f m h w r w 0))) (fun σ1 => smP (plc 17 26) σ σ1)) := by
  have hh6 := hv.1.1.2
  have hw6 := hv.1.2.1.2
  have hr6 := hv.2.2.1.1.2
  have hp6 := hv.2.2.2.1.2
  have hm97 := md_97 hmd
  refine ⟨mf_D_pivot, Nat.le_of_ble_eq_true rfl, ?_⟩
  refine R_aload_n rfl rfl ?_
  refine R_iload_n rfl rfl ?_
  refine R_cV (as := [.int (nI r)]) rfl rfl iv_D_requireRow (sp_requireRow (r := r) hv (by omega)) (by decide) rfl rfl rfl (by decide) rfl rfl (Nat.le_of_ble_eq_true rfl) (fun _ q => ?_)
  obtain rfl := q.symm
  refine R_aload_n rfl rfl ?_
  refine R_iload_n rfl rfl ?_
  refine R_cV (as := [.int (nI m)]) rfl rfl iv_D_requireModulus (sp_requireModulus (m := m) hmd) (by decide) rfl rfl rfl (by decide) rfl rfl (Nat.le_of_ble_eq_true rfl) (fun _ q => ?_)
  obtain rfl := q.symm
  refine R_aload_n rfl rfl ?_
  refine R_gP (x := 16) rfl rfl fp_10_4 rfl ?_
  refine R_aload_n rfl rfl ?_
  refine R_gP (x := 26) rfl rfl fp_10_6 rfl ?_
  refine R_gP (x := 27) rfl rfl fp_9_0 rfl ?_
  refine R_iload_n rfl rfl ?_
  refine R_iload_n rfl rfl ?_
  refine R_cV (as := [.ref 27, .int (nI m), .int (nI r)]) rfl rfl iv_Reckoner_pivotColumn (sp_pivotColumn (m := m) (r := r) im27 (by omega) hv.1 (by omega) (by omega)) (by decide) rfl rfl rfl (by decide) rfl rfl (Nat.le_of_ble_eq_true rfl) (fun σ3 hσ3 => ?_)
  exact T_ireturn rfl rfl (am_oki rfl (hσ3.mono (q := plc 17 26) (fun a b => by unfold plc; omega)))
set_option maxRecDepth 100000 in
set_option maxHeartbeats 4000000 in
theorem sp_D_divisor {σ : am_G} {h w rh pn : Nat} {f v rl : am_Gr} {I : Nat → Int32} {n : Nat} (hv : vS σ 26 h w f v rh rl pn I) (n_k : n ≤ 6) : am_Call am_TX 8 0 c_D_divisor [.ref 0, .int (nI n)] (mm σ) (am_Ok (some (.long (dvF f h w n))) (fun σ1 => smP (plc 17 26) σ σ1)) := by
  have hh6 := hv.1.1.2
  have hw6 := hv.1.2.1.2
  have hr6 := hv.2.2.1.1.2
  have hp6 := hv.2.2.2.1.2
  have hrg : (0 : Int32) ≤ nI n ∧ nI n ≤ 6 := rg_n (k := 6) (by omega) (by omega)
  refine ⟨mf_D_divisor, Nat.le_of_ble_eq_true rfl, ?_⟩
  refine R_aload_n rfl rfl ?_
  refine R_iload_n rfl rfl ?_
  refine R_iconst (v := 0) rfl rfl ?_
  refine R_bipush (v := 6) rfl (by decide) ?_
  refine R_cV (as := [.int (nI n), .int 0, .int 6]) rfl rfl iv_D_requireRange (sp_requireRange hrg) (by decide) rfl rfl rfl (by decide) rfl rfl (Nat.le_of_ble_eq_true rfl) (fun _ q => ?_)
  obtain rfl := q.symm
  refine R_aload_n rfl rfl ?_
  refine R_gP (x := 16) rfl rfl fp_10_4 rfl ?_
  refine R_aload_n rfl rfl ?_
  refine R_gP (x := 26) rfl rfl fp_10_6 rfl ?_
  refine R_gP (x := 27) rfl rfl fp_9_0 rfl ?_
  refine R_iload_n rfl rfl ?_
  refine R_cV (as := [.ref 27, .int (nI n)]) rfl rfl iv_Reckoner_minorDivisor (sp_minorDivisor (n := n) im27 (by omega) hv.1 (by omega)) (by decide) rfl rfl rfl (by decide) rfl rfl (Nat.le_of_ble_eq_true rfl) (fun σ2 hσ2 => ?_)
  exact T_lreturn rfl rfl (am_okl rfl (hσ2.mono (q := plc 17 26) (fun a b => by unfold plc; omega)))
set_option maxRecDepth 100000 in
set_option maxHeartbeats 4000000 in
theorem sp_D_invariant {σ : am_G} {h w rh pn : Nat} {f v rl : am_Gr} {I : Nat → Int32} {n : Nat} (hv : vS σ 26 h w f v rh rl pn I) (n_k : 1 ≤ n ∧ n ≤ 6) : am_Call am_TX 8 0 c_D_invariant [.ref 0, .int (nI n)] (mm σ) (am_Ok (some (.long (qtL (dvF f h w n) (dvF f h w (n - 1))))) (fun σ1 => smP (plc 17 26) σ σ1)) := by
  have hh6 := hv.1.1.2
  have hw6 := hv.1.2.1.2
  have hr6 := hv.2.2.1.1.2
  have hp6 := hv.2.2.2.1.2
  have hrg : (1 : Int32) ≤ nI n ∧ nI n ≤ 6 := rg_1 (k := 6) (by omega) (by omega) (by omega)
  refine ⟨mf_D_invariant, Nat.le_of_ble_eq_true rfl, ?_⟩
  refine R_aload_n rfl rfl ?_
  refine R_iload_n rfl rfl ?_
  refine R_iconst (v := 1) rfl rfl ?_
  refine R_bipush (v := 6) rfl (by decide) ?_
  refine R_cV (as := [.int (nI n), .int 1, .int 6]) rfl rfl iv_D_requireRange (sp_requireRange hrg) (by decide) rfl rfl rfl (by decide) rfl rfl (Nat.le_of_ble_eq_true rfl) (fun _ q => ?_)
  obtain rfl := q.symm
  refine R_aload_n rfl rfl ?_
  refine R_gP (x := 16) rfl rfl fp_10_4 rfl ?_
  refine R_aload_n rfl rfl ?_
  refine R_gP (x := 26) rfl rfl fp_10_6 rfl ?_
  refine R_gP (x := 27) rfl rfl fp_9_0 rfl ?_
  refine R_iload_n rfl rfl ?_
  refine R_cV (as := [.ref 27, .int (nI n)]) rfl rfl iv_Reckoner_minorDivisor (sp_minorDivisor (n := n) im27 (by omega) hv.1 (by omega)) (by decide) rfl rfl rfl (by decide) rfl rfl (Nat.le_of_ble_eq_true rfl) (fun σ2 hσ2 => ?_)
  refine R_lstore_n rfl (by decide) ?_
  refine R_lload_n rfl rfl ?_
  refine R_aload_n rfl rfl ?_
  refine R_gP (x := 16) rfl rfl fp_10_4 rfl ?_
  refine R_aload_n rfl rfl ?_
  refine R_gP (x := 26) rfl rfl fp_10_6 rfl ?_
  refine R_gP (x := 27) rfl rfl fp_9_0 rfl ?_
  refine R_iload_n rfl rfl ?_
  refine R_iconst (v := 1) rfl rfl ?_
  refine R_isubN (x := n) (y := 1) rfl (by omega) ?_
  refine R_cV (as := [.ref 27, .int (nI (n - 1))]) rfl rfl iv_Reckoner_minorDivisor (sp_minorDivisor (n := (n - 1)) im27 (by omega) ((hσ2.mono (q := plc 17 26) (fun a b => by unfold plc; omega)).vM hv.1 (fun b => by unfold plc; omega) (fun b => by unfold plc; omega)) (by omega)) (by decide) rfl rfl rfl (by decide) rfl rfl (Nat.le_of_ble_eq_true rfl) (fun σ4 hσ4 => ?_)
  refine R_cS (as := [.long (dvF f h w n), .long (dvF f h w (n - 1))]) rfl rfl iv_D_quotient (sp_quotient) (by decide) rfl rfl rfl rfl (Nat.le_of_ble_eq_true rfl) (fun _ q => ?_)
  obtain rfl := q.symm
  exact T_lreturn rfl rfl (am_okl rfl ((hσ2.mono (q := plc 17 26) (fun a b => by unfold plc; omega)).trans (hσ4.mono (q := plc 17 26) (fun a b => by unfold plc; omega))))
set_option maxRecDepth 100000 in
set_option maxHeartbeats 4000000 in
theorem sp_D_nullity {σ : am_G} {h w rh pn : Nat} {f v rl : am_Gr} {I : Nat → Int32} {m : Nat} (hv : vS σ 26 h w f v rh rl pn I) (hmd : m ∈ mdL) : am_Call am_TX 8 0 c_D_nullity [.ref 0, .int (nI m)] (mm σ) (am_Ok (some (.int (nI w - nI (rkO f m (2 ^ h - 1) (2 ^ w - 1) h w)))) (fun σ1 => smP (plc 17 26) σ σ1)) := by
  have hh6 := hv.1.1.2
  have hw6 := hv.1.2.1.2
  have hr6 := hv.2.2.1.1.2
  have hp6 := hv.2.2.2.1.2
  have hm97 := md_97 hmd
  refine ⟨mf_D_nullity, Nat.le_of_ble_eq_true rfl, ?_⟩
  refine R_aload_n rfl rfl ?_
  refine R_iload_n rfl rfl ?_
  refine R_cV (as := [.int (nI m)]) rfl rfl iv_D_requireModulus (sp_requireModulus (m := m) hmd) (by decide) rfl rfl rfl (by decide) rfl rfl (Nat.le_of_ble_eq_true rfl) (fun _ q => ?_)
  obtain rfl := q.symm
  refine R_aload_n rfl rfl ?_
  refine R_gP (x := 26) rfl rfl fp_10_6 rfl ?_
  refine R_gP (x := 27) rfl rfl fp_9_0 rfl ?_
  refine R_gIN (n := w) rfl rfl fd_4_1 hv.1.2.1.1 ?_
  refine R_aload_n rfl rfl ?_
  refine R_gP (x := 16) rfl rfl fp_10_4 rfl ?_
  refine R_aload_n rfl rfl ?_
  refine R_gP (x := 26) rfl rfl fp_10_6 rfl ?_
  refine R_gP (x := 27) rfl rfl fp_9_0 rfl ?_
  refine R_iload_n rfl rfl ?_
  refine R_cV (as := [.ref 27, .int (nI m)]) rfl rfl iv_Reckoner_fullRank (sp_fullRank (m := m) im27 (by omega) hv.1 (by omega)) (by decide) rfl rfl rfl (by decide) rfl rfl (Nat.le_of_ble_eq_true rfl) (fun σ2 hσ2 => ?_)
  refine R_isub rfl ?_
  exact T_ireturn rfl rfl (am_oki rfl (hσ2.mono (q := plc 17 26) (fun a b => by unfold plc; omega)))
set_option maxRecDepth 100000 in
set_option maxHeartbeats 4000000 in
theorem sp_D_isNeeded {σ : am_G} {h w rh pn : Nat} {f v rl : am_Gr} {I : Nat → Int32} {r : Nat} {m : Nat} (hv : vS σ 26 h w f v rh rl pn I) (r_h : r < h) (hmd : m ∈ mdL) : am_Call am_TX 8 0 c_D_isNeeded [.ref 0, .int (nI m), .int (nI r)] (mm σ) (am_Ok (some (.int (zP (rkO f m (wo (2 ^ h - 1) r) (2 ^ w - 1) h w < rkO f m (2 ^ h - 1) (2 ^ w - 1) h w)))) (fun σ1 => smP (plc 17 26) σ σ1)) := by
  have hh6 := hv.1.1.2
  have hw6 := hv.1.2.1.2
  have hr6 := hv.2.2.1.1.2
  have hp6 := hv.2.2.2.1.2
  have hm97 := md_97 hmd
  have h64 := lw_lt hh6
  have hk1 : rkO f m (wo (2 ^ h - 1) r) (2 ^ w - 1) h w ≤ 6 := rkO_6 hh6
  have hk2 : rkO f m (2 ^ h - 1) (2 ^ w - 1) h w ≤ 6 := rkO_6 hh6
  refine ⟨mf_D_isNeeded, Nat.le_of_ble_eq_true rfl, ?_⟩
  refine R_aload_n rfl rfl ?_
  refine R_iload_n rfl rfl ?_
  refine R_cV (as := [.int (nI r)]) rfl rfl iv_D_requireRow (sp_requireRow (r := r) hv (by omega)) (by decide) rfl rfl rfl (by decide) rfl rfl (Nat.le_of_ble_eq_true rfl) (fun _ q => ?_)
  obtain rfl := q.symm
  refine R_aload_n rfl rfl ?_
  refine R_iload_n rfl rfl ?_
  refine R_cV (as := [.int (nI m)]) rfl rfl iv_D_requireModulus (sp_requireModulus (m := m) hmd) (by decide) rfl rfl rfl (by decide) rfl rfl (Nat.le_of_ble_eq_true rfl) (fun _ q => ?_)
  obtain rfl := q.symm
  refine R_aload_n rfl rfl ?_
  refine R_gP (x := 26) rfl rfl fp_10_6 rfl ?_
  refine R_gP (x := 27) rfl rfl fp_9_0 rfl ?_
  refine R_cV (as := []) rfl rfl iv_Matrix_allRows (sp_Matrix_allRows im27 hv.1.1.1 hv.1.1.2) (by decide) rfl rfl rfl (by decide) rfl rfl (Nat.le_of_ble_eq_true rfl) (fun _ q => ?_)
  obtain rfl := q.symm
  refine R_iload_n rfl rfl ?_
  refine R_cS (as := [.int (nI (2 ^ h - 1)), .int (nI r)]) rfl rfl iv_D_without (sp_without (s := (2 ^ h - 1)) (k := r) (by first | assumption | exact lw_lt (by omega) | exact wi_lt (by first | assumption | omega) (by omega) | exact wo_lt (by first | assumption | omega) (by omega) | omega) (by omega)) (by decide) rfl rfl rfl rfl (Nat.le_of_ble_eq_true rfl) (fun _ q => ?_)
  obtain rfl := q.symm
  refine R_istore_n rfl (by decide) ?_
  refine R_aload_n rfl rfl ?_
  refine R_gP (x := 16) rfl rfl fp_10_4 rfl ?_
  refine R_aload_n rfl rfl ?_
  refine R_gP (x := 26) rfl rfl fp_10_6 rfl ?_
  refine R_gP (x := 27) rfl rfl fp_9_0 rfl ?_
  refine R_iload_n rfl rfl ?_
  refine R_iload_n rfl rfl ?_
  refine R_aload_n rfl rfl ?_
  refine R_gP (x := 26) rfl rfl fp_10_6 rfl ?_
  refine R_gP (x := 27) rfl rfl fp_9_0 rfl ?_
  refine R_cV (as := []) rfl rfl iv_Matrix_allColumns (sp_Matrix_allColumns im27 hv.1.2.1.1 hv.1.2.1.2) (by decide) rfl rfl rfl (by decide) rfl rfl (Nat.le_of_ble_eq_true rfl) (fun _ q => ?_)
  obtain rfl := q.symm
  refine R_cV (as := [.ref 27, .int (nI m), .int (nI (wo (2 ^ h - 1) r)), .int (nI (2 ^ w - 1))]) rfl rfl iv_Reckoner_partRank (sp_partRank (m := m) (S := (wo (2 ^ h - 1) r)) (T := (2 ^ w - 1)) im27 (by omega) hv.1 (by omega) (by first | assumption | exact lw_lt (by omega) | exact wi_lt (by first | assumption | omega) (by omega) | exact wo_lt (by first | assumption | omega) (by omega) | omega) (by first | assumption | exact lw_lt (by omega) | exact wi_lt (by first | assumption | omega) (by omega) | exact wo_lt (by first | assumption | omega) (by omega) | omega)) (by decide) rfl rfl rfl (by decide) rfl rfl (Nat.le_of_ble_eq_true rfl) (fun σ6 hσ6 => ?_)
  refine R_aload_n rfl rfl ?_
  refine R_gP (x := 16) rfl rfl fp_10_4 rfl ?_
  refine R_aload_n rfl rfl ?_
  refine R_gP (x := 26) rfl rfl fp_10_6 rfl ?_
  refine R_gP (x := 27) rfl rfl fp_9_0 rfl ?_
  refine R_iload_n rfl rfl ?_
  refine R_cV (as := [.ref 27, .int (nI m)]) rfl rfl iv_Reckoner_fullRank (sp_fullRank (m := m) im27 (by omega) ((hσ6.mono (q := plc 17 26) (fun a b => by unfold plc; omega)).vM hv.1 (fun b => by unfold plc; omega) (fun b => by unfold plc; omega)) (by omega)) (by decide) rfl rfl rfl (by decide) rfl rfl (Nat.le_of_ble_eq_true rfl) (fun σ8 hσ8 => ?_)
  refine R_nicmp_ge (x := (rkO f m (wo (2 ^ h - 1) r) (2 ^ w - 1) h w)) (y := (rkO f m (2 ^ h - 1) (2 ^ w - 1) h w)) rfl rfl (by omega) (by omega) (fun h1 => ?_) (fun h1 => ?_)
  · refine R_iconst (v := 0) rfl rfl ?_
    exact T_zreturn rfl rfl rfl (am_oki (zP_f (by omega)).symm ((hσ6.mono (q := plc 17 26) (fun a b => by unfold plc; omega)).trans (hσ8.mono (q := plc 17 26) (fun a b => by unfold plc; omega))))
  · refine R_iconst (v := 1) rfl rfl ?_
    refine R_goto rfl rfl ?_
    exact T_zreturn rfl rfl rfl (am_oki (zP_t (by omega)).symm ((hσ6.mono (q := plc 17 26) (fun a b => by unfold plc; omega)).trans (hσ8.mono (q := plc 17 26) (fun a b => by unfold plc; omega))))
set_option maxRecDepth 100000 in
set_option maxHeartbeats 4000000 in
theorem sp_D_areIndependent {σ : am_G} {h w rh pn : Nat} {f v rl : am_Gr} {I : Nat → Int32} {m : Nat} {S : Nat} (hv : vS σ 26 h w f v rh rl pn I) (hmd : m ∈ mdL) (hS : S < 2 ^ h) : am_Call am_TX 8 0 c_D_areIndependent [.ref 0, .int (nI m), .int (nI S)] (mm σ) (am_Ok (some (.int (zP (frB f m h w S = true)))) (fun σ1 => smP (plc 17 26) σ σ1)) := by
  have hh6 := hv.1.1.2
  have hw6 := hv.1.2.1.2
  have hr6 := hv.2.2.1.1.2
  have hp6 := hv.2.2.2.1.2
  have hm97 := md_97 hmd
  have hS6 := p2_64 hS hh6
  refine ⟨mf_D_areIndependent, Nat.le_of_ble_eq_true rfl, ?_⟩
  refine R_aload_n rfl rfl ?_
  refine R_iload_n rfl rfl ?_
  refine R_cV (as := [.int (nI m)]) rfl rfl iv_D_requireModulus (sp_requireModulus (m := m) hmd) (by decide) rfl rfl rfl (by decide) rfl rfl (Nat.le_of_ble_eq_true rfl) (fun _ q => ?_)
  obtain rfl := q.symm
  refine R_aload_n rfl rfl ?_
  refine R_iload_n rfl rfl ?_
  refine R_cV (as := [.int (nI S)]) rfl rfl iv_D_requireRowSet (sp_requireRowSet hv (msk_ok hv.1.1.2 hS)) (by decide) rfl rfl rfl (by decide) rfl rfl (Nat.le_of_ble_eq_true rfl) (fun _ q => ?_)
  obtain rfl := q.symm
  refine R_aload_n rfl rfl ?_
  refine R_gP (x := 24) rfl rfl fp_10_5 rfl ?_
  refine R_aload_n rfl rfl ?_
  refine R_gP (x := 26) rfl rfl fp_10_6 rfl ?_
  refine R_gP (x := 27) rfl rfl fp_9_0 rfl ?_
  refine R_iload_n rfl rfl ?_
  refine R_iload_n rfl rfl ?_
  refine R_cV (as := [.ref 27, .int (nI m), .int (nI S)]) rfl rfl iv_RowSets_isFree (sp_isFree (m := m) (S := S) im27 (by omega) hv.1 (by omega) (by first | assumption | exact lw_lt (by omega) | exact wi_lt (by first | assumption | omega) (by omega) | exact wo_lt (by first | assumption | omega) (by omega) | omega)) (by decide) rfl rfl rfl (by decide) rfl rfl (Nat.le_of_ble_eq_true rfl) (fun σ3 hσ3 => ?_)
  exact T_zreturn rfl rfl nr_zP (am_oki rfl (hσ3.mono (q := plc 17 26) (fun a b => by unfold plc; omega)))
set_option maxRecDepth 100000 in
set_option maxHeartbeats 4000000 in
theorem sp_D_bases {σ : am_G} {h w rh pn : Nat} {f v rl : am_Gr} {I : Nat → Int32} {m : Nat} (hv : vS σ 26 h w f v rh rl pn I) (hmd : m ∈ mdL) : am_Call am_TX 8 0 c_D_bases [.ref 0, .int (nI m)] (mm σ) (am_Ok (some (.int (nI (cbN (frB f m h w) (rkO f m (2 ^ h - 1) (2 ^ w - 1) h w) 64)))) (fun σ1 => smP (plc 17 26) σ σ1)) := by
  have hh6 := hv.1.1.2
  have hw6 := hv.1.2.1.2
  have hr6 := hv.2.2.1.1.2
  have hp6 := hv.2.2.2.1.2
  have hm97 := md_97 hmd
  refine ⟨mf_D_bases, Nat.le_of_ble_eq_true rfl, ?_⟩
  refine R_aload_n rfl rfl ?_
  refine R_iload_n rfl rfl ?_
  refine R_cV (as := [.int (nI m)]) rfl rfl iv_D_requireModulus (sp_requireModulus (m := m) hmd) (by decide) rfl rfl rfl (by decide) rfl rfl (Nat.le_of_ble_eq_true rfl) (fun _ q => ?_)
  obtain rfl := q.symm
  refine R_aload_n rfl rfl ?_
  refine R_gP (x := 24) rfl rfl fp_10_5 rfl ?_
  refine R_aload_n rfl rfl ?_
  refine R_gP (x := 26) rfl rfl fp_10_6 rfl ?_
  refine R_gP (x := 27) rfl rfl fp_9_0 rfl ?_
  refine R_iload_n rfl rfl ?_
  refine R_cV (as := [.ref 27, .int (nI m)]) rfl rfl iv_RowSets_countBases (sp_countBases (m := m) im27 (by omega) hv.1 (by omega)) (by decide) rfl rfl rfl (by decide) rfl rfl (Nat.le_of_ble_eq_true rfl) (fun σ2 hσ2 => ?_)
  exact T_ireturn rfl rfl (am_oki rfl (hσ2.mono (q := plc 17 26) (fun a b => by unfold pSv plc; omega)))
set_option maxRecDepth 100000 in
set_option maxHeartbeats 4000000 in
theorem sp_D_closure {σ : am_G} {h w rh pn : Nat} {f v rl : am_Gr} {I : Nat → Int32} {m : Nat} {S : Nat} (hv : vS σ 26 h w f v rh rl pn I) (hmd : m ∈ mdL) (hS : S < 2 ^ h) : am_Call am_TX 8 0 c_D_closure [.ref 0, .int (nI m), .int (nI S)] (mm σ) (am_Ok (some (.int (nI (spN f m h w S h)))) (fun σ1 => smP (plc 17 26) σ σ1)) := by
  have hh6 := hv.1.1.2
  have hw6 := hv.1.2.1.2
  have hr6 := hv.2.2.1.1.2
  have hp6 := hv.2.2.2.1.2
  have hm97 := md_97 hmd
  have hS6 := p2_64 hS hh6
  refine ⟨mf_D_closure, Nat.le_of_ble_eq_true rfl, ?_⟩
  refine R_aload_n rfl rfl ?_
  refine R_iload_n rfl rfl ?_
  refine R_cV (as := [.int (nI m)]) rfl rfl iv_D_requireModulus (sp_requireModulus (m := m) hmd) (by decide) rfl rfl rfl (by decide) rfl rfl (Nat.le_of_ble_eq_true rfl) (fun _ q => ?_)
  obtain rfl := q.symm
  refine R_aload_n rfl rfl ?_
  refine R_iload_n rfl rfl ?_
  refine R_cV (as := [.int (nI S)]) rfl rfl iv_D_requireRowSet (sp_requireRowSet hv (msk_ok hv.1.1.2 hS)) (by decide) rfl rfl rfl (by decide) rfl rfl (Nat.le_of_ble_eq_true rfl) (fun _ q => ?_)
  obtain rfl := q.symm
  refine R_aload_n rfl rfl ?_
  refine R_gP (x := 24) rfl rfl fp_10_5 rfl ?_
  refine R_aload_n rfl rfl ?_
  refine R_gP (x := 26) rfl rfl fp_10_6 rfl ?_
  refine R_gP (x := 27) rfl rfl fp_9_0 rfl ?_
  refine R_iload_n rfl rfl ?_
  refine R_iload_n rfl rfl ?_
  refine R_cV (as := [.ref 27, .int (nI m), .int (nI S)]) rfl rfl iv_RowSets_span (sp_span (m := m) (S := S) im27 (by omega) hv.1 (by omega) (by first | assumption | exact lw_lt (by omega) | exact wi_lt (by first | assumption | omega) (by omega) | exact wo_lt (by first | assumption | omega) (by omega) | omega)) (by decide) rfl rfl rfl (by decide) rfl rfl (Nat.le_of_ble_eq_true rfl) (fun σ3 hσ3 => ?_)
  exact T_ireturn rfl rfl (am_oki rfl (hσ3.mono (q := plc 17 26) (fun a b => by unfold plc; omega)))
set_option maxRecDepth 100000 in
set_option maxHeartbeats 4000000 in
theorem sp_D_circuits {σ : am_G} {h w rh pn : Nat} {f v rl : am_Gr} {I : Nat → Int32} {m : Nat} (hv : vS σ 26 h w f v rh rl pn I) (hmd : m ∈ mdL) : am_Call am_TX 8 0 c_D_circuits [.ref 0, .int (nI m)] (mm σ) (am_Ok (some (.int (nI (ccN (frB f m h w) 6 (2 ^ h))))) (fun σ1 => smP (plc 17 26) σ σ1)) := by
  have hh6 := hv.1.1.2
  have hw6 := hv.1.2.1.2
  have hr6 := hv.2.2.1.1.2
  have hp6 := hv.2.2.2.1.2
  have hm97 := md_97 hmd
  refine ⟨mf_D_circuits, Nat.le_of_ble_eq_true rfl, ?_⟩
  refine R_aload_n rfl rfl ?_
  refine R_iload_n rfl rfl ?_
  refine R_cV (as := [.int (nI m)]) rfl rfl iv_D_requireModulus (sp_requireModulus (m := m) hmd) (by decide) rfl rfl rfl (by decide) rfl rfl (Nat.le_of_ble_eq_true rfl) (fun _ q => ?_)
  obtain rfl := q.symm
  refine R_aload_n rfl rfl ?_
  refine R_gP (x := 24) rfl rfl fp_10_5 rfl ?_
  refine R_aload_n rfl rfl ?_
  refine R_gP (x := 26) rfl rfl fp_10_6 rfl ?_
  refine R_gP (x := 27) rfl rfl fp_9_0 rfl ?_
  refine R_iload_n rfl rfl ?_
  refine R_cV (as := [.ref 27, .int (nI m)]) rfl rfl iv_RowSets_countCircuits (sp_countCircuits (m := m) im27 (by omega) hv.1 (by omega)) (by decide) rfl rfl rfl (by decide) rfl rfl (Nat.le_of_ble_eq_true rfl) (fun σ2 hσ2 => ?_)
  exact T_ireturn rfl rfl (am_oki rfl (hσ2.mono (q := plc 17 26) (fun a b => by unfold pSv plc; omega)))
set_option maxRecDepth 100000 in
set_option maxHeartbeats 4000000 in
theorem sp_D_circuit {σ : am_G} {h w rh pn : Nat} {f v rl : am_Gr} {I : Nat → Int32} {r : Nat} {m : Nat} (hv : vS σ 26 h w f v rh rl pn I) (r_h : r < h) (hmd : m ∈ mdL) : am_Call am_TX 8 0 c_D_circuit [.ref 0, .int (nI m), .int (nI r)] (mm σ) (am_Ok (some (.int (lcF (frB f m h w) 6 r (2 ^ h - 1) 1))) (fun σ1 => smP (plc 17 26) σ σ1)) := by
  have hh6 := hv.1.1.2
  have hw6 := hv.1.2.1.2
  have hr6 := hv.2.2.1.1.2
  have hp6 := hv.2.2.2.1.2
  have hm97 := md_97 hmd
  refine ⟨mf_D_circuit, Nat.le_of_ble_eq_true rfl, ?_⟩
  refine R_aload_n rfl rfl ?_
  refine R_iload_n rfl rfl ?_
  refine R_cV (as := [.int (nI r)]) rfl rfl iv_D_requireRow (sp_requireRow (r := r) hv (by omega)) (by decide) rfl rfl rfl (by decide) rfl rfl (Nat.le_of_ble_eq_true rfl) (fun _ q => ?_)
  obtain rfl := q.symm
  refine R_aload_n rfl rfl ?_
  refine R_iload_n rfl rfl ?_
  refine R_cV (as := [.int (nI m)]) rfl rfl iv_D_requireModulus (sp_requireModulus (m := m) hmd) (by decide) rfl rfl rfl (by decide) rfl rfl (Nat.le_of_ble_eq_true rfl) (fun _ q => ?_)
  obtain rfl := q.symm
  refine R_aload_n rfl rfl ?_
  refine R_gP (x := 24) rfl rfl fp_10_5 rfl ?_
  refine R_aload_n rfl rfl ?_
  refine R_gP (x := 26) rfl rfl fp_10_6 rfl ?_
  refine R_gP (x := 27) rfl rfl fp_9_0 rfl ?_
  refine R_iload_n rfl rfl ?_
  refine R_iload_n rfl rfl ?_
  refine R_cV (as := [.ref 27, .int (nI m), .int (nI r)]) rfl rfl iv_RowSets_leastCircuit (sp_leastCircuit (m := m) (r := r) im27 (by omega) hv.1 (by omega) (by omega)) (by decide) rfl rfl rfl (by decide) rfl rfl (Nat.le_of_ble_eq_true rfl) (fun σ3 hσ3 => ?_)
  exact T_ireturn rfl rfl (am_oki rfl (hσ3.mono (q := plc 17 26) (fun a b => by unfold pSv plc; omega)))
