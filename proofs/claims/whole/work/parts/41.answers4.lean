/-! ===== relations, guesses of minors, flaws: what the class answers ===== -/
def pRq (a _b : Nat) : Prop := 19 ≤ a ∧ a < 21
set_option maxRecDepth 100000 in
set_option maxHeartbeats 4000000 in
theorem sp_outside {σ : am_G} {k h w m r : Nat} {f : am_Gr} (hM : isMat k) (hk : 21 ≤ k) (hv : vM σ k h w f) (hm : m ≤ 97) (hr : r < h) (hn : ¬ (prR f m h w h).testBit r = true) : am_Call am_TX 6 0 c_D_requireOutsideProfile [.ref 0, .ref k, .int (nI m), .int (nI r)] (mm σ) (am_Ok none (fun σ1 => smP (plc 19 21) σ σ1)) := by
  have hh6 := hv.1.2
  have hw6 := hv.2.1.2
  have hp64 := prR_lt (f := f) (m := m) (h := h) (w := w) h hh6
  refine ⟨mf_D_requireOutsideProfile, Nat.le_of_ble_eq_true rfl, ?_⟩
  refine R_aload_n rfl rfl ?_
  refine R_gP (x := 16) rfl rfl fp_10_4 rfl ?_
  refine R_aload_n rfl rfl ?_
  refine R_iload_n rfl rfl ?_
  refine R_cV (as := [.ref k, .int (nI m)]) rfl rfl iv_Reckoner_profileOfRows (sp_profileOfRows (m := m) hM (by omega) hv (by omega)) (by decide) rfl rfl rfl (by decide) rfl rfl (Nat.le_of_ble_eq_true rfl) (fun σ1 hσ1 => ?_)
  refine R_iload_n rfl rfl ?_
  refine R_cS (as := [.int (nI (prR f m h w h)), .int (nI r)]) rfl rfl iv_D_has (sp_has (s := (prR f m h w h)) (k := r) (by first | assumption | exact lw_lt (by omega) | exact wi_lt (by first | assumption | omega) (by omega) | exact wo_lt (by first | assumption | omega) (by omega) | omega) (by omega)) (by decide) rfl rfl rfl rfl (Nat.le_of_ble_eq_true rfl) (fun _ q => ?_)
  obtain rfl := q.symm
  refine R_if_eq rfl rfl (fun h1 => ?_) (fun z => absurd (zP_ne z) hn)
  exact T_return rfl rfl (am_okv0 hσ1)
set_option maxRecDepth 100000 in
set_option maxHeartbeats 4000000 in
theorem sp_outside_x {σ : am_G} {k h w m r : Nat} {f : am_Gr} (hM : isMat k) (hk : 21 ≤ k) (hv : vM σ k h w f) (hm : m ≤ 97) (hr : r < h) (hn : (prR f m h w h).testBit r = true) : am_Call am_TX 6 1 c_D_requireOutsideProfile [.ref 0, .ref k, .int (nI m), .int (nI r)] (mm σ) (am_ThP "java/util/NoSuchElementException" (fun σ1 => smP (plc 19 21) σ σ1)) := by
  have hh6 := hv.1.2
  have hw6 := hv.2.1.2
  have hp64 := prR_lt (f := f) (m := m) (h := h) (w := w) h hh6
  refine ⟨mf_D_requireOutsideProfile, Nat.le_of_ble_eq_true rfl, ?_⟩
  refine R_aload_n rfl rfl ?_
  refine R_gP (x := 16) rfl rfl fp_10_4 rfl ?_
  refine R_aload_n rfl rfl ?_
  refine R_iload_n rfl rfl ?_
  refine R_cV (as := [.ref k, .int (nI m)]) rfl rfl iv_Reckoner_profileOfRows (sp_profileOfRows (m := m) hM (by omega) hv (by omega)) (by decide) rfl rfl rfl (by decide) rfl rfl (Nat.le_of_ble_eq_true rfl) (fun σ1 hσ1 => ?_)
  refine R_iload_n rfl rfl ?_
  refine R_cS (as := [.int (nI (prR f m h w h)), .int (nI r)]) rfl rfl iv_D_has (sp_has (s := (prR f m h w h)) (k := r) (by first | assumption | exact lw_lt (by omega) | exact wi_lt (by first | assumption | omega) (by omega) | exact wo_lt (by first | assumption | omega) (by omega) | omega) (by omega)) (by decide) rfl rfl rfl rfl (Nat.le_of_ble_eq_true rfl) (fun _ q => ?_)
  obtain rfl := q.symm
  refine R_if_eq rfl rfl (fun z => absurd hn (zP_0 z)) (fun h1 => ?_)
  exact R_throwWN (text := "it is in the profile") (i := 18) rfl rfl rfl rfl rfl (List.mem_of_getElem? (i := 18) rfl) am_tw3 rfl rfl (Nat.le_refl 1) ⟨_, rfl, hσ1⟩
set_option maxRecDepth 100000 in
set_option maxHeartbeats 4000000 in
theorem sp_D_relation {σ : am_G} {h w rh pn : Nat} {f v rl : am_Gr} {I : Nat → Int32} {r : Nat} {k : Nat} (hv : vS σ 26 h w f v rh rl pn I) (r_h : r < h) (k_h : k < h) (hn : ¬ (prR f 0 h w h).testBit r = true) : am_Call am_TX 8 0 c_D_relation [.ref 0, .int (nI r), .int (nI k)] (mm σ) (am_Ok (some (.long (rlG f 0 h w r 0 k))) (fun σ1 => smP (plc 17 26) σ σ1)) := by
  have hh6 := hv.1.1.2
  have hw6 := hv.1.2.1.2
  have hr6 := hv.2.2.1.1.2
  have hp6 := hv.2.2.2.1.2
  refine ⟨mf_D_relation, Nat.le_of_ble_eq_true rfl, ?_⟩
  refine R_aload_n rfl rfl ?_
  refine R_iload_n rfl rfl ?_
  refine R_cV (as := [.int (nI r)]) rfl rfl iv_D_requireRow (sp_requireRow (r := r) hv (by omega)) (by decide) rfl rfl rfl (by decide) rfl rfl (Nat.le_of_ble_eq_true rfl) (fun _ q => ?_)
  obtain rfl := q.symm
  refine R_aload_n rfl rfl ?_
  refine R_iload_n rfl rfl ?_
  refine R_cV (as := [.int (nI k)]) rfl rfl iv_D_requireRow (sp_requireRow (r := k) hv (by omega)) (by decide) rfl rfl rfl (by decide) rfl rfl (Nat.le_of_ble_eq_true rfl) (fun _ q => ?_)
  obtain rfl := q.symm
  refine R_aload_n rfl rfl ?_
  refine R_aload_n rfl rfl ?_
  refine R_gP (x := 26) rfl rfl fp_10_6 rfl ?_
  refine R_gP (x := 27) rfl rfl fp_9_0 rfl ?_
  refine R_iconst (v := 0) rfl rfl ?_
  refine R_iload_n rfl rfl ?_
  refine R_cV (as := [.ref 27, .int 0, .int (nI r)]) rfl rfl iv_D_requireOutsideProfile (sp_outside (m := 0) (r := r) im27 (by omega) hv.1 (by omega) (by omega) hn) (by decide) rfl rfl rfl (by decide) rfl rfl (Nat.le_of_ble_eq_true rfl) (fun σ3 hσ3 => ?_)
  refine R_aload_n rfl rfl ?_
  refine R_gP (x := 16) rfl rfl fp_10_4 rfl ?_
  refine R_aload_n rfl rfl ?_
  refine R_gP (x := 26) rfl rfl fp_10_6 rfl ?_
  refine R_gP (x := 27) rfl rfl fp_9_0 rfl ?_
  refine R_iconst (v := 0) rfl rfl ?_
  refine R_iload_n rfl rfl ?_
  refine R_cV (as := [.ref 27, .int 0, .int (nI r)]) rfl rfl iv_Reckoner_relationOfRow (sp_relationOfRow (m := 0) (r := r) im27 (by omega) ((hσ3.mono (q := plc 17 26) (fun a b => by unfold plc; omega)).vM hv.1 (fun b => by unfold plc; omega) (fun b => by unfold plc; omega)) (by omega) (by omega)) (by decide) rfl rfl rfl (by decide) rfl rfl (Nat.le_of_ble_eq_true rfl) (fun ρ1 hρ1 => ?_)
  obtain ⟨q1, q2⟩ := hρ1
  refine R_iconst (v := 0) rfl rfl ?_
  refine R_iload_n rfl rfl ?_
  refine R_cV (as := [.int 0, .int (nI k)]) rfl rfl iv_Matrix_at ((by have z := sp_Matrix_at (σ := ρ1) (k := 17) (i := 0) (j := k) im17 (by omega) (by omega); rw [q2.at (by omega) (by omega)] at z; exact z)) (by decide) rfl rfl rfl (by decide) rfl rfl (Nat.le_of_ble_eq_true rfl) (fun _ q => ?_)
  obtain rfl := q.symm
  exact T_lreturn rfl rfl (am_okl rfl ((hσ3.mono (q := plc 17 26) (fun a b => by unfold plc; omega)).trans (q1.mono (q := plc 17 26) (fun a b => by unfold pRl plc; omega))))
set_option maxRecDepth 100000 in
set_option maxHeartbeats 4000000 in
theorem sp_D_relation_x0 {σ : am_G} {h w rh pn : Nat} {f v rl : am_Gr} {I : Nat → Int32} {k_ : Int32} {x : Int32} (hv : vS σ 26 h w f v rh rl pn I) (hb : ¬ (0 ≤ x ∧ x < nI h)) : am_Call am_TX 8 1 c_D_relation [.ref 0, .int x, .int k_] (mm σ) (am_ThP "java/lang/IndexOutOfBoundsException" (fun σ1 => smP (plc 17 26) σ σ1)) := by
  have hh6 := hv.1.1.2
  have hw6 := hv.1.2.1.2
  have hr6 := hv.2.2.1.1.2
  have hp6 := hv.2.2.2.1.2
  refine ⟨mf_D_relation, Nat.le_of_ble_eq_true rfl, ?_⟩
  refine R_aload_n rfl rfl ?_
  refine R_iload_n rfl rfl ?_
  refine R_cVxP (k := 0) (as := [.int x]) rfl rfl iv_D_requireRow (sp_requireRow_x hv hb) (by decide) rfl rfl rfl (by decide) rfl rfl (Nat.le_of_ble_eq_true rfl) (fun σ' hσ' => Rx_out rfl ⟨σ', rfl, by rw [hσ']; exact smP.refl⟩)
set_option maxRecDepth 100000 in
set_option maxHeartbeats 4000000 in
theorem sp_D_relation_x1 {σ : am_G} {h w rh pn : Nat} {f v rl : am_Gr} {I : Nat → Int32} {r : Nat} {x : Int32} (hv : vS σ 26 h w f v rh rl pn I) (r_h : r < h) (hb : ¬ (0 ≤ x ∧ x < nI h)) : am_Call am_TX 8 1 c_D_relation [.ref 0, .int (nI r), .int x] (mm σ) (am_ThP "java/lang/IndexOutOfBoundsException" (fun σ1 => smP (plc 17 26) σ σ1)) := by
  have hh6 := hv.1.1.2
  have hw6 := hv.1.2.1.2
  have hr6 := hv.2.2.1.1.2
  have hp6 := hv.2.2.2.1.2
  refine ⟨mf_D_relation, Nat.le_of_ble_eq_true rfl, ?_⟩
  refine R_aload_n rfl rfl ?_
  refine R_iload_n rfl rfl ?_
  refine R_cV (as := [.int (nI r)]) rfl rfl iv_D_requireRow (sp_requireRow (r := r) hv (by omega)) (by decide) rfl rfl rfl (by decide) rfl rfl (Nat.le_of_ble_eq_true rfl) (fun _ q => ?_)
  obtain rfl := q.symm
  refine R_aload_n rfl rfl ?_
  refine R_iload_n rfl rfl ?_
  refine R_cVxP (k := 0) (as := [.int x]) rfl rfl iv_D_requireRow (sp_requireRow_x hv hb) (by decide) rfl rfl rfl (by decide) rfl rfl (Nat.le_of_ble_eq_true rfl) (fun σ' hσ' => Rx_out rfl ⟨σ', rfl, by rw [hσ']; exact smP.refl⟩)
set_option maxRecDepth 100000 in
set_option maxHeartbeats 4000000 in
theorem sp_D_relation_n {σ : am_G} {h w rh pn : Nat} {f v rl : am_Gr} {I : Nat → Int32} {r : Nat} {k : Nat} (hv : vS σ 26 h w f v rh rl pn I) (r_h : r < h) (k_h : k < h) (hn : (prR f 0 h w h).testBit r = true) : am_Call am_TX 8 1 c_D_relation [.ref 0, .int (nI r), .int (nI k)] (mm σ) (am_ThP "java/util/NoSuchElementException" (fun σ1 => smP (plc 17 26) σ σ1)) := by
  have hh6 := hv.1.1.2
  have hw6 := hv.1.2.1.2
  have hr6 := hv.2.2.1.1.2
  have hp6 := hv.2.2.2.1.2
  refine ⟨mf_D_relation, Nat.le_of_ble_eq_true rfl, ?_⟩
  refine R_aload_n rfl rfl ?_
  refine R_iload_n rfl rfl ?_
  refine R_cV (as := [.int (nI r)]) rfl rfl iv_D_requireRow (sp_requireRow (r := r) hv (by omega)) (by decide) rfl rfl rfl (by decide) rfl rfl (Nat.le_of_ble_eq_true rfl) (fun _ q => ?_)
  obtain rfl := q.symm
  refine R_aload_n rfl rfl ?_
  refine R_iload_n rfl rfl ?_
  refine R_cV (as := [.int (nI k)]) rfl rfl iv_D_requireRow (sp_requireRow (r := k) hv (by omega)) (by decide) rfl rfl rfl (by decide) rfl rfl (Nat.le_of_ble_eq_true rfl) (fun _ q => ?_)
  obtain rfl := q.symm
  refine R_aload_n rfl rfl ?_
  refine R_aload_n rfl rfl ?_
  refine R_gP (x := 26) rfl rfl fp_10_6 rfl ?_
  refine R_gP (x := 27) rfl rfl fp_9_0 rfl ?_
  refine R_iconst (v := 0) rfl rfl ?_
  refine R_iload_n rfl rfl ?_
  refine R_cVxP (k := 0) (as := [.ref 27, .int 0, .int (nI r)]) rfl rfl iv_D_requireOutsideProfile (sp_outside_x (m := 0) (r := r) im27 (by omega) hv.1 (by omega) (by omega) hn) (by decide) rfl rfl rfl (by decide) rfl rfl (Nat.le_of_ble_eq_true rfl) (fun σ' hσ' => Rx_out rfl ⟨σ', rfl, (hσ'.mono (fun a b => by unfold plc; omega))⟩)
set_option maxRecDepth 100000 in
set_option maxHeartbeats 4000000 in
theorem sp_D_relationMod {σ : am_G} {h w rh pn : Nat} {f v rl : am_Gr} {I : Nat → Int32} {r : Nat} {k : Nat} {m : Nat} (hv : vS σ 26 h w f v rh rl pn I) (r_h : r < h) (k_h : k < h) (hmp : m ∈ prL) (hn : ¬ (prR f m h w h).testBit r = true) : am_Call am_TX 8 0 c_D_relationMod [.ref 0, .int (nI m), .int (nI r), .int (nI k)] (mm σ) (am_Ok (some (.int (rlG f m h w r 0 k).toInt32)) (fun σ1 => smP (plc 17 26) σ σ1)) := by
  have hh6 := hv.1.1.2
  have hw6 := hv.1.2.1.2
  have hr6 := hv.2.2.1.1.2
  have hp6 := hv.2.2.2.1.2
  have hm97 := (prL_le m hmp).2
  have hm2 := (prL_le m hmp).1
  refine ⟨mf_D_relationMod, Nat.le_of_ble_eq_true rfl, ?_⟩
  refine R_aload_n rfl rfl ?_
  refine R_iload_n rfl rfl ?_
  refine R_cV (as := [.int (nI r)]) rfl rfl iv_D_requireRow (sp_requireRow (r := r) hv (by omega)) (by decide) rfl rfl rfl (by decide) rfl rfl (Nat.le_of_ble_eq_true rfl) (fun _ q => ?_)
  obtain rfl := q.symm
  refine R_aload_n rfl rfl ?_
  refine R_iload_n rfl rfl ?_
  refine R_cV (as := [.int (nI k)]) rfl rfl iv_D_requireRow (sp_requireRow (r := k) hv (by omega)) (by decide) rfl rfl rfl (by decide) rfl rfl (Nat.le_of_ble_eq_true rfl) (fun _ q => ?_)
  obtain rfl := q.symm
  refine R_aload_n rfl rfl ?_
  refine R_iload_n rfl rfl ?_
  refine R_cV (as := [.int (nI m)]) rfl rfl iv_D_requirePrimeModulus (sp_requirePrimeModulus (m := m) hmp) (by decide) rfl rfl rfl (by decide) rfl rfl (Nat.le_of_ble_eq_true rfl) (fun _ q => ?_)
  obtain rfl := q.symm
  refine R_aload_n rfl rfl ?_
  refine R_aload_n rfl rfl ?_
  refine R_gP (x := 26) rfl rfl fp_10_6 rfl ?_
  refine R_gP (x := 27) rfl rfl fp_9_0 rfl ?_
  refine R_iload_n rfl rfl ?_
  refine R_iload_n rfl rfl ?_
  refine R_cV (as := [.ref 27, .int (nI m), .int (nI r)]) rfl rfl iv_D_requireOutsideProfile (sp_outside (m := m) (r := r) im27 (by omega) hv.1 (by omega) (by omega) hn) (by decide) rfl rfl rfl (by decide) rfl rfl (Nat.le_of_ble_eq_true rfl) (fun σ4 hσ4 => ?_)
  refine R_aload_n rfl rfl ?_
  refine R_gP (x := 16) rfl rfl fp_10_4 rfl ?_
  refine R_aload_n rfl rfl ?_
  refine R_gP (x := 26) rfl rfl fp_10_6 rfl ?_
  refine R_gP (x := 27) rfl rfl fp_9_0 rfl ?_
  refine R_iload_n rfl rfl ?_
  refine R_iload_n rfl rfl ?_
  refine R_cV (as := [.ref 27, .int (nI m), .int (nI r)]) rfl rfl iv_Reckoner_relationOfRow (sp_relationOfRow (m := m) (r := r) im27 (by omega) ((hσ4.mono (q := plc 17 26) (fun a b => by unfold plc; omega)).vM hv.1 (fun b => by unfold plc; omega) (fun b => by unfold plc; omega)) (by omega) (by omega)) (by decide) rfl rfl rfl (by decide) rfl rfl (Nat.le_of_ble_eq_true rfl) (fun ρ1 hρ1 => ?_)
  obtain ⟨q1, q2⟩ := hρ1
  refine R_iconst (v := 0) rfl rfl ?_
  refine R_iload_n rfl rfl ?_
  refine R_cV (as := [.int 0, .int (nI k)]) rfl rfl iv_Matrix_at ((by have z := sp_Matrix_at (σ := ρ1) (k := 17) (i := 0) (j := k) im17 (by omega) (by omega); rw [q2.at (by omega) (by omega)] at z; exact z)) (by decide) rfl rfl rfl (by decide) rfl rfl (Nat.le_of_ble_eq_true rfl) (fun _ q => ?_)
  obtain rfl := q.symm
  refine R_l2i rfl ?_
  exact T_ireturn rfl rfl (am_oki rfl ((hσ4.mono (q := plc 17 26) (fun a b => by unfold plc; omega)).trans (q1.mono (q := plc 17 26) (fun a b => by unfold pRl plc; omega))))
set_option maxRecDepth 100000 in
set_option maxHeartbeats 4000000 in
theorem sp_D_relationMod_x0 {σ : am_G} {h w rh pn : Nat} {f v rl : am_Gr} {I : Nat → Int32} {m_ : Int32} {k_ : Int32} {x : Int32} (hv : vS σ 26 h w f v rh rl pn I) (hb : ¬ (0 ≤ x ∧ x < nI h)) : am_Call am_TX 8 1 c_D_relationMod [.ref 0, .int m_, .int x, .int k_] (mm σ) (am_ThP "java/lang/IndexOutOfBoundsException" (fun σ1 => smP (plc 17 26) σ σ1)) := by
  have hh6 := hv.1.1.2
  have hw6 := hv.1.2.1.2
  have hr6 := hv.2.2.1.1.2
  have hp6 := hv.2.2.2.1.2
  refine ⟨mf_D_relationMod, Nat.le_of_ble_eq_true rfl, ?_⟩
  refine R_aload_n rfl rfl ?_
  refine R_iload_n rfl rfl ?_
  refine R_cVxP (k := 0) (as := [.int x]) rfl rfl iv_D_requireRow (sp_requireRow_x hv hb) (by decide) rfl rfl rfl (by decide) rfl rfl (Nat.le_of_ble_eq_true rfl) (fun σ' hσ' => Rx_out rfl ⟨σ', rfl, by rw [hσ']; exact smP.refl⟩)
set_option maxRecDepth 100000 in
set_option maxHeartbeats 4000000 in
theorem sp_D_relationMod_x1 {σ : am_G} {h w rh pn : Nat} {f v rl : am_Gr} {I : Nat → Int32} {r : Nat} {m_ : Int32} {x : Int32} (hv : vS σ 26 h w f v rh rl pn I) (r_h : r < h) (hb : ¬ (0 ≤ x ∧ x < nI h)) : am_Call am_TX 8 1 c_D_relationMod [.ref 0, .int m_, .int (nI r), .int x] (mm σ) (am_ThP "java/lang/IndexOutOfBoundsException" (fun σ1 => smP (plc 17 26) σ σ1)) := by
  have hh6 := hv.1.1.2
  have hw6 := hv.1.2.1.2
  have hr6 := hv.2.2.1.1.2
  have hp6 := hv.2.2.2.1.2
  refine ⟨mf_D_relationMod, Nat.le_of_ble_eq_true rfl, ?_⟩
  refine R_aload_n rfl rfl ?_
  refine R_iload_n rfl rfl ?_
  refine R_cV (as := [.int (nI r)]) rfl rfl iv_D_requireRow (sp_requireRow (r := r) hv (by omega)) (by decide) rfl rfl rfl (by decide) rfl rfl (Nat.le_of_ble_eq_true rfl) (fun _ q => ?_)
  obtain rfl := q.symm
  refine R_aload_n rfl rfl ?_
  refine R_iload_n rfl rfl ?_
  refine R_cVxP (k := 0) (as := [.int x]) rfl rfl iv_D_requireRow (sp_requireRow_x hv hb) (by decide) rfl rfl rfl (by decide) rfl rfl (Nat.le_of_ble_eq_true rfl) (fun σ' hσ' => Rx_out rfl ⟨σ', rfl, by rw [hσ']; exact smP.refl⟩)
set_option maxRecDepth 100000 in
set_option maxHeartbeats 4000000 in
theorem sp_D_relationMod_x2 {σ : am_G} {h w rh pn : Nat} {f v rl : am_Gr} {I : Nat → Int32} {r : Nat} {k : Nat} {x : Int32} (hv : vS σ 26 h w f v rh rl pn I) (r_h : r < h) (k_h : k < h) (hb : ∀ n, n ∈ prL → x ≠ nI n) : am_Call am_TX 8 1 c_D_relationMod [.ref 0, .int x, .int (nI r), .int (nI k)] (mm σ) (am_ThP "java/lang/IllegalArgumentException" (fun σ1 => smP (plc 17 26) σ σ1)) := by
  have hh6 := hv.1.1.2
  have hw6 := hv.1.2.1.2
  have hr6 := hv.2.2.1.1.2
  have hp6 := hv.2.2.2.1.2
  refine ⟨mf_D_relationMod, Nat.le_of_ble_eq_true rfl, ?_⟩
  refine R_aload_n rfl rfl ?_
  refine R_iload_n rfl rfl ?_
  refine R_cV (as := [.int (nI r)]) rfl rfl iv_D_requireRow (sp_requireRow (r := r) hv (by omega)) (by decide) rfl rfl rfl (by decide) rfl rfl (Nat.le_of_ble_eq_true rfl) (fun _ q => ?_)
  obtain rfl := q.symm
  refine R_aload_n rfl rfl ?_
  refine R_iload_n rfl rfl ?_
  refine R_cV (as := [.int (nI k)]) rfl rfl iv_D_requireRow (sp_requireRow (r := k) hv (by omega)) (by decide) rfl rfl rfl (by decide) rfl rfl (Nat.le_of_ble_eq_true rfl) (fun _ q => ?_)
  obtain rfl := q.symm
  refine R_aload_n rfl rfl ?_
  refine R_iload_n rfl rfl ?_
  refine R_cVxP (k := 0) (as := [.int x]) rfl rfl iv_D_requirePrimeModulus (sp_requirePrimeModulus_x hb) (by decide) rfl rfl rfl (by decide) rfl rfl (Nat.le_of_ble_eq_true rfl) (fun σ' hσ' => Rx_out rfl ⟨σ', rfl, by rw [hσ']; exact smP.refl⟩)
set_option maxRecDepth 100000 in
set_option maxHeartbeats 4000000 in
theorem sp_D_relationMod_n {σ : am_G} {h w rh pn : Nat} {f v rl : am_Gr} {I : Nat → Int32} {r : Nat} {k : Nat} {m : Nat} (hv : vS σ 26 h w f v rh rl pn I) (r_h : r < h) (k_h : k < h) (hmp : m ∈ prL) (hn : (prR f m h w h).testBit r = true) : am_Call am_TX 8 1 c_D_relationMod [.ref 0, .int (nI m), .int (nI r), .int (nI k)] (mm σ) (am_ThP "java/util/NoSuchElementException" (fun σ1 => smP (plc 17 26) σ σ1)) := by
  have hh6 := hv.1.1.2
  have hw6 := hv.1.2.1.2
  have hr6 := hv.2.2.1.1.2
  have hp6 := hv.2.2.2.1.2
  have hm97 := (prL_le m hmp).2
  have hm2 := (prL_le m hmp).1
  refine ⟨mf_D_relationMod, Nat.le_of_ble_eq_true rfl, ?_⟩
  refine R_aload_n rfl rfl ?_
  refine R_iload_n rfl rfl ?_
  refine R_cV (as := [.int (nI r)]) rfl rfl iv_D_requireRow (sp_requireRow (r := r) hv (by omega)) (by decide) rfl rfl rfl (by decide) rfl rfl (Nat.le_of_ble_eq_true rfl) (fun _ q => ?_)
  obtain rfl := q.symm
  refine R_aload_n rfl rfl ?_
  refine R_iload_n rfl rfl ?_
  refine R_cV (as := [.int (nI k)]) rfl rfl iv_D_requireRow (sp_requireRow (r := k) hv (by omega)) (by decide) rfl rfl rfl (by decide) rfl rfl (Nat.le_of_ble_eq_true rfl) (fun _ q => ?_)
  obtain rfl := q.symm
  refine R_aload_n rfl rfl ?_
  refine R_iload_n rfl rfl ?_
  refine R_cV (as := [.int (nI m)]) rfl rfl iv_D_requirePrimeModulus (sp_requirePrimeModulus (m := m) hmp) (by decide) rfl rfl rfl (by decide) rfl rfl (Nat.le_of_ble_eq_true rfl) (fun _ q => ?_)
  obtain rfl := q.symm
  refine R_aload_n rfl rfl ?_
  refine R_aload_n rfl rfl ?_
  refine R_gP (x := 26) rfl rfl fp_10_6 rfl ?_
  refine R_gP (x := 27) rfl rfl fp_9_0 rfl ?_
  refine R_iload_n rfl rfl ?_
  refine R_iload_n rfl rfl ?_
  refine R_cVxP (k := 0) (as := [.ref 27, .int (nI m), .int (nI r)]) rfl rfl iv_D_requireOutsideProfile (sp_outside_x (m := m) (r := r) im27 (by omega) hv.1 (by omega) (by omega) hn) (by decide) rfl rfl rfl (by decide) rfl rfl (Nat.le_of_ble_eq_true rfl) (fun σ' hσ' => Rx_out rfl ⟨σ', rfl, (hσ'.mono (fun a b => by unfold plc; omega))⟩)
set_option maxRecDepth 100000 in
set_option maxHeartbeats 4000000 in
theorem sp_D_columnRelation {σ : am_G} {h w rh pn : Nat} {f v rl : am_Gr} {I : Nat → Int32} {r : Nat} {k : Nat} (hv : vS σ 26 h w f v rh rl pn I) (r_w : r < w) (k_w : k < w) (hn : ¬ (prR (tuF f h w 0) 0 w h w).testBit r = true) : am_Call am_TX 8 0 c_D_columnRelation [.ref 0, .int (nI r), .int (nI k)] (mm σ) (am_Ok (some (.long (rlG (tuF f h w 0) 0 w h r 0 k))) (fun σ1 => smP (plc 17 26) σ σ1)) := by
  have hh6 := hv.1.1.2
  have hw6 := hv.1.2.1.2
  have hr6 := hv.2.2.1.1.2
  have hp6 := hv.2.2.2.1.2
  refine ⟨mf_D_columnRelation, Nat.le_of_ble_eq_true rfl, ?_⟩
  refine R_aload_n rfl rfl ?_
  refine R_iload_n rfl rfl ?_
  refine R_cV (as := [.int (nI r)]) rfl rfl iv_D_requireColumn (sp_requireColumn (r := r) hv (by omega)) (by decide) rfl rfl rfl (by decide) rfl rfl (Nat.le_of_ble_eq_true rfl) (fun _ q => ?_)
  obtain rfl := q.symm
  refine R_aload_n rfl rfl ?_
  refine R_iload_n rfl rfl ?_
  refine R_cV (as := [.int (nI k)]) rfl rfl iv_D_requireColumn (sp_requireColumn (r := k) hv (by omega)) (by decide) rfl rfl rfl (by decide) rfl rfl (Nat.le_of_ble_eq_true rfl) (fun _ q => ?_)
  obtain rfl := q.symm
  refine R_aload_n rfl rfl ?_
  refine R_gP (x := 16) rfl rfl fp_10_4 rfl ?_
  refine R_aload_n rfl rfl ?_
  refine R_gP (x := 26) rfl rfl fp_10_6 rfl ?_
  refine R_gP (x := 27) rfl rfl fp_9_0 rfl ?_
  refine R_cV (as := [.ref 27]) rfl rfl iv_Reckoner_turned (sp_turned im27 (by omega) hv.1) (by decide) rfl rfl rfl (by decide) rfl rfl (Nat.le_of_ble_eq_true rfl) (fun _ q => ?_)
  obtain rfl := q.symm
  refine R_astore_n rfl (by decide) ?_
  refine R_aload_n rfl rfl ?_
  refine R_aload_n rfl rfl ?_
  refine R_iconst (v := 0) rfl rfl ?_
  refine R_iload_n rfl rfl ?_
  refine R_cV (as := [.ref 21, .int 0, .int (nI r)]) rfl rfl iv_D_requireOutsideProfile (sp_outside (m := 0) (r := r) im21 (by omega) (vM_setM (σ := σ) (k := 21) (h := w) (w := h) (f := tuF f h w 0) hw6 hh6) (by omega) (by omega) hn) (by decide) rfl rfl rfl (by decide) rfl rfl (Nat.le_of_ble_eq_true rfl) (fun ρ0 hρ0 => ?_)
  refine R_aload_n rfl rfl ?_
  refine R_gP (x := 16) rfl rfl fp_10_4 rfl ?_
  refine R_aload_n rfl rfl ?_
  refine R_iconst (v := 0) rfl rfl ?_
  refine R_iload_n rfl rfl ?_
  refine R_cV (as := [.ref 21, .int 0, .int (nI r)]) rfl rfl iv_Reckoner_relationOfRow (sp_relationOfRow (m := 0) (r := r) im21 (by omega) (hρ0.vM (vM_setM (σ := σ) (k := 21) (h := w) (w := h) (f := tuF f h w 0) hw6 hh6) (fun b => by unfold plc; omega) (fun b => by unfold plc; omega)) (by omega) (by omega)) (by decide) rfl rfl rfl (by decide) rfl rfl (Nat.le_of_ble_eq_true rfl) (fun ρ1 hρ1 => ?_)
  obtain ⟨q1, q2⟩ := hρ1
  refine R_iconst (v := 0) rfl rfl ?_
  refine R_iload_n rfl rfl ?_
  refine R_cV (as := [.int 0, .int (nI k)]) rfl rfl iv_Matrix_at ((by have z := sp_Matrix_at (σ := ρ1) (k := 17) (i := 0) (j := k) im17 (by omega) (by omega); rw [q2.at (by omega) (by omega)] at z; exact z)) (by decide) rfl rfl rfl (by decide) rfl rfl (Nat.le_of_ble_eq_true rfl) (fun _ q => ?_)
  obtain rfl := q.symm
  exact T_lreturn rfl rfl (am_okl rfl (((smP_setM (p := plc 17 26) (fun b => by unfold plc; omega) (fun b => by unfold plc; omega)).trans (hρ0.mono (fun a b => by unfold plc; omega))).trans (q1.mono (fun a b => by unfold pRl plc; omega))))
set_option maxRecDepth 100000 in
set_option maxHeartbeats 4000000 in
theorem sp_D_columnRelation_x0 {σ : am_G} {h w rh pn : Nat} {f v rl : am_Gr} {I : Nat → Int32} {k_ : Int32} {x : Int32} (hv : vS σ 26 h w f v rh rl pn I) (hb : ¬ (0 ≤ x ∧ x < nI w)) : am_Call am_TX 8 1 c_D_columnRelation [.ref 0, .int x, .int k_] (mm σ) (am_ThP "java/lang/IndexOutOfBoundsException" (fun σ1 => smP (plc 17 26) σ σ1)) := by
  have hh6 := hv.1.1.2
  have hw6 := hv.1.2.1.2
  have hr6 := hv.2.2.1.1.2
  have hp6 := hv.2.2.2.1.2
  refine ⟨mf_D_columnRelation, Nat.le_of_ble_eq_true rfl, ?_⟩
  refine R_aload_n rfl rfl ?_
  refine R_iload_n rfl rfl ?_
  refine R_cVxP (k := 0) (as := [.int x]) rfl rfl iv_D_requireColumn (sp_requireColumn_x hv hb) (by decide) rfl rfl rfl (by decide) rfl rfl (Nat.le_of_ble_eq_true rfl) (fun σ' hσ' => Rx_out rfl ⟨σ', rfl, by rw [hσ']; exact smP.refl⟩)
set_option maxRecDepth 100000 in
set_option maxHeartbeats 4000000 in
theorem sp_D_columnRelation_x1 {σ : am_G} {h w rh pn : Nat} {f v rl : am_Gr} {I : Nat → Int32} {r : Nat} {x : Int32} (hv : vS σ 26 h w f v rh rl pn I) (r_w : r < w) (hb : ¬ (0 ≤ x ∧ x < nI w)) : am_Call am_TX 8 1 c_D_columnRelation [.ref 0, .int (nI r), .int x] (mm σ) (am_ThP "java/lang/IndexOutOfBoundsException" (fun σ1 => smP (plc 17 26) σ σ1)) := by
  have hh6 := hv.1.1.2
  have hw6 := hv.1.2.1.2
  have hr6 := hv.2.2.1.1.2
  have hp6 := hv.2.2.2.1.2
  refine ⟨mf_D_columnRelation, Nat.le_of_ble_eq_true rfl, ?_⟩
  refine R_aload_n rfl rfl ?_
  refine R_iload_n rfl rfl ?_
  refine R_cV (as := [.int (nI r)]) rfl rfl iv_D_requireColumn (sp_requireColumn (r := r) hv (by omega)) (by decide) rfl rfl rfl (by decide) rfl rfl (Nat.le_of_ble_eq_true rfl) (fun _ q => ?_)
  obtain rfl := q.symm
  refine R_aload_n rfl rfl ?_
  refine R_iload_n rfl rfl ?_
  refine R_cVxP (k := 0) (as := [.int x]) rfl rfl iv_D_requireColumn (sp_requireColumn_x hv hb) (by decide) rfl rfl rfl (by decide) rfl rfl (Nat.le_of_ble_eq_true rfl) (fun σ' hσ' => Rx_out rfl ⟨σ', rfl, by rw [hσ']; exact smP.refl⟩)
set_option maxRecDepth 100000 in
set_option maxHeartbeats 4000000 in
theorem sp_D_columnRelation_n {σ : am_G} {h w rh pn : Nat} {f v rl : am_Gr} {I : Nat → Int32} {r : Nat} {k : Nat} (hv : vS σ 26 h w f v rh rl pn I) (r_w : r < w) (k_w : k < w) (hn : (prR (tuF f h w 0) 0 w h w).testBit r = true) : am_Call am_TX 8 1 c_D_columnRelation [.ref 0, .int (nI r), .int (nI k)] (mm σ) (am_ThP "java/util/NoSuchElementException" (fun σ1 => smP (plc 17 26) σ σ1)) := by
  have hh6 := hv.1.1.2
  have hw6 := hv.1.2.1.2
  have hr6 := hv.2.2.1.1.2
  have hp6 := hv.2.2.2.1.2
  refine ⟨mf_D_columnRelation, Nat.le_of_ble_eq_true rfl, ?_⟩
  refine R_aload_n rfl rfl ?_
  refine R_iload_n rfl rfl ?_
  refine R_cV (as := [.int (nI r)]) rfl rfl iv_D_requireColumn (sp_requireColumn (r := r) hv (by omega)) (by decide) rfl rfl rfl (by decide) rfl rfl (Nat.le_of_ble_eq_true rfl) (fun _ q => ?_)
  obtain rfl := q.symm
  refine R_aload_n rfl rfl ?_
  refine R_iload_n rfl rfl ?_
  refine R_cV (as := [.int (nI k)]) rfl rfl iv_D_requireColumn (sp_requireColumn (r := k) hv (by omega)) (by decide) rfl rfl rfl (by decide) rfl rfl (Nat.le_of_ble_eq_true rfl) (fun _ q => ?_)
  obtain rfl := q.symm
  refine R_aload_n rfl rfl ?_
  refine R_gP (x := 16) rfl rfl fp_10_4 rfl ?_
  refine R_aload_n rfl rfl ?_
  refine R_gP (x := 26) rfl rfl fp_10_6 rfl ?_
  refine R_gP (x := 27) rfl rfl fp_9_0 rfl ?_
  refine R_cV (as := [.ref 27]) rfl rfl iv_Reckoner_turned (sp_turned im27 (by omega) hv.1) (by decide) rfl rfl rfl (by decide) rfl rfl (Nat.le_of_ble_eq_true rfl) (fun _ q => ?_)
  obtain rfl := q.symm
  refine R_astore_n rfl (by decide) ?_
  refine R_aload_n rfl rfl ?_
  refine R_aload_n rfl rfl ?_
  refine R_iconst (v := 0) rfl rfl ?_
  refine R_iload_n rfl rfl ?_
  refine R_cVxP (k := 0) (as := [.ref 21, .int 0, .int (nI r)]) rfl rfl iv_D_requireOutsideProfile (sp_outside_x (m := 0) (r := r) im21 (by omega) (vM_setM (σ := σ) (k := 21) (h := w) (w := h) (f := tuF f h w 0) hw6 hh6) (by omega) (by omega) hn) (by decide) rfl rfl rfl (by decide) rfl rfl (Nat.le_of_ble_eq_true rfl) (fun σ' hσ' => Rx_out rfl ⟨σ', rfl, (smP_setM (p := plc 17 26) (fun b => by unfold plc; omega) (fun b => by unfold plc; omega)).trans (hσ'.mono (fun a b => by unfold plc; omega))⟩)
/-- the greatest amount of the first n numbers -/
def wtF (X : Nat → Int64) : Nat → Int64
  | 0 => 0
  | n + 1 => if wtF X n < absL (X n) then absL (X n) else wtF X n
set_option maxRecDepth 100000 in
set_option maxHeartbeats 4000000 in
theorem lp_wt {ρ : am_G} {h w r : Nat} {f : am_Gr} {d k0 : Nat} (q2 : vM ρ 17 1 h (rlG f 0 h w r)) (hd : 1 ≤ d)  : ∀ (uu i : Nat), i + uu = h → am_R am_TX d k0 c_D_weight 40 [some (.ref 0), none, some (.ref 17), some (.long (wtF (rlG f 0 h w r 0) i)), none, some (.int (nI i))] [] (mm ρ) (am_Ok (some (.long (wtF (rlG f 0 h w r 0) h))) (fun σ1 => σ1 = ρ)) := by
  have hh6 := q2.2.1.2
  intro uu
  induction uu with
  | zero =>
    intro i hi
    obtain rfl : h = i := by omega
    refine R_iload rfl rfl ?_
    refine R_aload_n rfl rfl ?_
    refine R_gIN (n := h) rfl im17.1 fd_4_1 q2.2.1.1 ?_
    refine R_nicmp_ge (x := h) (y := h) rfl rfl (by omega) (by omega) (fun h1 => ?_) (fun z => by omega)
    refine R_lload_n rfl rfl ?_
    exact T_lreturn rfl rfl (am_okl rfl rfl)
  | succ uu ih =>
    intro i hi
    refine R_iload rfl rfl ?_
    refine R_aload_n rfl rfl ?_
    refine R_gIN (n := h) rfl im17.1 fd_4_1 q2.2.1.1 ?_
    refine R_nicmp_ge (x := i) (y := h) rfl rfl (by omega) (by omega) (fun z => by omega) (fun h1 => ?_)
    refine R_lload_n rfl rfl ?_
    refine R_aload_n rfl rfl ?_
    refine R_iconst (v := 0) rfl rfl ?_
    refine R_iload rfl rfl ?_
    refine R_cV (as := [.int 0, .int (nI i)]) rfl rfl iv_Matrix_at ((by have z := sp_Matrix_at (σ := ρ) (k := 17) (i := 0) (j := i) im17 (by omega) (by omega); rw [q2.at (by omega) (by omega)] at z; exact z)) (by omega) rfl rfl im17.1 (by decide) rfl rfl (Nat.le_of_ble_eq_true rfl) (fun _ q => ?_)
    obtain rfl := q.symm
    refine R_cS (as := [.long (rlG f 0 h w r 0 i)]) rfl rfl iv_JMath_abs (sp_abs) (by omega) rfl rfl rfl rfl (Nat.le_of_ble_eq_true rfl) (fun _ q => ?_)
    obtain rfl := q.symm
    refine R_cS (as := [.long (wtF (rlG f 0 h w r 0) i), .long (absL (rlG f 0 h w r 0 i))]) rfl rfl iv_JMath_max (sp_max) (by omega) rfl rfl rfl rfl (Nat.le_of_ble_eq_true rfl) (fun _ q => ?_)
    obtain rfl := q.symm
    refine R_lstore_n rfl (by decide) ?_
    refine R_iincN (x := i) (m := 1) rfl rfl rfl (by decide) ?_
    refine R_goto rfl rfl ?_
    exact (ih (i + 1) (by omega)).weak ⟨rfl, rfl, rfl, rfl, trivial⟩
set_option maxRecDepth 100000 in
set_option maxHeartbeats 4000000 in
theorem sp_D_weight {σ : am_G} {h w rh pn : Nat} {f v rl : am_Gr} {I : Nat → Int32} {r : Nat} (hv : vS σ 26 h w f v rh rl pn I) (r_h : r < h) (hn : ¬ (prR f 0 h w h).testBit r = true) : am_Call am_TX 8 0 c_D_weight [.ref 0, .int (nI r)] (mm σ) (am_Ok (some (.long (wtF (rlG f 0 h w r 0) h))) (fun σ1 => smP (plc 17 26) σ σ1)) := by
  have hh6 := hv.1.1.2
  have hw6 := hv.1.2.1.2
  have hr6 := hv.2.2.1.1.2
  have hp6 := hv.2.2.2.1.2
  refine ⟨mf_D_weight, Nat.le_of_ble_eq_true rfl, ?_⟩
  refine R_aload_n rfl rfl ?_
  refine R_iload_n rfl rfl ?_
  refine R_cV (as := [.int (nI r)]) rfl rfl iv_D_requireRow (sp_requireRow (r := r) hv (by omega)) (by decide) rfl rfl rfl (by decide) rfl rfl (Nat.le_of_ble_eq_true rfl) (fun _ q => ?_)
  obtain rfl := q.symm
  refine R_aload_n rfl rfl ?_
  refine R_aload_n rfl rfl ?_
  refine R_gP (x := 26) rfl rfl fp_10_6 rfl ?_
  refine R_gP (x := 27) rfl rfl fp_9_0 rfl ?_
  refine R_iconst (v := 0) rfl rfl ?_
  refine R_iload_n rfl rfl ?_
  refine R_cV (as := [.ref 27, .int 0, .int (nI r)]) rfl rfl iv_D_requireOutsideProfile (sp_outside (m := 0) (r := r) im27 (by omega) hv.1 (by omega) (by omega) hn) (by decide) rfl rfl rfl (by decide) rfl rfl (Nat.le_of_ble_eq_true rfl) (fun σ2 hσ2 => ?_)
  refine R_aload_n rfl rfl ?_
  refine R_gP (x := 16) rfl rfl fp_10_4 rfl ?_
  refine R_aload_n rfl rfl ?_
  refine R_gP (x := 26) rfl rfl fp_10_6 rfl ?_
  refine R_gP (x := 27) rfl rfl fp_9_0 rfl ?_
  refine R_iconst (v := 0) rfl rfl ?_
  refine R_iload_n rfl rfl ?_
  refine R_cV (as := [.ref 27, .int 0, .int (nI r)]) rfl rfl iv_Reckoner_relationOfRow (sp_relationOfRow (m := 0) (r := r) im27 (by omega) ((hσ2.mono (q := plc 17 26) (fun a b => by unfold plc; omega)).vM hv.1 (fun b => by unfold plc; omega) (fun b => by unfold plc; omega)) (by omega) (by omega)) (by decide) rfl rfl rfl (by decide) rfl rfl (Nat.le_of_ble_eq_true rfl) (fun ρ1 hρ1 => ?_)
  obtain ⟨q1, q2⟩ := hρ1
  refine R_astore_n rfl (by decide) ?_
  refine R_lconst (v := 0) rfl rfl ?_
  refine R_lstore_n rfl (by decide) ?_
  refine R_iconst (v := 0) rfl rfl ?_
  refine R_istore rfl (by decide) ?_
  exact ((lp_wt q2 (by omega) h 0 (by omega)).mono (am_Ok.mono (fun τ e => by rw [e]; exact ((hσ2.mono (q := plc 17 26) (fun a b => by unfold plc; omega)).trans (q1.mono (q := plc 17 26) (fun a b => by unfold pRl plc; omega)))))).weak ⟨rfl, rfl, rfl, rfl, trivial⟩
set_option maxRecDepth 100000 in
set_option maxHeartbeats 4000000 in
theorem sp_D_weight_x0 {σ : am_G} {h w rh pn : Nat} {f v rl : am_Gr} {I : Nat → Int32} {x : Int32} (hv : vS σ 26 h w f v rh rl pn I) (hb : ¬ (0 ≤ x ∧ x < nI h)) : am_Call am_TX 8 1 c_D_weight [.ref 0, .int x] (mm σ) (am_ThP "java/lang/IndexOutOfBoundsException" (fun σ1 => smP (plc 17 26) σ σ1)) := by
  have hh6 := hv.1.1.2
  have hw6 := hv.1.2.1.2
  have hr6 := hv.2.2.1.1.2
  have hp6 := hv.2.2.2.1.2
  refine ⟨mf_D_weight, Nat.le_of_ble_eq_true rfl, ?_⟩
  refine R_aload_n rfl rfl ?_
  refine R_iload_n rfl rfl ?_
  refine R_cVxP (k := 0) (as := [.int x]) rfl rfl iv_D_requireRow (sp_requireRow_x hv hb) (by decide) rfl rfl rfl (by decide) rfl rfl (Nat.le_of_ble_eq_true rfl) (fun σ' hσ' => Rx_out rfl ⟨σ', rfl, by rw [hσ']; exact smP.refl⟩)
set_option maxRecDepth 100000 in
set_option maxHeartbeats 4000000 in
theorem sp_D_weight_n {σ : am_G} {h w rh pn : Nat} {f v rl : am_Gr} {I : Nat → Int32} {r : Nat} (hv : vS σ 26 h w f v rh rl pn I) (r_h : r < h) (hn : (prR f 0 h w h).testBit r = true) : am_Call am_TX 8 1 c_D_weight [.ref 0, .int (nI r)] (mm σ) (am_ThP "java/util/NoSuchElementException" (fun σ1 => smP (plc 17 26) σ σ1)) := by
  have hh6 := hv.1.1.2
  have hw6 := hv.1.2.1.2
  have hr6 := hv.2.2.1.1.2
  have hp6 := hv.2.2.2.1.2
  refine ⟨mf_D_weight, Nat.le_of_ble_eq_true rfl, ?_⟩
  refine R_aload_n rfl rfl ?_
  refine R_iload_n rfl rfl ?_
  refine R_cV (as := [.int (nI r)]) rfl rfl iv_D_requireRow (sp_requireRow (r := r) hv (by omega)) (by decide) rfl rfl rfl (by decide) rfl rfl (Nat.le_of_ble_eq_true rfl) (fun _ q => ?_)
  obtain rfl := q.symm
  refine R_aload_n rfl rfl ?_
  refine R_aload_n rfl rfl ?_
  refine R_gP (x := 26) rfl rfl fp_10_6 rfl ?_
  refine R_gP (x := 27) rfl rfl fp_9_0 rfl ?_
  refine R_iconst (v := 0) rfl rfl ?_
  refine R_iload_n rfl rfl ?_
  refine R_cVxP (k := 0) (as := [.ref 27, .int 0, .int (nI r)]) rfl rfl iv_D_requireOutsideProfile (sp_outside_x (m := 0) (r := r) im27 (by omega) hv.1 (by omega) (by omega) hn) (by decide) rfl rfl rfl (by decide) rfl rfl (Nat.le_of_ble_eq_true rfl) (fun σ' hσ' => Rx_out rfl ⟨σ', rfl, (hσ'.mono (fun a b => by unfold plc; omega))⟩)
def sdf (a b : Nat) : Nat := a &&& (63 ^^^ b)
theorem sdf_raw : ∀ a : Nat, a < 64 → ∀ b : Nat, b < 64 → nI a &&& (nI b ^^^ (-1)) = nI (sdf a b) := by decide +kernel
set_option maxRecDepth 100000 in
set_option maxHeartbeats 4000000 in
theorem sp_D_extensions {σ : am_G} {h w rh pn : Nat} {f v rl : am_Gr} {I : Nat → Int32} {m : Nat} {S : Nat} (hv : vS σ 26 h w f v rh rl pn I) (hmd : m ∈ mdL) (hS : S < 2 ^ h) (hfree : frB f m h w S = true) : am_Call am_TX 8 0 c_D_extensions [.ref 0, .int (nI m), .int (nI S)] (mm σ) (am_Ok (some (.int (nI (sdf (2 ^ h - 1) (spN f m h w S h))))) (fun σ1 => smP (plc 17 26) σ σ1)) := by
  have hh6 := hv.1.1.2
  have hw6 := hv.1.2.1.2
  have hr6 := hv.2.2.1.1.2
  have hp6 := hv.2.2.2.1.2
  have hm97 := md_97 hmd
  have hS6 := p2_64 hS hh6
  refine ⟨mf_D_extensions, Nat.le_of_ble_eq_true rfl, ?_⟩
  refine R_aload_n rfl rfl ?_
  refine R_iload_n rfl rfl ?_
  refine R_cV (as := [.int (nI m)]) rfl rfl iv_D_requireModulus (sp_requireModulus (m := m) hmd) (by decide) rfl rfl rfl (by decide) rfl rfl (Nat.le_of_ble_eq_true rfl) (fun _ q => ?_)
  obtain rfl := q.symm
  refine R_aload_n rfl rfl ?_
  refine R_iload_n rfl rfl ?_
  refine R_cV (as := [.int (nI S)]) rfl rfl iv_D_requireRowSet (sp_requireRowSet hv (msk_ok hv.1.1.2 hS)) (by decide) rfl rfl rfl (by decide) rfl rfl (Nat.le_of_ble_eq_true rfl) (fun _ q => ?_)
  obtain rfl := q.symm
  refine R_aload_n rfl rfl ?_
  refine R_gP (x := 24) rfl rfl fp_10_5 rfl ?_
  refine R_aload_n rfl rfl ?_
  refine R_gP (x := 26) rfl rfl fp_10_6 rfl ?_
  refine R_gP (x := 27) rfl rfl fp_9_0 rfl ?_
  refine R_iload_n rfl rfl ?_
  refine R_iload_n rfl rfl ?_
  refine R_cV (as := [.ref 27, .int (nI m), .int (nI S)]) rfl rfl iv_RowSets_isFree (sp_isFree (m := m) (S := S) im27 (by omega) hv.1 (by omega) (by first | assumption | exact lw_lt (by omega) | exact wi_lt (by first | assumption | omega) (by omega) | exact wo_lt (by first | assumption | omega) (by omega) | omega)) (by decide) rfl rfl rfl (by decide) rfl rfl (Nat.le_of_ble_eq_true rfl) (fun σ3 hσ3 => ?_)
  refine R_if_ne rfl rfl (fun h1 => ?_) (fun z => absurd hfree (zP_0 z))
  refine R_aload_n rfl rfl ?_
  refine R_gP (x := 26) rfl rfl fp_10_6 rfl ?_
  refine R_gP (x := 27) rfl rfl fp_9_0 rfl ?_
  refine R_cV (as := []) rfl rfl iv_Matrix_allRows (sp_Matrix_allRows im27 ((hσ3.mono (q := plc 17 26) (fun a b => by unfold plc; omega)).vM hv.1 (fun b => by unfold plc; omega) (fun b => by unfold plc; omega)).1.1 ((hσ3.mono (q := plc 17 26) (fun a b => by unfold plc; omega)).vM hv.1 (fun b => by unfold plc; omega) (fun b => by unfold plc; omega)).1.2) (by decide) rfl rfl rfl (by decide) rfl rfl (Nat.le_of_ble_eq_true rfl) (fun _ q => ?_)
  obtain rfl := q.symm
  refine R_aload_n rfl rfl ?_
  refine R_gP (x := 24) rfl rfl fp_10_5 rfl ?_
  refine R_aload_n rfl rfl ?_
  refine R_gP (x := 26) rfl rfl fp_10_6 rfl ?_
  refine R_gP (x := 27) rfl rfl fp_9_0 rfl ?_
  refine R_iload_n rfl rfl ?_
  refine R_iload_n rfl rfl ?_
  refine R_cV (as := [.ref 27, .int (nI m), .int (nI S)]) rfl rfl iv_RowSets_span (sp_span (m := m) (S := S) im27 (by omega) ((hσ3.mono (q := plc 17 26) (fun a b => by unfold plc; omega)).vM hv.1 (fun b => by unfold plc; omega) (fun b => by unfold plc; omega)) (by omega) (by first | assumption | exact lw_lt (by omega) | exact wi_lt (by first | assumption | omega) (by omega) | exact wo_lt (by first | assumption | omega) (by omega) | omega)) (by decide) rfl rfl rfl (by decide) rfl rfl (Nat.le_of_ble_eq_true rfl) (fun σ6 hσ6 => ?_)
  refine R_iconst (v := -1) rfl rfl ?_
  refine R_ixor rfl ?_
  refine R_iand rfl ?_
  rw [sdf_raw _ (lw_lt hh6) _ (spN_lt h hh6)]
  exact T_ireturn rfl rfl (am_oki rfl ((hσ3.mono (q := plc 17 26) (fun a b => by unfold plc; omega)).trans (hσ6.mono (q := plc 17 26) (fun a b => by unfold plc; omega))))
set_option maxRecDepth 100000 in
set_option maxHeartbeats 4000000 in
theorem sp_D_extensions_x0 {σ : am_G} {h w rh pn : Nat} {f v rl : am_Gr} {I : Nat → Int32} {S_ : Int32} {x : Int32} (hv : vS σ 26 h w f v rh rl pn I) (hb : ∀ n, n ∈ mdL → x ≠ nI n) : am_Call am_TX 8 1 c_D_extensions [.ref 0, .int x, .int S_] (mm σ) (am_ThP "java/lang/IllegalArgumentException" (fun σ1 => smP (plc 17 26) σ σ1)) := by
  have hh6 := hv.1.1.2
  have hw6 := hv.1.2.1.2
  have hr6 := hv.2.2.1.1.2
  have hp6 := hv.2.2.2.1.2
  refine ⟨mf_D_extensions, Nat.le_of_ble_eq_true rfl, ?_⟩
  refine R_aload_n rfl rfl ?_
  refine R_iload_n rfl rfl ?_
  refine R_cVxP (k := 0) (as := [.int x]) rfl rfl iv_D_requireModulus (sp_requireModulus_x hb) (by decide) rfl rfl rfl (by decide) rfl rfl (Nat.le_of_ble_eq_true rfl) (fun σ' hσ' => Rx_out rfl ⟨σ', rfl, by rw [hσ']; exact smP.refl⟩)
set_option maxRecDepth 100000 in
set_option maxHeartbeats 4000000 in
theorem sp_D_extensions_x1 {σ : am_G} {h w rh pn : Nat} {f v rl : am_Gr} {I : Nat → Int32} {m : Nat} {x : Int32} (hv : vS σ 26 h w f v rh rl pn I) (hmd : m ∈ mdL) (hb : ¬ x &&& (nI (2 ^ h - 1) ^^^ (-1)) = 0) : am_Call am_TX 8 1 c_D_extensions [.ref 0, .int (nI m), .int x] (mm σ) (am_ThP "java/lang/IllegalArgumentException" (fun σ1 => smP (plc 17 26) σ σ1)) := by
  have hh6 := hv.1.1.2
  have hw6 := hv.1.2.1.2
  have hr6 := hv.2.2.1.1.2
  have hp6 := hv.2.2.2.1.2
  have hm97 := md_97 hmd
  refine ⟨mf_D_extensions, Nat.le_of_ble_eq_true rfl, ?_⟩
  refine R_aload_n rfl rfl ?_
  refine R_iload_n rfl rfl ?_
  refine R_cV (as := [.int (nI m)]) rfl rfl iv_D_requireModulus (sp_requireModulus (m := m) hmd) (by decide) rfl rfl rfl (by decide) rfl rfl (Nat.le_of_ble_eq_true rfl) (fun _ q => ?_)
  obtain rfl := q.symm
  refine R_aload_n rfl rfl ?_
  refine R_iload_n rfl rfl ?_
  refine R_cVxP (k := 0) (as := [.int x]) rfl rfl iv_D_requireRowSet (sp_requireRowSet_x hv hb) (by decide) rfl rfl rfl (by decide) rfl rfl (Nat.le_of_ble_eq_true rfl) (fun σ' hσ' => Rx_out rfl ⟨σ', rfl, by rw [hσ']; exact smP.refl⟩)
set_option maxRecDepth 100000 in
set_option maxHeartbeats 4000000 in
theorem sp_D_extensions_f {σ : am_G} {h w rh pn : Nat} {f v rl : am_Gr} {I : Nat → Int32} {m : Nat} {S : Nat} (hv : vS σ 26 h w f v rh rl pn I) (hmd : m ∈ mdL) (hS : S < 2 ^ h) (hfree : ¬ frB f m h w S = true) : am_Call am_TX 8 1 c_D_extensions [.ref 0, .int (nI m), .int (nI S)] (mm σ) (am_ThP "java/lang/IllegalArgumentException" (fun σ1 => smP (plc 17 26) σ σ1)) := by
  have hh6 := hv.1.1.2
  have hw6 := hv.1.2.1.2
  have hr6 := hv.2.2.1.1.2
  have hp6 := hv.2.2.2.1.2
  have hm97 := md_97 hmd
  have hS6 := p2_64 hS hh6
  refine ⟨mf_D_extensions, Nat.le_of_ble_eq_true rfl, ?_⟩
  refine R_aload_n rfl rfl ?_
  refine R_iload_n rfl rfl ?_
  refine R_cV (as := [.int (nI m)]) rfl rfl iv_D_requireModulus (sp_requireModulus (m := m) hmd) (by decide) rfl rfl rfl (by decide) rfl rfl (Nat.le_of_ble_eq_true rfl) (fun _ q => ?_)
  obtain rfl := q.symm
  refine R_aload_n rfl rfl ?_
  refine R_iload_n rfl rfl ?_
  refine R_cV (as := [.int (nI S)]) rfl rfl iv_D_requireRowSet (sp_requireRowSet hv (msk_ok hv.1.1.2 hS)) (by decide) rfl rfl rfl (by decide) rfl rfl (Nat.le_of_ble_eq_true rfl) (fun _ q => ?_)
  obtain rfl := q.symm
  refine R_aload_n rfl rfl ?_
  refine R_gP (x := 24) rfl rfl fp_10_5 rfl ?_
  refine R_aload_n rfl rfl ?_
  refine R_gP (x := 26) rfl rfl fp_10_6 rfl ?_
  refine R_gP (x := 27) rfl rfl fp_9_0 rfl ?_
  refine R_iload_n rfl rfl ?_
  refine R_iload_n rfl rfl ?_
  refine R_cV (as := [.ref 27, .int (nI m), .int (nI S)]) rfl rfl iv_RowSets_isFree (sp_isFree (m := m) (S := S) im27 (by omega) hv.1 (by omega) (by first | assumption | exact lw_lt (by omega) | exact wi_lt (by first | assumption | omega) (by omega) | exact wo_lt (by first | assumption | omega) (by omega) | omega)) (by decide) rfl rfl rfl (by decide) rfl rfl (Nat.le_of_ble_eq_true rfl) (fun σ3 hσ3 => ?_)
  refine R_if_ne rfl rfl (fun z => absurd (zP_ne z) hfree) (fun h1 => ?_)
  exact R_throwW (text := "the rows are not independent") (i := 1) rfl rfl rfl rfl rfl (List.mem_of_getElem? (i := 1) rfl) am_tw1 rfl rfl (Nat.le_refl 1) ⟨_, rfl, (hσ3.mono (q := plc 17 26) (fun a b => by unfold plc; omega))⟩
/-- the product of the first n primes -/
def gmF (P : Nat → Nat) : Nat → Int64
  | 0 => 1
  | i + 1 => gmF P i * (nI (P i)).toInt64
theorem gmF_t {P : Nat → Nat} : ∀ n, n ≤ 6 → (∀ i, i < n → P i ∈ prL) → 1 ≤ (gmF P n).toInt ∧ (gmF P n).toInt ≤ 97 ^ n
  | 0, _, _ => ⟨by show (1 : Int) ≤ (1 : Int64).toInt; rw [l1]; omega, by show (1 : Int64).toInt ≤ 1; rw [l1]; omega⟩
  | n + 1, hn, h => by
    obtain ⟨a, b⟩ := gmF_t n (by omega) (fun i hi => h i (by omega))
    have hp := prL_le _ (h n (by omega))
    have k97 : ∀ n : Nat, n < 6 → (97 : Int) ^ n ≤ 97 ^ 5 := by decide
    have h97 := k97 n (by omega)
    have e0 := nI_64 (n := P n) (by omega)
    have hm1 : 1 * 1 ≤ (gmF P n).toInt * (P n : Int) := Int.mul_le_mul a (by omega) (by omega) (by omega)
    have hm2 : (gmF P n).toInt * (P n : Int) ≤ 97 ^ n * 97 := Int.mul_le_mul b (by omega) (by omega) (Int.le_trans (by omega) (Int.le_trans a b))
    have e : (gmF P (n + 1)).toInt = (gmF P n).toInt * (P n : Int) := by
      show (gmF P n * (nI (P n)).toInt64).toInt = _
      rw [Int64.toInt_mul, e0]
      generalize (gmF P n).toInt * (P n : Int) = z at *
      exact Int.bmod_eq_of_le (by omega) (by omega)
    rw [e, Int.pow_succ]
    exact ⟨by omega, hm2⟩
def gsF (v M : Int64) : Int64 := if M < 2 * fmL v M then fmL v M - M else fmL v M
set_option maxRecDepth 100000 in
set_option maxHeartbeats 4000000 in
theorem lp_gsd {σ : am_G} {h w rh pn : Nat} {f v rl : am_Gr} {I : Nat → Int32} {n S T : Nat} {P : Nat → Nat} {d k0 : Nat} {Q : am_Res → Prop} (hv : vS σ 26 h w f v rh rl pn I) (hP : prP pn I P) (hn : n ≤ pn) (hd : 1 ≤ d) (hx : am_R am_TX d k0 c_D_guessed 52 [some (.ref 0), some (.int (nI S)), some (.int (nI T)), some (.int (nI n)), some (.long (gmF P n)), none, some (.int (nI n)), none] [] (mm σ) Q) : ∀ (uu i : Nat), i + uu = n → am_R am_TX d k0 c_D_guessed 25 [some (.ref 0), some (.int (nI S)), some (.int (nI T)), some (.int (nI n)), some (.long (gmF P i)), none, some (.int (nI i)), none] [] (mm σ) Q := by
  have hh6 := hv.1.1.2
  have hw6 := hv.1.2.1.2
  have hr6 := hv.2.2.1.1.2
  have hp6 := hv.2.2.2.1.2
  intro uu
  induction uu with
  | zero =>
    intro i hi
    obtain rfl : n = i := by omega
    refine R_iload rfl rfl ?_
    refine R_iload_n rfl rfl ?_
    refine R_nicmp_ge (x := n) (y := n) rfl rfl (by omega) (by omega) (fun h1 => ?_) (fun z => by omega)
    exact hx
  | succ uu ih =>
    intro i hi
    refine R_iload rfl rfl ?_
    refine R_iload_n rfl rfl ?_
    refine R_nicmp_ge (x := i) (y := n) rfl rfl (by omega) (by omega) (fun z => by omega) (fun h1 => ?_)
    refine R_lload rfl rfl ?_
    refine R_aload_n rfl rfl ?_
    refine R_gP (x := 26) rfl rfl fp_10_6 rfl ?_
    refine R_iload rfl rfl ?_
    refine R_cV (as := [.int (nI i)]) rfl rfl iv_State_primeAt ((by have z := sp_primeAtV (p := i) hv (by omega); rw [(hP i (by omega)).1] at z; exact z)) (by omega) rfl rfl rfl (by decide) rfl rfl (Nat.le_of_ble_eq_true rfl) (fun _ q => ?_)
    obtain rfl := q.symm
    refine R_i2l rfl ?_
    refine R_lmul rfl ?_
    refine R_lstore rfl (by decide) ?_
    refine R_iincN (x := i) (m := 1) rfl rfl rfl (by decide) ?_
    refine R_goto rfl rfl ?_
    exact (ih (i + 1) (by omega)).weak ⟨rfl, rfl, rfl, rfl, rfl, rfl, trivial⟩
set_option maxRecDepth 100000 in
set_option maxHeartbeats 4000000 in
theorem sp_D_guessed {σ : am_G} {h w rh pn : Nat} {f v rl : am_Gr} {I : Nat → Int32} {P : Nat → Nat} {n : Nat} {S T : Nat} (hv : vS σ 26 h w f v rh rl pn I) (n_k : n ≤ pn) (hS : S < 2 ^ h) (hT : T < 2 ^ w) (hc : pc S = pc T) (hP : prP pn I P) : am_Call am_TX 8 0 c_D_guessed [.ref 0, .int (nI S), .int (nI T), .int (nI n)] (mm σ) (am_Ok (some (.long (gsF (mnF f S w T) (gmF P n)))) (fun σ1 => smP (plc 17 26) σ σ1)) := by
  have hh6 := hv.1.1.2
  have hw6 := hv.1.2.1.2
  have hr6 := hv.2.2.1.1.2
  have hp6 := hv.2.2.2.1.2
  have hrg : (0 : Int32) ≤ nI n ∧ nI n ≤ nI pn := rg_n (k := pn) (by omega) (by omega)
  have hS6 := p2_64 hS hh6
  have hT6 := p2_64 hT hw6
  refine ⟨mf_D_guessed, Nat.le_of_ble_eq_true rfl, ?_⟩
  refine R_aload_n rfl rfl ?_
  refine R_iload_n rfl rfl ?_
  refine R_iconst (v := 0) rfl rfl ?_
  refine R_aload_n rfl rfl ?_
  refine R_gP (x := 26) rfl rfl fp_10_6 rfl ?_
  refine R_gIN (n := pn) rfl rfl fd_9_3 hv.2.2.2.1.1 ?_
  refine R_cV (as := [.int (nI n), .int 0, .int (nI pn)]) rfl rfl iv_D_requireRange (sp_requireRange hrg) (by decide) rfl rfl rfl (by decide) rfl rfl (Nat.le_of_ble_eq_true rfl) (fun _ q => ?_)
  obtain rfl := q.symm
  refine R_aload_n rfl rfl ?_
  refine R_iload_n rfl rfl ?_
  refine R_iload_n rfl rfl ?_
  refine R_cV (as := [.int (nI S), .int (nI T)]) rfl rfl iv_D_requireSquare (sp_requireSquare hv hS hT hc) (by decide) rfl rfl rfl (by decide) rfl rfl (Nat.le_of_ble_eq_true rfl) (fun _ q => ?_)
  obtain rfl := q.symm
  refine R_lconst (v := 1) rfl rfl ?_
  refine R_lstore rfl (by decide) ?_
  refine R_iconst (v := 0) rfl rfl ?_
  refine R_istore rfl (by decide) ?_
  refine (lp_gsd hv hP n_k (by omega) ?_ n 0 (by omega)).weak ⟨rfl, rfl, rfl, rfl, rfl, rfl, trivial⟩
  refine R_aload_n rfl rfl ?_
  refine R_gP (x := 16) rfl rfl fp_10_4 rfl ?_
  refine R_aload_n rfl rfl ?_
  refine R_gP (x := 26) rfl rfl fp_10_6 rfl ?_
  refine R_gP (x := 27) rfl rfl fp_9_0 rfl ?_
  refine R_iload_n rfl rfl ?_
  refine R_iload_n rfl rfl ?_
  refine R_cV (as := [.ref 27, .int (nI S), .int (nI T)]) rfl rfl iv_Reckoner_minorOf (sp_minorOf (S := S) (s := T) im27 (by omega) hv.1 (by first | assumption | exact lw_lt (by omega) | exact wi_lt (by first | assumption | omega) (by omega) | exact wo_lt (by first | assumption | omega) (by omega) | omega) (by first | assumption | exact lw_lt (by omega) | exact wi_lt (by first | assumption | omega) (by omega) | exact wo_lt (by first | assumption | omega) (by omega) | omega)) (by decide) rfl rfl rfl (by decide) rfl rfl (Nat.le_of_ble_eq_true rfl) (fun σ3 hσ3 => ?_)
  refine R_lload rfl rfl ?_
  refine R_cS (as := [.long (mnF f S w T), .long (gmF P n)]) rfl rfl iv_D_remainder ((by have z := sp_remainder (σ := σ3) (v := (mnF f S w T)) (y := gmF P n); rw [if_neg (show ¬ gmF P n ≤ 0 by rw [l_le, l0]; have := (gmF_t n (by omega) (fun i hi => (hP i (by omega)).2)).1; omega)] at z; exact z)) (by decide) rfl rfl rfl rfl (Nat.le_of_ble_eq_true rfl) (fun _ q => ?_)
  obtain rfl := q.symm
  refine R_lstore rfl (by decide) ?_
  refine R_ldc2 (v := 2) rfl (by decide) ?_
  refine R_lload rfl rfl ?_
  refine R_lmul rfl ?_
  refine R_lload rfl rfl ?_
  refine R_l_le rfl rfl rfl (fun h1 => ?_) (fun h1 => ?_)
  · refine R_lload rfl rfl ?_
    exact T_lreturn rfl rfl (am_okl (by unfold gsF; first | exact (if_pos h1).symm | exact (if_neg h1).symm | exact (if_neg (l_nlt h1)).symm | exact (if_pos (l_nle h1)).symm) (hσ3.mono (q := plc 17 26) (fun a b => by unfold plc; omega)))
  · refine R_lload rfl rfl ?_
    refine R_lload rfl rfl ?_
    refine R_lsub rfl ?_
    refine R_goto rfl rfl ?_
    exact T_lreturn rfl rfl (am_okl (by unfold gsF; first | exact (if_pos h1).symm | exact (if_neg h1).symm | exact (if_neg (l_nlt h1)).symm | exact (if_pos (l_nle h1)).symm) (hσ3.mono (q := plc 17 26) (fun a b => by unfold plc; omega)))
set_option maxRecDepth 100000 in
set_option maxHeartbeats 4000000 in
theorem sp_D_guessed_x0 {σ : am_G} {h w rh pn : Nat} {f v rl : am_Gr} {I : Nat → Int32} {S_ : Int32} {T_ : Int32} {x : Int32} (hv : vS σ 26 h w f v rh rl pn I) (hb : ¬ (0 ≤ x ∧ x ≤ nI pn)) : am_Call am_TX 8 1 c_D_guessed [.ref 0, .int S_, .int T_, .int x] (mm σ) (am_ThP "java/lang/IllegalArgumentException" (fun σ1 => smP (plc 17 26) σ σ1)) := by
  have hh6 := hv.1.1.2
  have hw6 := hv.1.2.1.2
  have hr6 := hv.2.2.1.1.2
  have hp6 := hv.2.2.2.1.2
  refine ⟨mf_D_guessed, Nat.le_of_ble_eq_true rfl, ?_⟩
  refine R_aload_n rfl rfl ?_
  refine R_iload_n rfl rfl ?_
  refine R_iconst (v := 0) rfl rfl ?_
  refine R_aload_n rfl rfl ?_
  refine R_gP (x := 26) rfl rfl fp_10_6 rfl ?_
  refine R_gIN (n := pn) rfl rfl fd_9_3 hv.2.2.2.1.1 ?_
  refine R_cVxP (k := 0) (as := [.int x, .int 0, .int (nI pn)]) rfl rfl iv_D_requireRange (sp_requireRange_x hb) (by decide) rfl rfl rfl (by decide) rfl rfl (Nat.le_of_ble_eq_true rfl) (fun σ' hσ' => Rx_out rfl ⟨σ', rfl, by rw [hσ']; exact smP.refl⟩)
set_option maxRecDepth 100000 in
set_option maxHeartbeats 4000000 in
theorem sp_D_guessed_x1x {σ : am_G} {h w rh pn : Nat} {f v rl : am_Gr} {I : Nat → Int32} {n : Nat} {T_ : Int32} {x : Int32} (hv : vS σ 26 h w f v rh rl pn I) (n_k : n ≤ pn) (hb : ¬ x &&& (nI (2 ^ h - 1) ^^^ (-1)) = 0) : am_Call am_TX 8 1 c_D_guessed [.ref 0, .int x, .int T_, .int (nI n)] (mm σ) (am_ThP "java/lang/IllegalArgumentException" (fun σ1 => smP (plc 17 26) σ σ1)) := by
  have hh6 := hv.1.1.2
  have hw6 := hv.1.2.1.2
  have hr6 := hv.2.2.1.1.2
  have hp6 := hv.2.2.2.1.2
  have hrg : (0 : Int32) ≤ nI n ∧ nI n ≤ nI pn := rg_n (k := pn) (by omega) (by omega)
  refine ⟨mf_D_guessed, Nat.le_of_ble_eq_true rfl, ?_⟩
  refine R_aload_n rfl rfl ?_
  refine R_iload_n rfl rfl ?_
  refine R_iconst (v := 0) rfl rfl ?_
  refine R_aload_n rfl rfl ?_
  refine R_gP (x := 26) rfl rfl fp_10_6 rfl ?_
  refine R_gIN (n := pn) rfl rfl fd_9_3 hv.2.2.2.1.1 ?_
  refine R_cV (as := [.int (nI n), .int 0, .int (nI pn)]) rfl rfl iv_D_requireRange (sp_requireRange hrg) (by decide) rfl rfl rfl (by decide) rfl rfl (Nat.le_of_ble_eq_true rfl) (fun _ q => ?_)
  obtain rfl := q.symm
  refine R_aload_n rfl rfl ?_
  refine R_iload_n rfl rfl ?_
  refine R_iload_n rfl rfl ?_
  refine R_cVxP (k := 0) (as := [.int x, .int T_]) rfl rfl iv_D_requireSquare (sp_requireSquare_x hv hb) (by decide) rfl rfl rfl (by decide) rfl rfl (Nat.le_of_ble_eq_true rfl) (fun σ' hσ' => Rx_out rfl ⟨σ', rfl, by rw [hσ']; exact smP.refl⟩)
set_option maxRecDepth 100000 in
set_option maxHeartbeats 4000000 in
theorem sp_D_guessed_x1y {σ : am_G} {h w rh pn : Nat} {f v rl : am_Gr} {I : Nat → Int32} {n : Nat} {S : Int32} {x : Int32} (hv : vS σ 26 h w f v rh rl pn I) (n_k : n ≤ pn) (hs : S &&& (nI (2 ^ h - 1) ^^^ (-1)) = 0) (hb : ¬ x &&& (nI (2 ^ w - 1) ^^^ (-1)) = 0) : am_Call am_TX 8 1 c_D_guessed [.ref 0, .int S, .int x, .int (nI n)] (mm σ) (am_ThP "java/lang/IllegalArgumentException" (fun σ1 => smP (plc 17 26) σ σ1)) := by
  have hh6 := hv.1.1.2
  have hw6 := hv.1.2.1.2
  have hr6 := hv.2.2.1.1.2
  have hp6 := hv.2.2.2.1.2
  have hrg : (0 : Int32) ≤ nI n ∧ nI n ≤ nI pn := rg_n (k := pn) (by omega) (by omega)
  refine ⟨mf_D_guessed, Nat.le_of_ble_eq_true rfl, ?_⟩
  refine R_aload_n rfl rfl ?_
  refine R_iload_n rfl rfl ?_
  refine R_iconst (v := 0) rfl rfl ?_
  refine R_aload_n rfl rfl ?_
  refine R_gP (x := 26) rfl rfl fp_10_6 rfl ?_
  refine R_gIN (n := pn) rfl rfl fd_9_3 hv.2.2.2.1.1 ?_
  refine R_cV (as := [.int (nI n), .int 0, .int (nI pn)]) rfl rfl iv_D_requireRange (sp_requireRange hrg) (by decide) rfl rfl rfl (by decide) rfl rfl (Nat.le_of_ble_eq_true rfl) (fun _ q => ?_)
  obtain rfl := q.symm
  refine R_aload_n rfl rfl ?_
  refine R_iload_n rfl rfl ?_
  refine R_iload_n rfl rfl ?_
  refine R_cVxP (k := 0) (as := [.int S, .int x]) rfl rfl iv_D_requireSquare (sp_requireSquare_y hv hs hb) (by decide) rfl rfl rfl (by decide) rfl rfl (Nat.le_of_ble_eq_true rfl) (fun σ' hσ' => Rx_out rfl ⟨σ', rfl, by rw [hσ']; exact smP.refl⟩)
set_option maxRecDepth 100000 in
set_option maxHeartbeats 4000000 in
theorem sp_D_guessed_x1z {σ : am_G} {h w rh pn : Nat} {f v rl : am_Gr} {I : Nat → Int32} {n : Nat} {S T : Nat} (hv : vS σ 26 h w f v rh rl pn I) (n_k : n ≤ pn) (hS : S < 2 ^ h) (hT : T < 2 ^ w) (hc : ¬ pc S = pc T) : am_Call am_TX 8 1 c_D_guessed [.ref 0, .int (nI S), .int (nI T), .int (nI n)] (mm σ) (am_ThP "java/lang/IllegalArgumentException" (fun σ1 => smP (plc 17 26) σ σ1)) := by
  have hh6 := hv.1.1.2
  have hw6 := hv.1.2.1.2
  have hr6 := hv.2.2.1.1.2
  have hp6 := hv.2.2.2.1.2
  have hrg : (0 : Int32) ≤ nI n ∧ nI n ≤ nI pn := rg_n (k := pn) (by omega) (by omega)
  refine ⟨mf_D_guessed, Nat.le_of_ble_eq_true rfl, ?_⟩
  refine R_aload_n rfl rfl ?_
  refine R_iload_n rfl rfl ?_
  refine R_iconst (v := 0) rfl rfl ?_
  refine R_aload_n rfl rfl ?_
  refine R_gP (x := 26) rfl rfl fp_10_6 rfl ?_
  refine R_gIN (n := pn) rfl rfl fd_9_3 hv.2.2.2.1.1 ?_
  refine R_cV (as := [.int (nI n), .int 0, .int (nI pn)]) rfl rfl iv_D_requireRange (sp_requireRange hrg) (by decide) rfl rfl rfl (by decide) rfl rfl (Nat.le_of_ble_eq_true rfl) (fun _ q => ?_)
  obtain rfl := q.symm
  refine R_aload_n rfl rfl ?_
  refine R_iload_n rfl rfl ?_
  refine R_iload_n rfl rfl ?_
  refine R_cVxP (k := 0) (as := [.int (nI S), .int (nI T)]) rfl rfl iv_D_requireSquare (sp_requireSquare_z hv hS hT hc) (by decide) rfl rfl rfl (by decide) rfl rfl (Nat.le_of_ble_eq_true rfl) (fun σ' hσ' => Rx_out rfl ⟨σ', rfl, by rw [hσ']; exact smP.refl⟩)
/-- the flaw of a certificate -/
def flF (f : am_Gr) (h w rh : Nat) (rl : am_Gr) (cl : Option (Nat × Nat)) : Int32 := match cl with
  | none => 1
  | some (R, C) => if mnF f R w C = 0 then 2 else if ∀ r, r < rh → ∀ c, c < w → smL (fun a => rl r a * f a c) h = 0 then (if ∃ r, r < rh ∧ (thF rl h r).testBit (hdN (rl r) h) = true then 4 else if pc R + rh = h then 0 else 5) else 3
set_option maxRecDepth 100000 in
set_option maxHeartbeats 4000000 in
theorem sp_D_flaw_1 {σ : am_G} {h w rh pn : Nat} {f v rl : am_Gr} {I : Nat → Int32} (hv : vS σ 26 h w f v rh rl pn I) (h2 : I 2 = -1) : am_Call am_TX 8 0 c_D_flaw [.ref 0] (mm σ) (am_Ok (some (.int 1)) (fun σ1 => smP (plc 17 26) σ σ1)) := by
  have hh6 := hv.1.1.2
  have hw6 := hv.1.2.1.2
  have hr6 := hv.2.2.1.1.2
  have hp6 := hv.2.2.2.1.2
  refine ⟨mf_D_flaw, Nat.le_of_ble_eq_true rfl, ?_⟩
  refine R_aload_n rfl rfl ?_
  refine R_gP (x := 26) rfl rfl fp_10_6 rfl ?_
  refine R_gP (x := 30) rfl rfl fp_9_2 rfl ?_
  refine R_astore_n rfl (by decide) ?_
  refine R_aload_n rfl rfl ?_
  refine R_cV (as := []) rfl rfl iv_Certificate_hasClaim (sp_hasClaim rfl hv.2.2.2.2.2.2.1) (by decide) rfl rfl rfl (by decide) rfl rfl (Nat.le_of_ble_eq_true rfl) (fun _ q => ?_)
  obtain rfl := q.symm
  refine R_if_ne rfl rfl (fun z => absurd h2 (zP_ne z)) (fun h1 => ?_)
  refine R_iconst (v := 1) rfl rfl ?_
  exact T_ireturn rfl rfl (am_oki rfl smP.refl)
set_option maxRecDepth 100000 in
set_option maxHeartbeats 4000000 in
theorem sp_D_flaw {σ : am_G} {h w rh pn : Nat} {f v rl : am_Gr} {I : Nat → Int32} {R C : Nat} (hv : vS σ 26 h w f v rh rl pn I) (hR : I 2 = nI R) (hC : I 3 = nI C) (hR6 : R < 64) (hC6 : C < 64) (h1_ : 1 ≤ h) (hz : ∀ r, r < rh → ∃ j, j < h ∧ rl r j ≠ 0) : am_Call am_TX 8 0 c_D_flaw [.ref 0] (mm σ) (am_Ok (some (.int (flF f h w rh rl (some (R, C))))) (fun σ1 => smP (plc 17 26) σ σ1)) := by
  have hh6 := hv.1.1.2
  have hw6 := hv.1.2.1.2
  have hr6 := hv.2.2.1.1.2
  have hp6 := hv.2.2.2.1.2
  have h2n : I 2 ≠ -1 := by rw [hR]; exact nI_m1 (by omega)
  have q1 := @pc_le R
  refine ⟨mf_D_flaw, Nat.le_of_ble_eq_true rfl, ?_⟩
  refine R_aload_n rfl rfl ?_
  refine R_gP (x := 26) rfl rfl fp_10_6 rfl ?_
  refine R_gP (x := 30) rfl rfl fp_9_2 rfl ?_
  refine R_astore_n rfl (by decide) ?_
  refine R_aload_n rfl rfl ?_
  refine R_cV (as := []) rfl rfl iv_Certificate_hasClaim (sp_hasClaim rfl hv.2.2.2.2.2.2.1) (by decide) rfl rfl rfl (by decide) rfl rfl (Nat.le_of_ble_eq_true rfl) (fun _ q => ?_)
  obtain rfl := q.symm
  refine R_if_ne rfl rfl (fun h1 => ?_) (fun z => absurd h2n (zP_0 z))
  refine R_aload_n rfl rfl ?_
  refine R_gP (x := 16) rfl rfl fp_10_4 rfl ?_
  refine R_aload_n rfl rfl ?_
  refine R_gP (x := 26) rfl rfl fp_10_6 rfl ?_
  refine R_gP (x := 27) rfl rfl fp_9_0 rfl ?_
  refine R_aload_n rfl rfl ?_
  refine R_gIX (x := (nI R)) rfl rfl fd_0_2 (hv.2.2.2.2.2.2.1.trans hR) ?_
  refine R_aload_n rfl rfl ?_
  refine R_gIX (x := (nI C)) rfl rfl fd_0_3 (hv.2.2.2.2.2.2.2.1.trans hC) ?_
  refine R_cV (as := [.ref 27, .int (nI R), .int (nI C)]) rfl rfl iv_Reckoner_minorOf (sp_minorOf (S := R) (s := C) im27 (by omega) hv.1 (by first | assumption | exact lw_lt (by omega) | exact wi_lt (by first | assumption | omega) (by omega) | exact wo_lt (by first | assumption | omega) (by omega) | omega) (by first | assumption | exact lw_lt (by omega) | exact wi_lt (by first | assumption | omega) (by omega) | exact wo_lt (by first | assumption | omega) (by omega) | omega)) (by decide) rfl rfl rfl (by decide) rfl rfl (Nat.le_of_ble_eq_true rfl) (fun σ2 hσ2 => ?_)
  refine R_lconst (v := 0) rfl rfl ?_
  refine R_l_ne rfl rfl rfl (fun h2 => ?_) (fun h2 => ?_)
  · refine R_aload_n rfl rfl ?_
    refine R_aload_n rfl rfl ?_
    refine R_gP (x := 26) rfl rfl fp_10_6 rfl ?_
    refine R_gP (x := 27) rfl rfl fp_9_0 rfl ?_
    refine R_cV (as := [.ref 27]) rfl rfl iv_Certificate_areAllTrue (sp_areAllTrue (s := 26) isState_26 ((hσ2.mono (q := plc 17 26) (fun a b => by unfold plc; omega)).vM hv.2.2.1 (fun b => by unfold plc; omega) (fun b => by unfold plc; omega)) im27 ((hσ2.mono (q := plc 17 26) (fun a b => by unfold plc; omega)).vM hv.1 (fun b => by unfold plc; omega) (fun b => by unfold plc; omega))) (by decide) rfl rfl rfl (by decide) rfl rfl (Nat.le_of_ble_eq_true rfl) (fun _ q => ?_)
    obtain rfl := q.symm
    refine R_zif_ne rfl rfl (fun h3 => ?_) (fun h3 => ?_)
    · refine R_aload_n rfl rfl ?_
      refine R_cV (as := []) rfl rfl iv_Certificate_hasTwinHeads (sp_hasTwinHeads (s := 26) isState_26 ((hσ2.mono (q := plc 17 26) (fun a b => by unfold plc; omega)).vM hv.2.2.1 (fun b => by unfold plc; omega) (fun b => by unfold plc; omega)) h1_ hz) (by decide) rfl rfl rfl (by decide) rfl rfl (Nat.le_of_ble_eq_true rfl) (fun _ q => ?_)
      obtain rfl := q.symm
      refine R_zif_eq rfl rfl (fun h4 => ?_) (fun h4 => ?_)
      · refine R_aload_n rfl rfl ?_
        refine R_gIX (x := (nI R)) rfl rfl fd_0_2 ((((hσ2.mono (q := plc 17 26) (fun a b => by unfold plc; omega)).i (by unfold plc; omega)).trans hv.2.2.2.2.2.2.1).trans hR) ?_
        refine R_cS (as := [.int (nI R)]) rfl rfl iv_JInteger_bitCount (sp_bitCount (s := R) (by first | assumption | exact lw_lt (by omega) | exact wi_lt (by first | assumption | omega) (by omega) | exact wo_lt (by first | assumption | omega) (by omega) | omega)) (by decide) rfl rfl rfl rfl (Nat.le_of_ble_eq_true rfl) (fun _ q => ?_)
        obtain rfl := q.symm
        refine R_aload_n rfl rfl ?_
        refine R_gP (x := 33) rfl rfl fp_0_1 rfl ?_
        refine R_gIN (n := rh) rfl rfl fd_4_0 (((hσ2.mono (q := plc 17 26) (fun a b => by unfold plc; omega)).i (by unfold plc; omega)).trans hv.2.2.1.1.1) ?_
        refine R_iaddN (x := (pc R)) (y := rh) rfl ?_
        refine R_istore_n rfl (by decide) ?_
        refine R_iload_n rfl rfl ?_
        refine R_aload_n rfl rfl ?_
        refine R_gP (x := 26) rfl rfl fp_10_6 rfl ?_
        refine R_gP (x := 27) rfl rfl fp_9_0 rfl ?_
        refine R_gIN (n := h) rfl rfl fd_4_0 ((hσ2.mono (q := plc 17 26) (fun a b => by unfold plc; omega)).vM hv.1 (fun b => by unfold plc; omega) (fun b => by unfold plc; omega)).1.1 ?_
        refine R_nicmp_ne (x := ((pc R) + rh)) (y := h) rfl rfl (by omega) (by omega) (fun h5 => ?_) (fun h5 => ?_)
        · refine R_iconst (v := 5) rfl rfl ?_
          exact T_ireturn rfl rfl (am_oki (by simp only [flF]; rw [if_neg h2, if_pos h3, if_neg h4, if_neg h5]) (hσ2.mono (q := plc 17 26) (fun a b => by unfold plc; omega)))
        · refine R_iconst (v := 0) rfl rfl ?_
          refine R_goto rfl rfl ?_
          exact T_ireturn rfl rfl (am_oki (by simp only [flF]; rw [if_neg h2, if_pos h3, if_neg h4, if_pos h5]) (hσ2.mono (q := plc 17 26) (fun a b => by unfold plc; omega)))
      · refine R_iconst (v := 4) rfl rfl ?_
        exact T_ireturn rfl rfl (am_oki (by simp only [flF]; rw [if_neg h2, if_pos h3, if_pos h4]) (hσ2.mono (q := plc 17 26) (fun a b => by unfold plc; omega)))
    · refine R_iconst (v := 3) rfl rfl ?_
      exact T_ireturn rfl rfl (am_oki (by simp only [flF]; rw [if_neg h2, if_neg h3]) (hσ2.mono (q := plc 17 26) (fun a b => by unfold plc; omega)))
  · refine R_iconst (v := 2) rfl rfl ?_
    exact T_ireturn rfl rfl (am_oki (by simp only [flF]; rw [if_pos h2]) (hσ2.mono (q := plc 17 26) (fun a b => by unfold plc; omega)))
