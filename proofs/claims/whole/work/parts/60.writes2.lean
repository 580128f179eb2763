/-! ===== what is written, 2 ===== -/
theorem im19 : isMat 19 := ⟨rfl, rfl, rfl⟩
theorem lnL_762 {f : am_Gr} {h w : Nat} (hh : h ≤ 6) (hw : w ≤ 6) : (lnL f w h).length ≤ 762 :=
  Nat.le_trans (lnL_len h) (show (21 * w + 1) * h ≤ 127 * 6 from Nat.mul_le_mul (by omega) hh)
set_option maxRecDepth 100000 in
set_option maxHeartbeats 4000000 in
theorem sp_D_writeEchelon {σ : am_G} {h w rh pn : Nat} {f v rl : am_Gr} {I : Nat → Int32} {m : Nat} (hv : vS σ 26 h w f v rh rl pn I) (hmp : m ∈ prL) : am_Call am_TX 8 0 c_D_writeEchelon [.ref 0, .int (nI m)] (mm σ) (am_Ok (some (.int (nI (lnL (ecG f m h w) (pc (2 ^ w - 1)) (ecR f m h w)).length))) (fun σ1 => smP (plc 14 26) σ σ1 ∧ oC σ1 (lnL (ecG f m h w) (pc (2 ^ w - 1)) (ecR f m h w)))) := by
  have hh6 := hv.1.1.2
  have hw6 := hv.1.2.1.2
  have hr6 := hv.2.2.1.1.2
  have hp6 := hv.2.2.2.1.2
  have hm97 := (prL_le m hmp).2
  have hm2 := (prL_le m hmp).1
  refine ⟨mf_D_writeEchelon, Nat.le_of_ble_eq_true rfl, ?_⟩
  refine R_aload_n rfl rfl ?_
  refine R_iload_n rfl rfl ?_
  refine R_cV (as := [.int (nI m)]) rfl rfl iv_D_requirePrimeModulus (sp_requirePrimeModulus (m := m) hmp) (by decide) rfl rfl rfl (by decide) rfl rfl (Nat.le_of_ble_eq_true rfl) (fun _ q => ?_)
  obtain rfl := q.symm
  refine R_aload_n rfl rfl ?_
  refine R_gP (x := 14) rfl rfl fp_10_3 rfl ?_
  refine R_cV (as := []) rfl rfl iv_Output_clear (sp_Output_clear) (by decide) rfl rfl rfl (by decide) rfl rfl (Nat.le_of_ble_eq_true rfl) (fun τ2 hτ2 => ?_)
  obtain ⟨pτ2, oτ2⟩ := hτ2
  refine R_aload_n rfl rfl ?_
  refine R_gP (x := 14) rfl rfl fp_10_3 rfl ?_
  refine R_aload_n rfl rfl ?_
  refine R_gP (x := 16) rfl rfl fp_10_4 rfl ?_
  refine R_aload_n rfl rfl ?_
  refine R_gP (x := 26) rfl rfl fp_10_6 rfl ?_
  refine R_gP (x := 27) rfl rfl fp_9_0 rfl ?_
  refine R_iload_n rfl rfl ?_
  refine R_cV (as := [.ref 27, .int (nI m)]) rfl rfl iv_Reckoner_echelonForm (sp_echelonForm (m := m) im27 (by omega) ((pτ2.mono (q := plc 14 26) (fun a b => by unfold pO plc; omega)).vM hv.1 (fun b => by unfold plc; omega) (fun b => by unfold plc; omega)) (by omega)) (by decide) rfl rfl rfl (by decide) rfl rfl (Nat.le_of_ble_eq_true rfl) (fun τe hτe => ?_)
  obtain ⟨e1, e2⟩ := hτe
  have hll : (lnL (ecG f m h w) (pc (2 ^ w - 1)) (ecR f m h w)).length ≤ 762 := lnL_762 e2.1.2 e2.2.1.2
  refine R_cV (as := [.ref 19]) rfl rfl iv_Output_addLines (sp_addLines im19 (by omega) e2 (oτ2.fr e1 (fun b => by unfold plc; omega)) (by simp only [List.length_append, List.length_cons, List.length_nil, List.nil_append]; omega)) (by decide) rfl rfl rfl (by decide) rfl rfl (Nat.le_of_ble_eq_true rfl) (fun τ6 hτ6 => ?_)
  obtain ⟨pτ6, oτ6⟩ := hτ6
  refine R_aload_n rfl rfl ?_
  refine R_gP (x := 14) rfl rfl fp_10_3 rfl ?_
  refine R_gIN (n := (([] ++ lnL (ecG f m h w) (pc (2 ^ w - 1)) (ecR f m h w))).length) rfl rfl fd_5_0 oτ6.1 ?_
  exact T_ireturn rfl rfl (am_oki rfl ⟨(((pτ2.mono (q := plc 14 26) (fun a b => by unfold pO plc; omega)).trans (e1.mono (q := plc 14 26) (fun a b => by unfold plc; omega))).trans (pτ6.mono (q := plc 14 26) (fun a b => by unfold pO plc; omega))), oτ6⟩)
set_option maxRecDepth 100000 in
set_option maxHeartbeats 4000000 in
theorem sp_D_writeEchelon_x0 {σ : am_G} {h w rh pn : Nat} {f v rl : am_Gr} {I : Nat → Int32} {x : Int32} (hv : vS σ 26 h w f v rh rl pn I) (hb : ∀ n, n ∈ prL → x ≠ nI n) : am_Call am_TX 8 1 c_D_writeEchelon [.ref 0, .int x] (mm σ) (am_ThP "java/lang/IllegalArgumentException" (fun σ1 => smP (plc 17 26) σ σ1)) := by
  have hh6 := hv.1.1.2
  have hw6 := hv.1.2.1.2
  have hr6 := hv.2.2.1.1.2
  have hp6 := hv.2.2.2.1.2
  refine ⟨mf_D_writeEchelon, Nat.le_of_ble_eq_true rfl, ?_⟩
  refine R_aload_n rfl rfl ?_
  refine R_iload_n rfl rfl ?_
  refine R_cVxP (k := 0) (as := [.int x]) rfl rfl iv_D_requirePrimeModulus (sp_requirePrimeModulus_x hb) (by decide) rfl rfl rfl (by decide) rfl rfl (Nat.le_of_ble_eq_true rfl) (fun σ' hσ' => Rx_out rfl ⟨σ', rfl, by rw [hσ']; exact smP.refl⟩)
theorem nu_1 : ∀ i, i < 7 → nuL (nI i).toInt64 = [48 + nI i] := by decide +kernel
theorem stL_12 {S : Nat} : ∀ i, i ≤ 6 → (stL S i).length ≤ 2 * i
  | 0, _ => Nat.le_refl _
  | i + 1, hi => by
    have ih := @stL_12 S i (by omega)
    simp only [stL]
    split
    · rw [List.length_append, List.length_cons, nu_1 i (by omega)]
      show _ + (1 + 1) ≤ _
      omega
    · omega
set_option maxRecDepth 100000 in
set_option maxHeartbeats 4000000 in
theorem sp_D_writeCertificate_1 {σ : am_G} {h w rh pn : Nat} {f v rl : am_Gr} {I : Nat → Int32} {S T : Nat} (hv : vS σ 26 h w f v rh rl pn I) (h2 : I 2 = nI S) (h3 : I 3 = nI T) (hS : S < 64) (hT : T < 64) : am_Call am_TX 8 0 c_D_writeCertificate [.ref 0] (mm σ) (am_Ok (some (.int (nI ((((([114, 111, 119, 115] ++ stL S 6) ++ [32, 99, 111, 108, 117, 109, 110, 115]) ++ stL T 6) ++ [10]) ++ lnL rl h rh).length))) (fun σ1 => smP (plc 14 26) σ σ1 ∧ oC σ1 ((((([114, 111, 119, 115] ++ stL S 6) ++ [32, 99, 111, 108, 117, 109, 110, 115]) ++ stL T 6) ++ [10]) ++ lnL rl h rh))) := by
  have hh6 := hv.1.1.2
  have hw6 := hv.1.2.1.2
  have hr6 := hv.2.2.1.1.2
  have hp6 := hv.2.2.2.1.2
  have hll : (lnL rl h rh).length ≤ 762 := lnL_762 hr6 hh6
  have hc2 : I 2 ≠ -1 := by rw [h2]; exact nI_m1 (by omega)
  refine ⟨mf_D_writeCertificate, Nat.le_of_ble_eq_true rfl, ?_⟩
  refine R_aload_n rfl rfl ?_
  refine R_gP (x := 26) rfl rfl fp_10_6 rfl ?_
  refine R_gP (x := 30) rfl rfl fp_9_2 rfl ?_
  refine R_astore_n rfl (by decide) ?_
  refine R_aload_n rfl rfl ?_
  refine R_gP (x := 14) rfl rfl fp_10_3 rfl ?_
  refine R_cV (as := []) rfl rfl iv_Output_clear (sp_Output_clear) (by decide) rfl rfl rfl (by decide) rfl rfl (Nat.le_of_ble_eq_true rfl) (fun τ1 hτ1 => ?_)
  obtain ⟨pτ1, oτ1⟩ := hτ1
  refine R_aload_n rfl rfl ?_
  refine R_cV (as := []) rfl rfl iv_Certificate_hasClaim (sp_hasClaim rfl (((pτ1.mono (q := plc 14 26) (fun a b => by unfold pO plc; omega)).i (by unfold plc; omega)).trans hv.2.2.2.2.2.2.1)) (by decide) rfl rfl rfl (by decide) rfl rfl (Nat.le_of_ble_eq_true rfl) (fun _ q => ?_)
  obtain rfl := q.symm
  refine R_if_eq rfl rfl (fun z => absurd hc2 (zP_0 z)) (fun h1 => ?_)
  refine R_aload_n rfl rfl ?_
  refine R_gP (x := 14) rfl rfl fp_10_3 rfl ?_
  refine R_ldcSW (i := 9) rfl (List.mem_of_getElem? (i := 9) rfl) ?_
  refine R_cV (as := [.ref (1000 + 9)]) rfl rfl iv_Output_addText (sp_addText (q0 := 9) (bs := [114, 111, 119, 115]) (List.mem_of_getElem? (i := 1) rfl) oτ1 (by simp only [List.length_append, List.length_cons, List.length_nil, List.nil_append]; omega)) (by decide) rfl rfl rfl (by decide) rfl rfl (Nat.le_of_ble_eq_true rfl) (fun τ4 hτ4 => ?_)
  obtain ⟨pτ4, oτ4⟩ := hτ4
  refine R_aload_n rfl rfl ?_
  refine R_gP (x := 14) rfl rfl fp_10_3 rfl ?_
  refine R_aload_n rfl rfl ?_
  refine R_gIN (n := S) rfl rfl fd_0_2 ((((pτ1.mono (q := plc 14 26) (fun a b => by unfold pO plc; omega)).trans (pτ4.mono (q := plc 14 26) (fun a b => by unfold pO plc; omega))).i (by unfold plc; omega)).trans (hv.2.2.2.2.2.2.1.trans h2)) ?_
  refine R_cV (as := [.int (nI S)]) rfl rfl iv_Output_addSet (sp_addSet (S := S) oτ4 (by omega) (by simp only [List.length_append, List.length_cons, List.length_nil, List.nil_append]; omega)) (by decide) rfl rfl rfl (by decide) rfl rfl (Nat.le_of_ble_eq_true rfl) (fun τ6 hτ6 => ?_)
  obtain ⟨pτ6, oτ6⟩ := hτ6
  have hlS := @stL_12 S 6 (by omega)
  refine R_aload_n rfl rfl ?_
  refine R_gP (x := 14) rfl rfl fp_10_3 rfl ?_
  refine R_ldcSW (i := 10) rfl (List.mem_of_getElem? (i := 10) rfl) ?_
  refine R_cV (as := [.ref (1000 + 10)]) rfl rfl iv_Output_addText (sp_addText (q0 := 10) (bs := [32, 99, 111, 108, 117, 109, 110, 115]) (List.mem_of_getElem? (i := 2) rfl) oτ6 (by simp only [List.length_append, List.length_cons, List.length_nil, List.nil_append]; omega)) (by decide) rfl rfl rfl (by decide) rfl rfl (Nat.le_of_ble_eq_true rfl) (fun τ8 hτ8 => ?_)
  obtain ⟨pτ8, oτ8⟩ := hτ8
  refine R_aload_n rfl rfl ?_
  refine R_gP (x := 14) rfl rfl fp_10_3 rfl ?_
  refine R_aload_n rfl rfl ?_
  refine R_gIN (n := T) rfl rfl fd_0_3 ((((((pτ1.mono (q := plc 14 26) (fun a b => by unfold pO plc; omega)).trans (pτ4.mono (q := plc 14 26) (fun a b => by unfold pO plc; omega))).trans (pτ6.mono (q := plc 14 26) (fun a b => by unfold pO plc; omega))).trans (pτ8.mono (q := plc 14 26) (fun a b => by unfold pO plc; omega))).i (by unfold plc; omega)).trans (hv.2.2.2.2.2.2.2.1.trans h3)) ?_
  refine R_cV (as := [.int (nI T)]) rfl rfl iv_Output_addSet (sp_addSet (S := T) oτ8 (by omega) (by simp only [List.length_append, List.length_cons, List.length_nil, List.nil_append]; omega)) (by decide) rfl rfl rfl (by decide) rfl rfl (Nat.le_of_ble_eq_true rfl) (fun τ10 hτ10 => ?_)
  obtain ⟨pτ10, oτ10⟩ := hτ10
  have hlT := @stL_12 T 6 (by omega)
  refine R_aload_n rfl rfl ?_
  refine R_gP (x := 14) rfl rfl fp_10_3 rfl ?_
  refine R_ldcSW (i := 11) rfl (List.mem_of_getElem? (i := 11) rfl) ?_
  refine R_cV (as := [.ref (1000 + 11)]) rfl rfl iv_Output_addText (sp_addText (q0 := 11) (bs := [10]) (List.mem_of_getElem? (i := 3) rfl) oτ10 (by simp only [List.length_append, List.length_cons, List.length_nil, List.nil_append]; omega)) (by decide) rfl rfl rfl (by decide) rfl rfl (Nat.le_of_ble_eq_true rfl) (fun τ12 hτ12 => ?_)
  obtain ⟨pτ12, oτ12⟩ := hτ12
  refine R_aload_n rfl rfl ?_
  refine R_gP (x := 14) rfl rfl fp_10_3 rfl ?_
  refine R_aload_n rfl rfl ?_
  refine R_gP (x := 33) rfl rfl fp_0_1 rfl ?_
  refine R_cV (as := [.ref 33]) rfl rfl iv_Output_addLines (sp_addLines im33 (by omega) (((((((pτ1.mono (q := plc 14 26) (fun a b => by unfold pO plc; omega)).trans (pτ4.mono (q := plc 14 26) (fun a b => by unfold pO plc; omega))).trans (pτ6.mono (q := plc 14 26) (fun a b => by unfold pO plc; omega))).trans (pτ8.mono (q := plc 14 26) (fun a b => by unfold pO plc; omega))).trans (pτ10.mono (q := plc 14 26) (fun a b => by unfold pO plc; omega))).trans (pτ12.mono (q := plc 14 26) (fun a b => by unfold pO plc; omega))).vM hv.2.2.1 (fun b => by unfold plc; omega) (fun b => by unfold plc; omega)) oτ12 (by simp only [List.length_append, List.length_cons, List.length_nil, List.nil_append]; omega)) (by decide) rfl rfl rfl (by decide) rfl rfl (Nat.le_of_ble_eq_true rfl) (fun τ14 hτ14 => ?_)
  obtain ⟨pτ14, oτ14⟩ := hτ14
  refine R_aload_n rfl rfl ?_
  refine R_gP (x := 14) rfl rfl fp_10_3 rfl ?_
  refine R_gIN (n := ((((((([] ++ [114, 111, 119, 115]) ++ stL S 6) ++ [32, 99, 111, 108, 117, 109, 110, 115]) ++ stL T 6) ++ [10]) ++ lnL rl h rh)).length) rfl rfl fd_5_0 oτ14.1 ?_
  exact T_ireturn rfl rfl (am_oki rfl ⟨(((((((pτ1.mono (q := plc 14 26) (fun a b => by unfold pO plc; omega)).trans (pτ4.mono (q := plc 14 26) (fun a b => by unfold pO plc; omega))).trans (pτ6.mono (q := plc 14 26) (fun a b => by unfold pO plc; omega))).trans (pτ8.mono (q := plc 14 26) (fun a b => by unfold pO plc; omega))).trans (pτ10.mono (q := plc 14 26) (fun a b => by unfold pO plc; omega))).trans (pτ12.mono (q := plc 14 26) (fun a b => by unfold pO plc; omega))).trans (pτ14.mono (q := plc 14 26) (fun a b => by unfold pO plc; omega))), oτ14⟩)
set_option maxRecDepth 100000 in
set_option maxHeartbeats 4000000 in
theorem sp_D_writeCertificate_0 {σ : am_G} {h w rh pn : Nat} {f v rl : am_Gr} {I : Nat → Int32} (hv : vS σ 26 h w f v rh rl pn I) (h2 : I 2 = -1) : am_Call am_TX 8 0 c_D_writeCertificate [.ref 0] (mm σ) (am_Ok (some (.int (nI ([10] ++ lnL rl h rh).length))) (fun σ1 => smP (plc 14 26) σ σ1 ∧ oC σ1 ([10] ++ lnL rl h rh))) := by
  have hh6 := hv.1.1.2
  have hw6 := hv.1.2.1.2
  have hr6 := hv.2.2.1.1.2
  have hp6 := hv.2.2.2.1.2
  have hll : (lnL rl h rh).length ≤ 762 := lnL_762 hr6 hh6
  refine ⟨mf_D_writeCertificate, Nat.le_of_ble_eq_true rfl, ?_⟩
  refine R_aload_n rfl rfl ?_
  refine R_gP (x := 26) rfl rfl fp_10_6 rfl ?_
  refine R_gP (x := 30) rfl rfl fp_9_2 rfl ?_
  refine R_astore_n rfl (by decide) ?_
  refine R_aload_n rfl rfl ?_
  refine R_gP (x := 14) rfl rfl fp_10_3 rfl ?_
  refine R_cV (as := []) rfl rfl iv_Output_clear (sp_Output_clear) (by decide) rfl rfl rfl (by decide) rfl rfl (Nat.le_of_ble_eq_true rfl) (fun τ1 hτ1 => ?_)
  obtain ⟨pτ1, oτ1⟩ := hτ1
  refine R_aload_n rfl rfl ?_
  refine R_cV (as := []) rfl rfl iv_Certificate_hasClaim (sp_hasClaim rfl (((pτ1.mono (q := plc 14 26) (fun a b => by unfold pO plc; omega)).i (by unfold plc; omega)).trans hv.2.2.2.2.2.2.1)) (by decide) rfl rfl rfl (by decide) rfl rfl (Nat.le_of_ble_eq_true rfl) (fun _ q => ?_)
  obtain rfl := q.symm
  refine R_if_eq rfl rfl (fun h1 => ?_) (fun z => absurd h2 (zP_ne z))
  refine R_aload_n rfl rfl ?_
  refine R_gP (x := 14) rfl rfl fp_10_3 rfl ?_
  refine R_ldcSW (i := 11) rfl (List.mem_of_getElem? (i := 11) rfl) ?_
  refine R_cV (as := [.ref (1000 + 11)]) rfl rfl iv_Output_addText (sp_addText (q0 := 11) (bs := [10]) (List.mem_of_getElem? (i := 3) rfl) oτ1 (by simp only [List.length_append, List.length_cons, List.length_nil, List.nil_append]; omega)) (by decide) rfl rfl rfl (by decide) rfl rfl (Nat.le_of_ble_eq_true rfl) (fun τ4 hτ4 => ?_)
  obtain ⟨pτ4, oτ4⟩ := hτ4
  refine R_aload_n rfl rfl ?_
  refine R_gP (x := 14) rfl rfl fp_10_3 rfl ?_
  refine R_aload_n rfl rfl ?_
  refine R_gP (x := 33) rfl rfl fp_0_1 rfl ?_
  refine R_cV (as := [.ref 33]) rfl rfl iv_Output_addLines (sp_addLines im33 (by omega) (((pτ1.mono (q := plc 14 26) (fun a b => by unfold pO plc; omega)).trans (pτ4.mono (q := plc 14 26) (fun a b => by unfold pO plc; omega))).vM hv.2.2.1 (fun b => by unfold plc; omega) (fun b => by unfold plc; omega)) oτ4 (by simp only [List.length_append, List.length_cons, List.length_nil, List.nil_append]; omega)) (by decide) rfl rfl rfl (by decide) rfl rfl (Nat.le_of_ble_eq_true rfl) (fun τ6 hτ6 => ?_)
  obtain ⟨pτ6, oτ6⟩ := hτ6
  refine R_aload_n rfl rfl ?_
  refine R_gP (x := 14) rfl rfl fp_10_3 rfl ?_
  refine R_gIN (n := ((([] ++ [10]) ++ lnL rl h rh)).length) rfl rfl fd_5_0 oτ6.1 ?_
  exact T_ireturn rfl rfl (am_oki rfl ⟨(((pτ1.mono (q := plc 14 26) (fun a b => by unfold pO plc; omega)).trans (pτ4.mono (q := plc 14 26) (fun a b => by unfold pO plc; omega))).trans (pτ6.mono (q := plc 14 26) (fun a b => by unfold pO plc; omega))), oτ6⟩)
