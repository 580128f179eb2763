/-! ===== what is written, 4 ===== -/
def rwR (g : am_Gr) : Nat → List Int32
  | 0 => []
  | i + 1 => if g 0 i = 0 then rwR g i else (((rwR g i ++ (if (rwR g i).length > 0 then [32] else [])) ++ nuL (g 0 i)) ++ [42, 114]) ++ nuL (nI i).toInt64
theorem rwR_len {g : am_Gr} : ∀ i, (rwR g i).length ≤ 43 * i
  | 0 => Nat.le_refl _
  | i + 1 => by
    have ih := @rwR_len g i
    have h1 := @nuL_len (g 0 i)
    have h2 := @nuL_len (nI i).toInt64
    have h3 : (if (rwR g i).length > 0 then [(32 : Int32)] else []).length ≤ 1 := by split <;> decide
    simp only [rwR]
    split
    · omega
    · simp only [List.length_append, List.length_cons, List.length_nil]
      omega
set_option maxRecDepth 100000 in
set_option maxHeartbeats 4000000 in
theorem lp_wrl {σ : am_G} {h : Nat} {g : am_Gr} {d k0 : Nat} (hv : vM σ 17 1 h g) (hd : 6 ≤ d)  : ∀ (uu i : Nat) (τ : am_G), i + uu = h → (smP pO σ τ ∧ oC τ (rwR g i)) → am_R am_TX d k0 c_D_writeRelation 44 [some (.ref 0), none, some (.ref 17), some (.int (nI i))] [] (mm τ) (am_Ok (some (.int (nI (rwR g h).length))) (fun σ1 => smP pO σ σ1 ∧ oC σ1 (rwR g h))) := by
  have hh6 := hv.2.1.2
  intro uu
  induction uu with
  | zero =>
    intro i τ hi hI
    obtain rfl : h = i := by omega
    skip
    refine R_iload_n rfl rfl ?_
    refine R_aload_n rfl rfl ?_
    refine R_gIN (n := h) rfl rfl fd_4_1 (hI.1.vM hv (fun b => by unfold pO; omega) (fun b => by unfold pO; omega)).2.1.1 ?_
    refine R_nicmp_ge (x := h) (y := h) rfl rfl (by omega) (by omega) (fun h1 => ?_) (fun z => by omega)
    refine R_aload_n rfl rfl ?_
    refine R_gP (x := 14) rfl rfl fp_10_3 rfl ?_
    refine R_gIN (n := (rwR g h).length) rfl rfl fd_5_0 hI.2.1 ?_
    exact T_ireturn rfl rfl (am_oki rfl hI)
  | succ uu ih =>
    intro i τ hi hI
    have hrl := @rwR_len g i
    have h1n := @nuL_len (g 0 i)
    have hs1 : (if (rwR g i).length > 0 then [(32 : Int32)] else []).length ≤ 1 := by split <;> decide
    refine R_iload_n rfl rfl ?_
    refine R_aload_n rfl rfl ?_
    refine R_gIN (n := h) rfl rfl fd_4_1 (hI.1.vM hv (fun b => by unfold pO; omega) (fun b => by unfold pO; omega)).2.1.1 ?_
    refine R_nicmp_ge (x := i) (y := h) rfl rfl (by omega) (by omega) (fun z => by omega) (fun h1 => ?_)
    refine R_aload_n rfl rfl ?_
    refine R_iconst (v := 0) rfl rfl ?_
    refine R_iload_n rfl rfl ?_
    refine R_cV (as := [.int 0, .int (nI i)]) rfl rfl iv_Matrix_at ((by have z := sp_Matrix_at (σ := τ) (k := 17) (i := 0) (j := i) im17 (by omega) (by omega); rw [((hI.1.vM hv (fun b => by unfold pO; omega) (fun b => by unfold pO; omega))).at (by omega) (by omega)] at z; exact z)) (by omega) rfl rfl rfl (by decide) rfl rfl (Nat.le_of_ble_eq_true rfl) (fun _ q => ?_)
    obtain rfl := q.symm
    refine R_lconst (v := 0) rfl rfl ?_
    refine R_l_eq rfl rfl rfl (fun h2 => ?_) (fun h2 => ?_)
    · refine R_iincN (x := i) (m := 1) rfl rfl rfl (by decide) ?_
      refine R_goto rfl rfl ?_
      have e := ih (i + 1) τ (by omega) ⟨hI.1, by rw [show rwR g (i + 1) = rwR g i from by simp only [rwR]; exact if_pos h2]; exact hI.2⟩
      exact e.weak ⟨rfl, rfl, rfl, trivial⟩
    · refine R_aload_n rfl rfl ?_
      refine R_gP (x := 14) rfl rfl fp_10_3 rfl ?_
      refine R_cV (as := []) rfl rfl iv_Output_addSeparator (sp_addSeparator hI.2 (by first | omega | (simp only [List.length_append, List.length_cons, List.length_nil]; omega))) (by omega) rfl rfl rfl (by decide) rfl rfl (Nat.le_of_ble_eq_true rfl) (fun τ2 hτ2 => ?_)
      obtain ⟨pτ2, oτ2⟩ := hτ2
      refine R_aload_n rfl rfl ?_
      refine R_gP (x := 14) rfl rfl fp_10_3 rfl ?_
      refine R_aload_n rfl rfl ?_
      refine R_iconst (v := 0) rfl rfl ?_
      refine R_iload_n rfl rfl ?_
      refine R_cV (as := [.int 0, .int (nI i)]) rfl rfl iv_Matrix_at ((by have z := sp_Matrix_at (σ := τ2) (k := 17) (i := 0) (j := i) im17 (by omega) (by omega); rw [(((hI.1.trans pτ2).vM hv (fun b => by unfold pO; omega) (fun b => by unfold pO; omega))).at (by omega) (by omega)] at z; exact z)) (by omega) rfl rfl rfl (by decide) rfl rfl (Nat.le_of_ble_eq_true rfl) (fun _ q => ?_)
      obtain rfl := q.symm
      refine R_cV (as := [.long (g 0 i)]) rfl rfl iv_Output_addNumber (sp_addNumber (v := (g 0 i)) oτ2 (by simp only [List.length_append, List.length_cons, List.length_nil, List.nil_append]; omega)) (by omega) rfl rfl rfl (by decide) rfl rfl (Nat.le_of_ble_eq_true rfl) (fun τ5 hτ5 => ?_)
      obtain ⟨pτ5, oτ5⟩ := hτ5
      refine R_aload_n rfl rfl ?_
      refine R_gP (x := 14) rfl rfl fp_10_3 rfl ?_
      refine R_ldcSW (i := 8) rfl (List.mem_of_getElem? (i := 8) rfl) ?_
      refine R_cV (as := [.ref (1000 + 8)]) rfl rfl iv_Output_addText (sp_addText (q0 := 8) (bs := [42, 114]) (List.mem_of_getElem? (i := 0) rfl) oτ5 (by simp only [List.length_append, List.length_cons, List.length_nil, List.nil_append]; omega)) (by omega) rfl rfl rfl (by decide) rfl rfl (Nat.le_of_ble_eq_true rfl) (fun τ7 hτ7 => ?_)
      obtain ⟨pτ7, oτ7⟩ := hτ7
      refine R_aload_n rfl rfl ?_
      refine R_gP (x := 14) rfl rfl fp_10_3 rfl ?_
      refine R_iload_n rfl rfl ?_
      refine R_i2l rfl ?_
      refine R_cV (as := [.long ((nI i).toInt64)]) rfl rfl iv_Output_addNumber (sp_addNumber (v := ((nI i).toInt64)) oτ7 (by simp only [List.length_append, List.length_cons, List.length_nil, List.nil_append]; omega)) (by omega) rfl rfl rfl (by decide) rfl rfl (Nat.le_of_ble_eq_true rfl) (fun τ9 hτ9 => ?_)
      obtain ⟨pτ9, oτ9⟩ := hτ9
      refine R_iincN (x := i) (m := 1) rfl rfl rfl (by decide) ?_
      refine R_goto rfl rfl ?_
      have e := ih (i + 1) τ9 (by omega) ⟨((((hI.1.trans pτ2).trans pτ5).trans pτ7).trans pτ9), by rw [show rwR g (i + 1) = (((((rwR g i) ++ (if (rwR g i).length > 0 then [32] else [])) ++ nuL (g 0 i)) ++ [42, 114]) ++ nuL ((nI i).toInt64)) from by simp only [rwR]; exact if_neg h2]; exact oτ9⟩
      exact e.weak ⟨rfl, rfl, rfl, trivial⟩
set_option maxRecDepth 100000 in
set_option maxHeartbeats 4000000 in
theorem sp_D_writeRelation {σ : am_G} {h w rh pn : Nat} {f v rl : am_Gr} {I : Nat → Int32} {r : Nat} (hv : vS σ 26 h w f v rh rl pn I) (r_h : r < h) (hn : ¬ (prR f 0 h w h).testBit r = true) : am_Call am_TX 8 0 c_D_writeRelation [.ref 0, .int (nI r)] (mm σ) (am_Ok (some (.int (nI (rwR (rlG f 0 h w r) h).length))) (fun σ1 => smP (plc 14 26) σ σ1 ∧ oC σ1 (rwR (rlG f 0 h w r) h))) := by
  have hh6 := hv.1.1.2
  have hw6 := hv.1.2.1.2
  have hr6 := hv.2.2.1.1.2
  have hp6 := hv.2.2.2.1.2
  refine ⟨mf_D_writeRelation, Nat.le_of_ble_eq_true rfl, ?_⟩
  refine R_aload_n rfl rfl ?_
  refine R_iload_n rfl rfl ?_
  refine R_cV (as := [.int (nI r)]) rfl rfl iv_D_requireRow (sp_requireRow (r := r) hv (by omega)) (by decide) rfl rfl rfl (by decide) rfl rfl (Nat.le_of_ble_eq_true rfl) (fun _ q => ?_)
  obtain rfl := q.symm
  refine R_aload_n rfl rfl ?_
  refine R_aload_n rfl rfl ?_
  refine R_gP (x := 26) rfl rfl fp_10_6 rfl ?_
  refine R_gP (x := 27) rfl rfl fp_9_0 rfl ?_
  refine R_iconst (v := 0) rfl rfl ?_
  refine R_iload_n rfl rfl ?_
  refine R_cV (as := [.ref 27, .int 0, .int (nI r)]) rfl rfl iv_D_requireOutsideProfile (sp_outside (m := 0) (r := r) im27 (by omega) hv.1 (by omega) (by omega) hn) (by decide) rfl rfl rfl (by decide) rfl rfl (Nat.le_of_ble_eq_true rfl) (fun σ2 hσ2 => ?_)
  refine R_aload_n rfl rfl ?_
  refine R_gP (x := 16) rfl rfl fp_10_4 rfl ?_
  refine R_aload_n rfl rfl ?_
  refine R_gP (x := 26) rfl rfl fp_10_6 rfl ?_
  refine R_gP (x := 27) rfl rfl fp_9_0 rfl ?_
  refine R_iconst (v := 0) rfl rfl ?_
  refine R_iload_n rfl rfl ?_
  refine R_cV (as := [.ref 27, .int 0, .int (nI r)]) rfl rfl iv_Reckoner_relationOfRow (sp_relationOfRow (m := 0) (r := r) im27 (by omega) ((hσ2.mono (q := plc 14 26) (fun a b => by unfold plc; omega)).vM hv.1 (fun b => by unfold plc; omega) (fun b => by unfold plc; omega)) (by omega) (by omega)) (by decide) rfl rfl rfl (by decide) rfl rfl (Nat.le_of_ble_eq_true rfl) (fun ρ1 hρ1 => ?_)
  obtain ⟨q1, q2⟩ := hρ1
  refine R_astore_n rfl (by decide) ?_
  refine R_aload_n rfl rfl ?_
  refine R_gP (x := 14) rfl rfl fp_10_3 rfl ?_
  refine R_cV (as := []) rfl rfl iv_Output_clear (sp_Output_clear) (by decide) rfl rfl rfl (by decide) rfl rfl (Nat.le_of_ble_eq_true rfl) (fun τ6 hτ6 => ?_)
  obtain ⟨pτ6, oτ6⟩ := hτ6
  refine R_iconst (v := 0) rfl rfl ?_
  refine R_istore_n rfl (by decide) ?_
  exact (am_R.mono (lp_wrl (g := (rlG f 0 h w r)) (pτ6.vM q2 (fun b => by unfold pO; omega) (fun b => by unfold pO; omega)) (by omega) h 0 τ6 (by omega) ⟨smP.refl, oτ6⟩) (am_Ok.mono fun σ1 z => ⟨(((hσ2.mono (q := plc 14 26) (fun a b => by unfold plc; omega)).trans (q1.mono (q := plc 14 26) (fun a b => by unfold pRl plc; omega))).trans (pτ6.mono (q := plc 14 26) (fun a b => by unfold pO plc; omega))).trans (z.1.mono (fun a b => by unfold pO plc; omega)), z.2⟩)).weak ⟨rfl, rfl, rfl, trivial⟩
set_option maxRecDepth 100000 in
set_option maxHeartbeats 4000000 in
theorem sp_D_writeRelation_x0 {σ : am_G} {h w rh pn : Nat} {f v rl : am_Gr} {I : Nat → Int32} {x : Int32} (hv : vS σ 26 h w f v rh rl pn I) (hb : ¬ (0 ≤ x ∧ x < nI h)) : am_Call am_TX 8 1 c_D_writeRelation [.ref 0, .int x] (mm σ) (am_ThP "java/lang/IndexOutOfBoundsException" (fun σ1 => smP (plc 17 26) σ σ1)) := by
  have hh6 := hv.1.1.2
  have hw6 := hv.1.2.1.2
  have hr6 := hv.2.2.1.1.2
  have hp6 := hv.2.2.2.1.2
  refine ⟨mf_D_writeRelation, Nat.le_of_ble_eq_true rfl, ?_⟩
  refine R_aload_n rfl rfl ?_
  refine R_iload_n rfl rfl ?_
  refine R_cVxP (k := 0) (as := [.int x]) rfl rfl iv_D_requireRow (sp_requireRow_x hv hb) (by decide) rfl rfl rfl (by decide) rfl rfl (Nat.le_of_ble_eq_true rfl) (fun σ' hσ' => Rx_out rfl ⟨σ', rfl, by rw [hσ']; exact smP.refl⟩)
set_option maxRecDepth 100000 in
set_option maxHeartbeats 4000000 in
theorem sp_D_writeRelation_n {σ : am_G} {h w rh pn : Nat} {f v rl : am_Gr} {I : Nat → Int32} {r : Nat} (hv : vS σ 26 h w f v rh rl pn I) (r_h : r < h) (hn : (prR f 0 h w h).testBit r = true) : am_Call am_TX 8 1 c_D_writeRelation [.ref 0, .int (nI r)] (mm σ) (am_ThP "java/util/NoSuchElementException" (fun σ1 => smP (plc 17 26) σ σ1)) := by
  have hh6 := hv.1.1.2
  have hw6 := hv.1.2.1.2
  have hr6 := hv.2.2.1.1.2
  have hp6 := hv.2.2.2.1.2
  refine ⟨mf_D_writeRelation, Nat.le_of_ble_eq_true rfl, ?_⟩
  refine R_aload_n rfl rfl ?_
  refine R_iload_n rfl rfl ?_
  refine R_cV (as := [.int (nI r)]) rfl rfl iv_D_requireRow (sp_requireRow (r := r) hv (by omega)) (by decide) rfl rfl rfl (by decide) rfl rfl (Nat.le_of_ble_eq_true rfl) (fun _ q => ?_)
  obtain rfl := q.symm
  refine R_aload_n rfl rfl ?_
  refine R_aload_n rfl rfl ?_
  refine R_gP (x := 26) rfl rfl fp_10_6 rfl ?_
  refine R_gP (x := 27) rfl rfl fp_9_0 rfl ?_
  refine R_iconst (v := 0) rfl rfl ?_
  refine R_iload_n rfl rfl ?_
  refine R_cVxP (k := 0) (as := [.ref 27, .int 0, .int (nI r)]) rfl rfl iv_D_requireOutsideProfile (sp_outside_x (m := 0) (r := r) im27 (by omega) hv.1 (by omega) (by omega) hn) (by decide) rfl rfl rfl (by decide) rfl rfl (Nat.le_of_ble_eq_true rfl) (fun σ' hσ' => Rx_out rfl ⟨σ', rfl, (hσ'.mono (fun a b => by unfold plc; omega))⟩)
