/-! ===== the model writes its certificate ===== -/
set_option maxRecDepth 100000 in
set_option maxHeartbeats 4000000 in
theorem lp_mwci {σ : am_G} {h w rh pn : Nat} {f v rl : am_Gr} {I : Nat → Int32} {r : Nat} {L : List Int32} {d k0 : Nat} {Q : am_Res → Prop} (hn : nV σ h w f v rh rl pn I) (hr : r < rh) (hL : L.length + 21 * h ≤ 1000) (hd : 3 ≤ d) (hx : ∀ (τ : am_G), (smP pOm σ τ ∧ oM τ (L ++ rwL rl r h)) → am_R am_TX d k0 c_M_writeCertificate 105 [some (.ref 120), some (.int (nI r)), some (.int (nI h))] [] (mm τ) Q) : ∀ (uu i : Nat) (τ : am_G), i + uu = h → (smP pOm σ τ ∧ oM τ (L ++ rwL rl r i)) → am_R am_TX d k0 c_M_writeCertificate 71 [some (.ref 120), some (.int (nI r)), some (.int (nI i))] [] (mm τ) Q := by
  have hv := hn.toV
  have hs := hn.2.1.2.1
  have hh1 := hv.1.1.1
  have hh6 := hv.1.1.2
  have hw1 := hv.1.2.1
  have hw6 := hv.1.2.2
  have hp6 := hn.2.1.2.2.2.1.1
  have hr6 := hn.2.1.2.2.2.2.2.2.1
  have hs7 := lw_lt hh6
  have ws7 := lw_lt hw6
  intro uu
  induction uu with
  | zero =>
    intro i τ hi hI
    obtain rfl : h = i := by omega
    skip
    refine R_iload_n rfl rfl ?_
    refine R_aload_n rfl rfl ?_
    refine R_cV (as := []) rfl rfl iv_M_rows (sp_rows (hI.1.mV hv (fun b => by unfold pOm; omega) (fun b => by unfold pOm; omega) (by unfold pOm; omega))) (by omega) rfl rfl rfl (by decide) rfl rfl (Nat.le_of_ble_eq_true rfl) (fun _ q => ?_)
    obtain rfl := q.symm
    refine R_nicmp_ge (x := h) (y := h) rfl rfl (by omega) (by omega) (fun g1 => ?_) (fun z => by omega)
    exact hx τ hI
  | succ uu ih =>
    intro i τ hi hI
    have hrl := @rwL_len rl r i
    have h20 := @nuL_len (rl r i)
    refine R_iload_n rfl rfl ?_
    refine R_aload_n rfl rfl ?_
    refine R_cV (as := []) rfl rfl iv_M_rows (sp_rows (hI.1.mV hv (fun b => by unfold pOm; omega) (fun b => by unfold pOm; omega) (by unfold pOm; omega))) (by omega) rfl rfl rfl (by decide) rfl rfl (Nat.le_of_ble_eq_true rfl) (fun _ q => ?_)
    obtain rfl := q.symm
    refine R_nicmp_ge (x := i) (y := h) rfl rfl (by omega) (by omega) (fun z => by omega) (fun g1 => ?_)
    refine R_iload_n rfl rfl ?_
    refine R_nif_le (x := i) rfl rfl (by omega) (fun g2 => ?_) (fun g2 => ?_)
    · refine R_aload_n rfl rfl ?_
      refine R_aload_n rfl rfl ?_
      refine R_iload_n rfl rfl ?_
      refine R_iload_n rfl rfl ?_
      refine R_cV (as := [.int (nI r), .int (nI i)]) rfl rfl iv_M_ofRelation (sp_ofRel (k := r) (r := i) (hn.fr hI.1 (fun b => by unfold pOm; omega) (by unfold pOm; omega)) (by omega) (by omega)) (by omega) rfl rfl rfl (by decide) rfl rfl (Nat.le_of_ble_eq_true rfl) (fun _ q => ?_)
      obtain rfl := q.symm
      refine R_cV (as := [.long (rl r i)]) rfl rfl iv_M_writeNumber (sp_mwriteNumber (v := (rl r i)) hI.2 (by first | omega | (simp only [List.length_append, List.length_cons, List.length_nil]; omega))) (by omega) rfl rfl rfl (by decide) rfl rfl (Nat.le_of_ble_eq_true rfl) (fun τ3 hτ3 => ?_)
      obtain ⟨pτ3, oτ3⟩ := hτ3
      refine R_iincN (x := i) (m := 1) rfl rfl rfl (by decide) ?_
      refine R_goto rfl rfl ?_
      have e := ih (i + 1) τ3 (by omega) ⟨(hI.1.trans pτ3), by rw [show rwL rl r (i + 1) = rwL rl r i ++ ([] ++ nuL (rl r i)) from by show rwL rl r i ++ ((if 0 < i then [32] else []) ++ nuL (rl r i)) = _; rw [if_neg (by omega)]]; have o := oτ3; simp only [List.append_assoc, List.nil_append] at o ⊢; exact o⟩
      exact e.weak ⟨rfl, rfl, rfl, trivial⟩
    · refine R_aload_n rfl rfl ?_
      refine R_bipush (v := 32) rfl (by decide) ?_
      refine R_cV (as := [.int 32]) rfl rfl iv_M_write (sp_mwrite (x := 32) rfl hI.2 (by first | omega | (simp only [List.length_append, List.length_cons, List.length_nil]; omega))) (by omega) rfl rfl rfl (by decide) rfl rfl (Nat.le_of_ble_eq_true rfl) (fun τ5 hτ5 => ?_)
      obtain ⟨pτ5, oτ5⟩ := hτ5
      refine R_aload_n rfl rfl ?_
      refine R_aload_n rfl rfl ?_
      refine R_iload_n rfl rfl ?_
      refine R_iload_n rfl rfl ?_
      refine R_cV (as := [.int (nI r), .int (nI i)]) rfl rfl iv_M_ofRelation (sp_ofRel (k := r) (r := i) (hn.fr (hI.1.trans pτ5) (fun b => by unfold pOm; omega) (by unfold pOm; omega)) (by omega) (by omega)) (by omega) rfl rfl rfl (by decide) rfl rfl (Nat.le_of_ble_eq_true rfl) (fun _ q => ?_)
      obtain rfl := q.symm
      refine R_cV (as := [.long (rl r i)]) rfl rfl iv_M_writeNumber (sp_mwriteNumber (v := (rl r i)) oτ5 (by first | omega | (simp only [List.length_append, List.length_cons, List.length_nil]; omega))) (by omega) rfl rfl rfl (by decide) rfl rfl (Nat.le_of_ble_eq_true rfl) (fun τ8 hτ8 => ?_)
      obtain ⟨pτ8, oτ8⟩ := hτ8
      refine R_iincN (x := i) (m := 1) rfl rfl rfl (by decide) ?_
      refine R_goto rfl rfl ?_
      have e := ih (i + 1) τ8 (by omega) ⟨((hI.1.trans pτ5).trans pτ8), by rw [show rwL rl r (i + 1) = rwL rl r i ++ ([32] ++ nuL (rl r i)) from by show rwL rl r i ++ ((if 0 < i then [32] else []) ++ nuL (rl r i)) = _; rw [if_pos (by omega)]]; have o := oτ8; simp only [List.append_assoc, List.nil_append] at o ⊢; exact o⟩
      exact e.weak ⟨rfl, rfl, rfl, trivial⟩
set_option maxRecDepth 100000 in
set_option maxHeartbeats 4000000 in
theorem lp_mwco {σ : am_G} {h w rh pn : Nat} {f v rl : am_Gr} {I : Nat → Int32} {L : List Int32} {d k0 : Nat} (hn : nV σ h w f v rh rl pn I) (hL : L.length ≤ 40) (hd : 4 ≤ d)  : ∀ (uu i : Nat) (τ : am_G), i + uu = rh → (smP pOm σ τ ∧ oM τ (L ++ lnL rl h i)) → am_R am_TX d k0 c_M_writeCertificate 59 [some (.ref 120), some (.int (nI i)), none] [] (mm τ) (am_Ok (some (.int (nI (L ++ lnL rl h rh).length))) (fun σ1 => smP pOm σ σ1 ∧ oM σ1 (L ++ lnL rl h rh))) := by
  have hv := hn.toV
  have hs := hn.2.1.2.1
  have hh1 := hv.1.1.1
  have hh6 := hv.1.1.2
  have hw1 := hv.1.2.1
  have hw6 := hv.1.2.2
  have hp6 := hn.2.1.2.2.2.1.1
  have hr6 := hn.2.1.2.2.2.2.2.2.1
  have hs7 := lw_lt hh6
  have ws7 := lw_lt hw6
  intro uu
  induction uu with
  | zero =>
    intro i τ hi hI
    obtain rfl : rh = i := by omega
    skip
    refine R_iload_n rfl rfl ?_
    refine R_aload_n rfl rfl ?_
    refine R_bipush (v := 13) rfl (by decide) ?_
    refine R_cV (as := [.int 13]) rfl rfl iv_M_get (mget_x (hn.fr hI.1 (fun b => by unfold pOm; omega) (by unfold pOm; omega)) (j := 13) (by omega) (hn.fr hI.1 (fun b => by unfold pOm; omega) (by unfold pOm; omega)).1.2.2.2.2.2.1) (by omega) rfl rfl rfl (by decide) rfl rfl (Nat.le_of_ble_eq_true rfl) (fun _ q => ?_)
    obtain rfl := q.symm
    refine R_nicmp_ge (x := rh) (y := rh) rfl rfl (by omega) (by omega) (fun g1 => ?_) (fun z => by omega)
    refine R_aload_n rfl rfl ?_
    refine R_gIN (n := (L ++ lnL rl h rh).length) rfl rfl fd_11_27 hI.2.1 ?_
    exact T_ireturn rfl rfl (am_oki rfl hI)
  | succ uu ih =>
    intro i τ hi hI
    have hll := @lnL_len rl h i
    have hrl := @rwL_len rl i h
    have hlm : (21 * h + 1) * i ≤ 127 * 5 := Nat.mul_le_mul (by omega) (by omega)
    refine R_iload_n rfl rfl ?_
    refine R_aload_n rfl rfl ?_
    refine R_bipush (v := 13) rfl (by decide) ?_
    refine R_cV (as := [.int 13]) rfl rfl iv_M_get (mget_x (hn.fr hI.1 (fun b => by unfold pOm; omega) (by unfold pOm; omega)) (j := 13) (by omega) (hn.fr hI.1 (fun b => by unfold pOm; omega) (by unfold pOm; omega)).1.2.2.2.2.2.1) (by omega) rfl rfl rfl (by decide) rfl rfl (Nat.le_of_ble_eq_true rfl) (fun _ q => ?_)
    obtain rfl := q.symm
    refine R_nicmp_ge (x := i) (y := rh) rfl rfl (by omega) (by omega) (fun z => by omega) (fun g1 => ?_)
    refine R_iconst (v := 0) rfl rfl ?_
    refine R_istore_n rfl (by decide) ?_
    refine (lp_mwci (L := L ++ lnL rl h i) (r := i) (hn.fr hI.1 (fun b => by unfold pOm; omega) (by unfold pOm; omega)) (by omega) (by rw [List.length_append]; omega) (by omega) (fun τ1 hτ1 => ?_) h 0 τ (by omega) ⟨smP.refl, by rw [show rwL rl i 0 = [] from rfl, List.append_nil]; exact hI.2⟩).weak ⟨rfl, rfl, rfl, trivial⟩
    refine R_aload_n rfl rfl ?_
    refine R_bipush (v := 10) rfl (by decide) ?_
    refine R_cV (as := [.int 10]) rfl rfl iv_M_write (sp_mwrite (x := 10) rfl hτ1.2 (by simp only [List.length_append, List.length_cons, List.length_nil]; omega)) (by omega) rfl rfl rfl (by decide) rfl rfl (Nat.le_of_ble_eq_true rfl) (fun τ2 hτ2 => ?_)
    obtain ⟨pτ2, oτ2⟩ := hτ2
    refine R_iincN (x := i) (m := 1) rfl rfl rfl (by decide) ?_
    refine R_goto rfl rfl ?_
    have e := ih (i + 1) τ2 (by omega) ⟨((hI.1.trans hτ1.1).trans pτ2), by rw [show lnL rl h (i + 1) = lnL rl h i ++ (rwL rl i h ++ [10]) from rfl, ← List.append_assoc, ← List.append_assoc]; exact oτ2⟩
    exact e.weak ⟨rfl, rfl, trivial⟩
set_option maxRecDepth 100000 in
set_option maxHeartbeats 4000000 in
theorem sp_M_writeCertificate_1 {σ : am_G} {h w rh pn : Nat} {f v rl : am_Gr} {I : Nat → Int32} {S T : Nat} (hn : nV σ h w f v rh rl pn I) (h2 : I 2 = nI S) (h3 : I 3 = nI T) (hS : S < 64) (hT : T < 64) : am_Call am_TX 16 0 c_M_writeCertificate [.ref 120] (mm σ) (am_Ok (some (.int (nI ((((([114, 111, 119, 115] ++ stL S 6) ++ [32, 99, 111, 108, 117, 109, 110, 115]) ++ stL T 6) ++ [10]) ++ lnL rl h rh).length))) (fun σ1 => smP pOq σ σ1 ∧ σ1.1 120 0 = 0 ∧ oM σ1 ((((([114, 111, 119, 115] ++ stL S 6) ++ [32, 99, 111, 108, 117, 109, 110, 115]) ++ stL T 6) ++ [10]) ++ lnL rl h rh))) := by
  have hv := hn.toV
  have hs := hn.2.1.2.1
  have hh1 := hv.1.1.1
  have hh6 := hv.1.1.2
  have hw1 := hv.1.2.1
  have hw6 := hv.1.2.2
  have hp6 := hn.2.1.2.2.2.1.1
  have hr6 := hn.2.1.2.2.2.2.2.2.1
  have hs7 := lw_lt hh6
  have ws7 := lw_lt hw6
  have hc2 : ¬ I 2 = -1 := by rw [h2]; exact nI_m1 (by omega)
  refine ⟨mf_M_writeCertificate, Nat.le_of_ble_eq_true rfl, ?_⟩
  refine R_aload_n rfl rfl ?_
  refine R_iconst (v := 0) rfl rfl ?_
  refine R_pI rfl rfl fw_11_0 rfl ?_
  refine R_aload_n rfl rfl ?_
  refine R_iconst (v := 0) rfl rfl ?_
  refine R_pI rfl rfl fw_11_27 rfl ?_
  refine R_aload_n rfl rfl ?_
  refine R_cV (as := []) rfl rfl iv_M_isClaimed (isClaimed_1 (hn.fr ((smP_sI (p := pOq) (k := 120) (j := 0) (x := 0) (by unfold pOq; omega)).trans (smP_sI (p := pOq) (k := 120) (j := 27) (x := 0) (by unfold pOq; omega))) (fun b => by unfold pOq; omega) (by unfold pOq; omega)) hc2) (by omega) rfl rfl rfl (by decide) rfl rfl (Nat.le_of_ble_eq_true rfl) (fun _ q => ?_)
  obtain rfl := q.symm
  refine R_if_eq rfl rfl (fun z => absurd z (by decide)) (fun _ => ?_)
  refine R_aload_n rfl rfl ?_
  refine R_ldcSW (i := 27) rfl (List.mem_of_getElem? (i := 27) rfl) ?_
  refine R_cV (as := [.ref (1000 + 27)]) rfl rfl iv_M_writeWord (sp_mwriteWord (q0 := 27) (bs := [114, 111, 119, 115]) (List.mem_of_getElem? (i := 7) rfl) oM_nil (by simp only [List.length_append, List.length_cons, List.length_nil, List.nil_append]; omega)) (by omega) rfl rfl rfl (by decide) rfl rfl (Nat.le_of_ble_eq_true rfl) (fun τ2 hτ2 => ?_)
  obtain ⟨pτ2, oτ2⟩ := hτ2
  refine R_aload_n rfl rfl ?_
  refine R_aload_n rfl rfl ?_
  refine R_bipush (v := 11) rfl (by decide) ?_
  refine R_cV (as := [.int 11]) rfl rfl iv_M_get ((by have z := mget_11 (hn.fr (((smP_sI (p := pOq) (k := 120) (j := 0) (x := 0) (by unfold pOq; omega)).trans (smP_sI (p := pOq) (k := 120) (j := 27) (x := 0) (by unfold pOq; omega))).trans (pτ2.mono (q := pOq) (fun a b => by unfold pOm pOq; omega))) (fun b => by unfold pOq; omega) (by unfold pOq; omega)) hc2; rw [h2] at z; exact z)) (by omega) rfl rfl rfl (by decide) rfl rfl (Nat.le_of_ble_eq_true rfl) (fun _ q => ?_)
  obtain rfl := q.symm
  refine R_cV (as := [.int (nI S)]) rfl rfl iv_M_writeSet (sp_mwriteSet (S := S) oτ2 (by omega) (by simp only [List.length_append, List.length_cons, List.length_nil, List.nil_append]; omega)) (by omega) rfl rfl rfl (by decide) rfl rfl (Nat.le_of_ble_eq_true rfl) (fun τ5 hτ5 => ?_)
  obtain ⟨pτ5, oτ5⟩ := hτ5
  have hlS := @stL_12 S 6 (by omega)
  refine R_aload_n rfl rfl ?_
  refine R_ldcSW (i := 28) rfl (List.mem_of_getElem? (i := 28) rfl) ?_
  refine R_cV (as := [.ref (1000 + 28)]) rfl rfl iv_M_writeWord (sp_mwriteWord (q0 := 28) (bs := [32, 99, 111, 108, 117, 109, 110, 115]) (List.mem_of_getElem? (i := 8) rfl) oτ5 (by simp only [List.length_append, List.length_cons, List.length_nil, List.nil_append]; omega)) (by omega) rfl rfl rfl (by decide) rfl rfl (Nat.le_of_ble_eq_true rfl) (fun τ7 hτ7 => ?_)
  obtain ⟨pτ7, oτ7⟩ := hτ7
  refine R_aload_n rfl rfl ?_
  refine R_aload_n rfl rfl ?_
  refine R_bipush (v := 12) rfl (by decide) ?_
  refine R_cV (as := [.int 12]) rfl rfl iv_M_get ((by have z := mget_12 (hn.fr (((((smP_sI (p := pOq) (k := 120) (j := 0) (x := 0) (by unfold pOq; omega)).trans (smP_sI (p := pOq) (k := 120) (j := 27) (x := 0) (by unfold pOq; omega))).trans (pτ2.mono (q := pOq) (fun a b => by unfold pOm pOq; omega))).trans (pτ5.mono (q := pOq) (fun a b => by unfold pOm pOq; omega))).trans (pτ7.mono (q := pOq) (fun a b => by unfold pOm pOq; omega))) (fun b => by unfold pOq; omega) (by unfold pOq; omega)) hc2; rw [h3] at z; exact z)) (by omega) rfl rfl rfl (by decide) rfl rfl (Nat.le_of_ble_eq_true rfl) (fun _ q => ?_)
  obtain rfl := q.symm
  refine R_cV (as := [.int (nI T)]) rfl rfl iv_M_writeSet (sp_mwriteSet (S := T) oτ7 (by omega) (by simp only [List.length_append, List.length_cons, List.length_nil, List.nil_append]; omega)) (by omega) rfl rfl rfl (by decide) rfl rfl (Nat.le_of_ble_eq_true rfl) (fun τ10 hτ10 => ?_)
  obtain ⟨pτ10, oτ10⟩ := hτ10
  have hlT := @stL_12 T 6 (by omega)
  refine R_aload_n rfl rfl ?_
  refine R_bipush (v := 10) rfl (by decide) ?_
  refine R_cV (as := [.int 10]) rfl rfl iv_M_write (sp_mwrite (x := 10) rfl oτ10 (by simp only [List.length_append, List.length_cons, List.length_nil, List.nil_append]; omega)) (by omega) rfl rfl rfl (by decide) rfl rfl (Nat.le_of_ble_eq_true rfl) (fun τ12 hτ12 => ?_)
  obtain ⟨pτ12, oτ12⟩ := hτ12
  refine R_iconst (v := 0) rfl rfl ?_
  refine R_istore_n rfl (by decide) ?_
  have oo := oτ12
  rw [List.nil_append] at oo
  exact (am_R.mono (lp_mwco (σ := τ12) (L := (((([114, 111, 119, 115] ++ stL S 6) ++ [32, 99, 111, 108, 117, 109, 110, 115]) ++ stL T 6) ++ [10])) (hn.fr (((((((smP_sI (p := pOq) (k := 120) (j := 0) (x := 0) (by unfold pOq; omega)).trans (smP_sI (p := pOq) (k := 120) (j := 27) (x := 0) (by unfold pOq; omega))).trans (pτ2.mono (q := pOq) (fun a b => by unfold pOm pOq; omega))).trans (pτ5.mono (q := pOq) (fun a b => by unfold pOm pOq; omega))).trans (pτ7.mono (q := pOq) (fun a b => by unfold pOm pOq; omega))).trans (pτ10.mono (q := pOq) (fun a b => by unfold pOm pOq; omega))).trans (pτ12.mono (q := pOq) (fun a b => by unfold pOm pOq; omega))) (fun b => by unfold pOq; omega) (by unfold pOq; omega)) (by simp only [List.length_append, List.length_cons, List.length_nil, List.nil_append]; omega) (by omega) rh 0 _ (by omega) ⟨smP.refl, by rw [show lnL rl h 0 = [] from rfl, List.append_nil]; exact oo⟩) (am_Ok.mono fun σ1 z => ⟨(((((((smP_sI (p := pOq) (k := 120) (j := 0) (x := 0) (by unfold pOq; omega)).trans (smP_sI (p := pOq) (k := 120) (j := 27) (x := 0) (by unfold pOq; omega))).trans (pτ2.mono (q := pOq) (fun a b => by unfold pOm pOq; omega))).trans (pτ5.mono (q := pOq) (fun a b => by unfold pOm pOq; omega))).trans (pτ7.mono (q := pOq) (fun a b => by unfold pOm pOq; omega))).trans (pτ10.mono (q := pOq) (fun a b => by unfold pOm pOq; omega))).trans (pτ12.mono (q := pOq) (fun a b => by unfold pOm pOq; omega))).trans (z.1.mono pOq_O), (z.1.i (by unfold pOm; omega)).trans ((pτ12.i (by unfold pOm; omega)).trans ((pτ10.i (by unfold pOm; omega)).trans ((pτ7.i (by unfold pOm; omega)).trans ((pτ5.i (by unfold pOm; omega)).trans ((pτ2.i (by unfold pOm; omega)).trans ((sI_o (Or.inr (by decide))).trans sI_s)))))), z.2⟩)).weak ⟨rfl, rfl, trivial⟩
set_option maxRecDepth 100000 in
set_option maxHeartbeats 4000000 in
theorem sp_M_writeCertificate_0 {σ : am_G} {h w rh pn : Nat} {f v rl : am_Gr} {I : Nat → Int32} (hn : nV σ h w f v rh rl pn I) (h2 : I 2 = -1) : am_Call am_TX 16 0 c_M_writeCertificate [.ref 120] (mm σ) (am_Ok (some (.int (nI ([10] ++ lnL rl h rh).length))) (fun σ1 => smP pOq σ σ1 ∧ σ1.1 120 0 = 0 ∧ oM σ1 ([10] ++ lnL rl h rh))) := by
  have hv := hn.toV
  have hs := hn.2.1.2.1
  have hh1 := hv.1.1.1
  have hh6 := hv.1.1.2
  have hw1 := hv.1.2.1
  have hw6 := hv.1.2.2
  have hp6 := hn.2.1.2.2.2.1.1
  have hr6 := hn.2.1.2.2.2.2.2.2.1
  have hs7 := lw_lt hh6
  have ws7 := lw_lt hw6
  refine ⟨mf_M_writeCertificate, Nat.le_of_ble_eq_true rfl, ?_⟩
  refine R_aload_n rfl rfl ?_
  refine R_iconst (v := 0) rfl rfl ?_
  refine R_pI rfl rfl fw_11_0 rfl ?_
  refine R_aload_n rfl rfl ?_
  refine R_iconst (v := 0) rfl rfl ?_
  refine R_pI rfl rfl fw_11_27 rfl ?_
  refine R_aload_n rfl rfl ?_
  refine R_cV (as := []) rfl rfl iv_M_isClaimed (isClaimed_0 (hn.fr ((smP_sI (p := pOq) (k := 120) (j := 0) (x := 0) (by unfold pOq; omega)).trans (smP_sI (p := pOq) (k := 120) (j := 27) (x := 0) (by unfold pOq; omega))) (fun b => by unfold pOq; omega) (by unfold pOq; omega)) h2) (by omega) rfl rfl rfl (by decide) rfl rfl (Nat.le_of_ble_eq_true rfl) (fun _ q => ?_)
  obtain rfl := q.symm
  refine R_if_eq rfl rfl (fun _ => ?_) (fun z => absurd z (by decide))
  refine R_aload_n rfl rfl ?_
  refine R_bipush (v := 10) rfl (by decide) ?_
  refine R_cV (as := [.int 10]) rfl rfl iv_M_write (sp_mwrite (x := 10) rfl oM_nil (by simp only [List.length_append, List.length_cons, List.length_nil, List.nil_append]; omega)) (by omega) rfl rfl rfl (by decide) rfl rfl (Nat.le_of_ble_eq_true rfl) (fun τ2 hτ2 => ?_)
  obtain ⟨pτ2, oτ2⟩ := hτ2
  refine R_iconst (v := 0) rfl rfl ?_
  refine R_istore_n rfl (by decide) ?_
  have oo := oτ2
  rw [List.nil_append] at oo
  exact (am_R.mono (lp_mwco (σ := τ2) (L := [10]) (hn.fr (((smP_sI (p := pOq) (k := 120) (j := 0) (x := 0) (by unfold pOq; omega)).trans (smP_sI (p := pOq) (k := 120) (j := 27) (x := 0) (by unfold pOq; omega))).trans (pτ2.mono (q := pOq) (fun a b => by unfold pOm pOq; omega))) (fun b => by unfold pOq; omega) (by unfold pOq; omega)) (by simp only [List.length_append, List.length_cons, List.length_nil, List.nil_append]; omega) (by omega) rh 0 _ (by omega) ⟨smP.refl, by rw [show lnL rl h 0 = [] from rfl, List.append_nil]; exact oo⟩) (am_Ok.mono fun σ1 z => ⟨(((smP_sI (p := pOq) (k := 120) (j := 0) (x := 0) (by unfold pOq; omega)).trans (smP_sI (p := pOq) (k := 120) (j := 27) (x := 0) (by unfold pOq; omega))).trans (pτ2.mono (q := pOq) (fun a b => by unfold pOm pOq; omega))).trans (z.1.mono pOq_O), (z.1.i (by unfold pOm; omega)).trans ((pτ2.i (by unfold pOm; omega)).trans ((sI_o (Or.inr (by decide))).trans sI_s)), z.2⟩)).weak ⟨rfl, rfl, trivial⟩
