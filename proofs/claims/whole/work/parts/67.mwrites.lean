/-! ===== the model writes its matrix ===== -/
theorem sm_64 {x : Int64} (h : x.toInt.natAbs ≤ 20) : x.toInt32.toInt64 = x := by
  apply Int64.toInt_inj.mp
  rw [Int32.toInt_toInt64, Int64.toInt_toInt32]
  exact Int.bmod_eq_of_le (by omega) (by omega)
def pOw (a b : Nat) : Prop := (a = 120 ∧ (b = 0 ∨ b = 27)) ∨ a = 131
theorem oM_nil {σ : am_G} : oM (sI σ 120 27 0) [] := ⟨sI_s, Nat.zero_le _, fun i x e => by simp at e⟩
theorem mV_ow {σ σ1 : am_G} {h w : Nat} {f : am_Gr} (q : smP pOw σ σ1) (hv : mV σ h w f) : mV σ1 h w f := q.mV hv (fun b => by unfold pOw; omega) (fun b => by unfold pOw; omega) (by unfold pOw; omega)
theorem mV_om {σ σ1 : am_G} {h w : Nat} {f : am_Gr} (q : smP pOm σ σ1) (hv : mV σ h w f) : mV σ1 h w f := q.mV hv (fun b => by unfold pOm; omega) (fun b => by unfold pOm; omega) (by unfold pOm; omega)
set_option maxRecDepth 100000 in
set_option maxHeartbeats 4000000 in
theorem lp_mwmi {σ : am_G} {h w r : Nat} {f : am_Gr} {L : List Int32} {d k0 : Nat} {Q : am_Res → Prop} (hv : mV σ h w f) (hs : fSm f h w) (hr : r < h) (hL : L.length + 21 * w ≤ 1000) (hd : 3 ≤ d) (hx : ∀ (τ : am_G), (smP pOm σ τ ∧ oM τ (L ++ rwL f r w)) → am_R am_TX d k0 c_M_writeMatrix 57 [some (.ref 120), some (.int (nI r)), some (.int (nI w))] [] (mm τ) Q) : ∀ (uu i : Nat) (τ : am_G), i + uu = w → (smP pOm σ τ ∧ oM τ (L ++ rwL f r i)) → am_R am_TX d k0 c_M_writeMatrix 22 [some (.ref 120), some (.int (nI r)), some (.int (nI i))] [] (mm τ) Q := by
  have hh6 := hv.1.1.2
  have hw6 := hv.1.2.2
  intro uu
  induction uu with
  | zero =>
    intro i τ hi hI
    obtain rfl : w = i := by omega
    skip
    refine R_iload_n rfl rfl ?_
    refine R_aload_n rfl rfl ?_
    refine R_cV (as := []) rfl rfl iv_M_columns (sp_columns (mV_om hI.1 hv)) (by omega) rfl rfl rfl (by decide) rfl rfl (Nat.le_of_ble_eq_true rfl) (fun _ q => ?_)
    obtain rfl := q.symm
    refine R_nicmp_ge (x := w) (y := w) rfl rfl (by omega) (by omega) (fun h1 => ?_) (fun z => by omega)
    exact hx τ hI
  | succ uu ih =>
    intro i τ hi hI
    have hrl := @rwL_len f r i
    have h20 := @nuL_len (f r i)
    have h21 := @nuL_len (f r i).toInt32.toInt64
    refine R_iload_n rfl rfl ?_
    refine R_aload_n rfl rfl ?_
    refine R_cV (as := []) rfl rfl iv_M_columns (sp_columns (mV_om hI.1 hv)) (by omega) rfl rfl rfl (by decide) rfl rfl (Nat.le_of_ble_eq_true rfl) (fun _ q => ?_)
    obtain rfl := q.symm
    refine R_nicmp_ge (x := i) (y := w) rfl rfl (by omega) (by omega) (fun z => by omega) (fun h1 => ?_)
    refine R_iload_n rfl rfl ?_
    refine R_nif_le (x := i) rfl rfl (by omega) (fun h2 => ?_) (fun h2 => ?_)
    · refine R_aload_n rfl rfl ?_
      refine R_aload_n rfl rfl ?_
      refine R_iload_n rfl rfl ?_
      refine R_iload_n rfl rfl ?_
      refine R_cV (as := [.int (nI r), .int (nI i)]) rfl rfl iv_M_at (sp_at (i := r) (j := i) (mV_om hI.1 hv) (by omega) (by omega)) (by omega) rfl rfl rfl (by decide) rfl rfl (Nat.le_of_ble_eq_true rfl) (fun _ q => ?_)
      obtain rfl := q.symm
      refine R_i2l rfl ?_
      refine R_cV (as := [.long (((f r i).toInt32).toInt64)]) rfl rfl iv_M_writeNumber (sp_mwriteNumber (v := (((f r i).toInt32).toInt64)) hI.2 (by first | omega | (simp only [List.length_append, List.length_cons, List.length_nil]; omega))) (by omega) rfl rfl rfl (by decide) rfl rfl (Nat.le_of_ble_eq_true rfl) (fun τ3 hτ3 => ?_)
      obtain ⟨pτ3, oτ3⟩ := hτ3
      rw [sm_64 (hs r i (by omega) (by omega))] at oτ3
      refine R_iincN (x := i) (m := 1) rfl rfl rfl (by decide) ?_
      refine R_goto rfl rfl ?_
      have e := ih (i + 1) τ3 (by omega) ⟨(hI.1.trans pτ3), by rw [show rwL f r (i + 1) = rwL f r i ++ ([] ++ nuL (f r i)) from by show rwL f r i ++ ((if 0 < i then [32] else []) ++ nuL (f r i)) = _; rw [if_neg (by omega)]]; have o := oτ3; simp only [List.append_assoc, List.nil_append] at o ⊢; exact o⟩
      exact e.weak ⟨rfl, rfl, rfl, trivial⟩
    · refine R_aload_n rfl rfl ?_
      refine R_bipush (v := 32) rfl (by decide) ?_
      refine R_cV (as := [.int 32]) rfl rfl iv_M_write (sp_mwrite (x := 32) rfl hI.2 (by first | omega | (simp only [List.length_append, List.length_cons, List.length_nil]; omega))) (by omega) rfl rfl rfl (by decide) rfl rfl (Nat.le_of_ble_eq_true rfl) (fun τ5 hτ5 => ?_)
      obtain ⟨pτ5, oτ5⟩ := hτ5
      refine R_aload_n rfl rfl ?_
      refine R_aload_n rfl rfl ?_
      refine R_iload_n rfl rfl ?_
      refine R_iload_n rfl rfl ?_
      refine R_cV (as := [.int (nI r), .int (nI i)]) rfl rfl iv_M_at (sp_at (i := r) (j := i) (mV_om (hI.1.trans pτ5) hv) (by omega) (by omega)) (by omega) rfl rfl rfl (by decide) rfl rfl (Nat.le_of_ble_eq_true rfl) (fun _ q => ?_)
      obtain rfl := q.symm
      refine R_i2l rfl ?_
      refine R_cV (as := [.long (((f r i).toInt32).toInt64)]) rfl rfl iv_M_writeNumber (sp_mwriteNumber (v := (((f r i).toInt32).toInt64)) oτ5 (by first | omega | (simp only [List.length_append, List.length_cons, List.length_nil]; omega))) (by omega) rfl rfl rfl (by decide) rfl rfl (Nat.le_of_ble_eq_true rfl) (fun τ8 hτ8 => ?_)
      obtain ⟨pτ8, oτ8⟩ := hτ8
      rw [sm_64 (hs r i (by omega) (by omega))] at oτ8
      refine R_iincN (x := i) (m := 1) rfl rfl rfl (by decide) ?_
      refine R_goto rfl rfl ?_
      have e := ih (i + 1) τ8 (by omega) ⟨((hI.1.trans pτ5).trans pτ8), by rw [show rwL f r (i + 1) = rwL f r i ++ ([32] ++ nuL (f r i)) from by show rwL f r i ++ ((if 0 < i then [32] else []) ++ nuL (f r i)) = _; rw [if_pos (by omega)]]; have o := oτ8; simp only [List.append_assoc, List.nil_append] at o ⊢; exact o⟩
      exact e.weak ⟨rfl, rfl, rfl, trivial⟩
set_option maxRecDepth 100000 in
set_option maxHeartbeats 4000000 in
theorem lp_mwmo {σ : am_G} {h w : Nat} {f : am_Gr} {d k0 : Nat} (hv : mV σ h w f) (hs : fSm f h w) (hd : 3 ≤ d)  : ∀ (uu i : Nat) (τ : am_G), i + uu = h → (smP pOm σ τ ∧ oM τ (lnL f w i)) → am_R am_TX d k0 c_M_writeMatrix 12 [some (.ref 120), some (.int (nI i)), none] [] (mm τ) (am_Ok (some (.int (nI (lnL f w h).length))) (fun σ1 => smP pOm σ σ1 ∧ oM σ1 (lnL f w h))) := by
  have hh6 := hv.1.1.2
  have hw6 := hv.1.2.2
  intro uu
  induction uu with
  | zero =>
    intro i τ hi hI
    obtain rfl : h = i := by omega
    skip
    refine R_iload_n rfl rfl ?_
    refine R_aload_n rfl rfl ?_
    refine R_cV (as := []) rfl rfl iv_M_rows (sp_rows (mV_om hI.1 hv)) (by omega) rfl rfl rfl (by decide) rfl rfl (Nat.le_of_ble_eq_true rfl) (fun _ q => ?_)
    obtain rfl := q.symm
    refine R_nicmp_ge (x := h) (y := h) rfl rfl (by omega) (by omega) (fun h1 => ?_) (fun z => by omega)
    refine R_aload_n rfl rfl ?_
    refine R_gIN (n := (lnL f w h).length) rfl rfl fd_11_27 hI.2.1 ?_
    exact T_ireturn rfl rfl (am_oki rfl hI)
  | succ uu ih =>
    intro i τ hi hI
    have hll := @lnL_len f w i
    have hrl := @rwL_len f i w
    have hlm : (21 * w + 1) * i ≤ 127 * 5 := Nat.mul_le_mul (by omega) (by omega)
    refine R_iload_n rfl rfl ?_
    refine R_aload_n rfl rfl ?_
    refine R_cV (as := []) rfl rfl iv_M_rows (sp_rows (mV_om hI.1 hv)) (by omega) rfl rfl rfl (by decide) rfl rfl (Nat.le_of_ble_eq_true rfl) (fun _ q => ?_)
    obtain rfl := q.symm
    refine R_nicmp_ge (x := i) (y := h) rfl rfl (by omega) (by omega) (fun z => by omega) (fun h1 => ?_)
    refine R_iconst (v := 0) rfl rfl ?_
    refine R_istore_n rfl (by decide) ?_
    refine (lp_mwmi (L := lnL f w i) (r := i) (mV_om hI.1 hv) hs (by omega) (by omega) (by omega) (fun τ1 hτ1 => ?_) w 0 τ (by omega) ⟨smP.refl, by rw [show rwL f i 0 = [] from rfl, List.append_nil]; exact hI.2⟩).weak ⟨rfl, rfl, rfl, trivial⟩
    refine R_aload_n rfl rfl ?_
    refine R_bipush (v := 10) rfl (by decide) ?_
    refine R_cV (as := [.int 10]) rfl rfl iv_M_write (sp_mwrite (x := 10) rfl hτ1.2 (by first | omega | (simp only [List.length_append, List.length_cons, List.length_nil]; omega))) (by omega) rfl rfl rfl (by decide) rfl rfl (Nat.le_of_ble_eq_true rfl) (fun τ2 hτ2 => ?_)
    obtain ⟨pτ2, oτ2⟩ := hτ2
    refine R_iincN (x := i) (m := 1) rfl rfl rfl (by decide) ?_
    refine R_goto rfl rfl ?_
    have e := ih (i + 1) τ2 (by omega) ⟨((hI.1.trans hτ1.1).trans pτ2), by rw [show lnL f w (i + 1) = lnL f w i ++ (rwL f i w ++ [10]) from rfl, ← List.append_assoc]; exact oτ2⟩
    exact e.weak ⟨rfl, rfl, trivial⟩
set_option maxRecDepth 100000 in
set_option maxHeartbeats 4000000 in
theorem sp_M_writeMatrix {σ : am_G} {h w : Nat} {f : am_Gr} (hv : mV σ h w f) (hs : fSm f h w) : am_Call am_TX 5 0 c_M_writeMatrix [.ref 120] (mm σ) (am_Ok (some (.int (nI (lnL f w h).length))) (fun σ1 => smP pOw σ σ1 ∧ σ1.1 120 0 = 0 ∧ oM σ1 (lnL f w h))) := by
  have hh6 := hv.1.1.2
  have hw6 := hv.1.2.2
  refine ⟨mf_M_writeMatrix, Nat.le_of_ble_eq_true rfl, ?_⟩
  refine R_aload_n rfl rfl ?_
  refine R_iconst (v := 0) rfl rfl ?_
  refine R_pI rfl rfl fw_11_0 rfl ?_
  refine R_aload_n rfl rfl ?_
  refine R_iconst (v := 0) rfl rfl ?_
  refine R_pI rfl rfl fw_11_27 rfl ?_
  refine R_iconst (v := 0) rfl rfl ?_
  refine R_istore_n rfl (by decide) ?_
  have q0 : smP pOw σ (sI (sI σ 120 0 0) 120 27 0) := (smP_sI (Or.inl ⟨rfl, Or.inl rfl⟩)).trans (smP_sI (Or.inl ⟨rfl, Or.inr rfl⟩))
  exact (am_R.mono (lp_mwmo (mV_ow q0 hv) hs (by omega) h 0 _ (by omega) ⟨smP.refl, oM_nil⟩) (am_Ok.mono fun σ1 z => ⟨q0.trans (z.1.mono (fun a b => by unfold pOm pOw; omega)), (z.1.i (by unfold pOm; omega)).trans ((sI_o (Or.inr (by decide))).trans sI_s), z.2⟩)).weak ⟨rfl, rfl, trivial⟩
