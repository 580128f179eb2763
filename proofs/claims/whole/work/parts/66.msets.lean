/-! ===== the model writes sets, words ===== -/
theorem sl_b70 : ∀ q ∈ am_SL, ∀ j, j < 9 → j < q.2.length → (q.2.getD j 0).toInt8.toInt32 = q.2.getD j 0 := by decide +kernel
theorem sl_b7 {i j : Nat} {bs : List Int32} (hi : (i, bs) ∈ am_SL) (hj : j < bs.length) : b7 (bs.getD j 0) := sl_b70 _ hi j (Nat.lt_trans hj (sl_b _ hi)) hj
set_option maxRecDepth 100000 in
set_option maxHeartbeats 4000000 in
theorem lp_mset {σ : am_G} {S : Nat} {L : List Int32} {d k0 : Nat} (hS : S < 64) (hL : L.length + 126 ≤ 1000) (hd : 3 ≤ d)  : ∀ (uu i : Nat) (τ : am_G), i + uu = 6 → (smP pOm σ τ ∧ oM τ (L ++ stL S i)) → am_R am_TX d k0 c_M_writeSet 2 [some (.ref 120), some (.int (nI S)), some (.int (nI i))] [] (mm τ) (am_Ok none (fun σ1 => smP pOm σ σ1 ∧ oM σ1 (L ++ stL S 6))) := by
  intro uu
  induction uu with
  | zero =>
    intro i τ hi hI
    obtain rfl : 6 = i := by omega
    skip
    refine R_iload_n rfl rfl ?_
    refine R_bipush (v := 6) rfl (by decide) ?_
    refine R_nicmp_ge (x := 6) (y := 6) rfl rfl (by omega) (by omega) (fun h1 => ?_) (fun z => by omega)
    exact T_return rfl rfl (am_okv0 hI)
  | succ uu ih =>
    intro i τ hi hI
    have hsl := @stL_len S i
    refine R_iload_n rfl rfl ?_
    refine R_bipush (v := 6) rfl (by decide) ?_
    refine R_nicmp_ge (x := i) (y := 6) rfl rfl (by omega) (by omega) (fun z => by omega) (fun h1 => ?_)
    refine R_iload_n rfl rfl ?_
    refine R_iload_n rfl rfl ?_
    refine R_cS (as := [.int (nI S), .int (nI i)]) rfl rfl iv_M_has (sp_mhas (s := S) (k := i) (by first | assumption | exact lw_lt (by omega) | exact wi_lt (by first | assumption | omega) (by omega) | exact wo_lt (by first | assumption | omega) (by omega) | omega) (by omega)) (by omega) rfl rfl rfl rfl (Nat.le_of_ble_eq_true rfl) (fun _ q => ?_)
    obtain rfl := q.symm
    refine R_zif_ne rfl rfl (fun h2 => ?_) (fun h2 => ?_)
    · refine R_aload_n rfl rfl ?_
      refine R_bipush (v := 32) rfl (by decide) ?_
      refine R_cV (as := [.int 32]) rfl rfl iv_M_write (sp_mwrite (x := 32) rfl hI.2 (by first | omega | (simp only [List.length_append, List.length_cons, List.length_nil]; omega))) (by omega) rfl rfl rfl (by decide) rfl rfl (Nat.le_of_ble_eq_true rfl) (fun τ2 hτ2 => ?_)
      obtain ⟨pτ2, oτ2⟩ := hτ2
      refine R_aload_n rfl rfl ?_
      refine R_iload_n rfl rfl ?_
      refine R_i2l rfl ?_
      refine R_cV (as := [.long ((nI i).toInt64)]) rfl rfl iv_M_writeNumber (sp_mwriteNumber (v := ((nI i).toInt64)) oτ2 (by first | omega | (simp only [List.length_append, List.length_cons, List.length_nil]; omega))) (by omega) rfl rfl rfl (by decide) rfl rfl (Nat.le_of_ble_eq_true rfl) (fun τ4 hτ4 => ?_)
      obtain ⟨pτ4, oτ4⟩ := hτ4
      refine R_iincN (x := i) (m := 1) rfl rfl rfl (by decide) ?_
      refine R_goto rfl rfl ?_
      have e := ih (i + 1) τ4 (by omega) ⟨((hI.1.trans pτ2).trans pτ4), by rw [show stL S (i + 1) = stL S i ++ (32 :: nuL (nI i).toInt64) from by simp only [stL]; exact if_pos h2, ← List.append_assoc, List.append_cons]; exact oτ4⟩
      exact e.weak ⟨rfl, rfl, rfl, trivial⟩
    · refine R_goto rfl rfl ?_
      refine R_iincN (x := i) (m := 1) rfl rfl rfl (by decide) ?_
      refine R_goto rfl rfl ?_
      have e := ih (i + 1) τ (by omega) ⟨hI.1, by rw [show stL S (i + 1) = stL S i from by simp only [stL]; exact if_neg h2]; exact hI.2⟩
      exact e.weak ⟨rfl, rfl, rfl, trivial⟩
set_option maxRecDepth 100000 in
set_option maxHeartbeats 4000000 in
theorem sp_mwriteSet {σ : am_G} {L : List Int32} {S : Nat} (h : oM σ L) (hS : S < 64) (hl : L.length + 126 ≤ 1000) : am_Call am_TX 3 0 c_M_writeSet [.ref 120, .int (nI S)] (mm σ) (am_Ok none (fun σ1 => smP pOm σ σ1 ∧ oM σ1 (L ++ stL S 6))) := by
  refine ⟨mf_M_writeSet, Nat.le_of_ble_eq_true rfl, ?_⟩
  refine R_iconst (v := 0) rfl rfl ?_
  refine R_istore_n rfl (by decide) ?_
  exact (lp_mset hS hl (by omega) 6 0 σ (by omega) ⟨smP.refl, by rw [show stL S 0 = [] from rfl, List.append_nil]; exact h⟩).weak ⟨rfl, rfl, rfl, trivial⟩
set_option maxRecDepth 100000 in
set_option maxHeartbeats 4000000 in
theorem lp_mwrd {σ : am_G} {L : List Int32} {q0 : Nat} {bs : List Int32} {d k0 : Nat} (hs : (q0, bs) ∈ am_SL) (hL : L.length + bs.length ≤ 1000) (hd : 4 ≤ d)  : ∀ (uu i : Nat) (τ : am_G), i + uu = bs.length → (smP pOm σ τ ∧ oM τ (L ++ bs.take i)) → am_R am_TX d k0 c_M_writeWord 2 [some (.ref 120), some (.ref (1000 + q0)), some (.int (nI i))] [] (mm τ) (am_Ok none (fun σ1 => smP pOm σ σ1 ∧ oM σ1 (L ++ bs))) := by
  have h9 := sl_b _ hs
  simp only at h9
  intro uu
  induction uu with
  | zero =>
    intro i τ hi hI
    obtain rfl : bs.length = i := by omega
    refine R_iload_n rfl rfl ?_
    refine R_aload_n rfl rfl ?_
    refine R_cT (i := q0) (as := []) rfl rfl iv_JString_length (sp_slength hs) (by omega) rfl rfl hs rfl rfl (Nat.le_of_ble_eq_true rfl) (fun _ q => ?_)
    obtain rfl := q.symm
    refine R_nicmp_ge (x := bs.length) (y := bs.length) rfl rfl (by omega) (by omega) (fun h1 => ?_) (fun z => by omega)
    exact T_return rfl rfl (am_okv0 ⟨hI.1, by rw [List.take_length] at hI; exact hI.2⟩)
  | succ uu ih =>
    intro i τ hi hI
    refine R_iload_n rfl rfl ?_
    refine R_aload_n rfl rfl ?_
    refine R_cT (i := q0) (as := []) rfl rfl iv_JString_length (sp_slength hs) (by omega) rfl rfl hs rfl rfl (Nat.le_of_ble_eq_true rfl) (fun _ q => ?_)
    obtain rfl := q.symm
    refine R_nicmp_ge (x := i) (y := bs.length) rfl rfl (by omega) (by omega) (fun z => by omega) (fun h1 => ?_)
    refine R_aload_n rfl rfl ?_
    refine R_aload_n rfl rfl ?_
    refine R_iload_n rfl rfl ?_
    refine R_cT (i := q0) (as := [.int (nI i)]) rfl rfl iv_JString_charAt (sp_charAt (j := i) hs (by omega)) (by omega) rfl rfl hs rfl rfl (Nat.le_of_ble_eq_true rfl) (fun _ q => ?_)
    obtain rfl := q.symm
    refine R_cV (as := [.int (bs.getD i 0)]) rfl rfl iv_M_write (sp_mwrite (x := (bs.getD i 0)) (sl_b7 hs (by omega)) hI.2 (by rw [List.length_append, List.length_take]; omega)) (by omega) rfl rfl rfl (by decide) rfl rfl (Nat.le_of_ble_eq_true rfl) (fun τ1 hτ1 => ?_)
    obtain ⟨p1, o1⟩ := hτ1
    refine R_iincN (x := i) (m := 1) rfl rfl rfl (by decide) ?_
    refine R_goto rfl rfl ?_
    have e := ih (i + 1) τ1 (by omega) ⟨hI.1.trans p1, by rw [take_s (by omega), ← List.append_assoc]; exact o1⟩
    exact e.weak ⟨rfl, rfl, rfl, trivial⟩
set_option maxRecDepth 100000 in
set_option maxHeartbeats 4000000 in
theorem sp_mwriteWord {σ : am_G} {L : List Int32} {q0 : Nat} {bs : List Int32} (hs : (q0, bs) ∈ am_SL) (h : oM σ L) (hl : L.length + bs.length ≤ 1000) : am_Call am_TX 4 0 c_M_writeWord [.ref 120, .ref (1000 + q0)] (mm σ) (am_Ok none (fun σ1 => smP pOm σ σ1 ∧ oM σ1 (L ++ bs))) := by
  refine ⟨mf_M_writeWord, Nat.le_of_ble_eq_true rfl, ?_⟩
  refine R_iconst (v := 0) rfl rfl ?_
  refine R_istore_n rfl (by decide) ?_
  exact (lp_mwrd hs hl (by omega) bs.length 0 σ (by omega) ⟨smP.refl, by rw [List.take_zero, List.append_nil]; exact h⟩).weak ⟨rfl, rfl, rfl, trivial⟩
