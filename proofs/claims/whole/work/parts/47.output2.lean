/-! ===== more of the output; the input ===== -/
set_option maxRecDepth 100000 in
set_option maxHeartbeats 4000000 in
theorem lp_set {σ : am_G} {S : Nat} {L : List Int32} {d k0 : Nat} (hS : S < 64) (hL : L.length + 126 ≤ 1000) (hd : 2 ≤ d)  : ∀ (uu i : Nat) (τ : am_G), i + uu = 6 → (smP pO σ τ ∧ oC τ (L ++ stL S i)) → am_R am_TX d k0 c_Output_addSet 2 [some (.ref 14), some (.int (nI S)), some (.int (nI i))] [] (mm τ) (am_Ok none (fun σ1 => smP pO σ σ1 ∧ oC σ1 (L ++ stL S 6))) := by
  intro uu
  induction uu with
  | zero =>
    intro i τ hi hI
    obtain rfl : 6 = i := by omega
    skip
    refine R_iload_n rfl rfl ?_
    refine R_bipush (v := 6) rfl (by decide) ?_
    refine R_nicmp_ge (x := 6) (y := 6) rfl rfl (by omega) (by omega) (fun h1 => ?_) (fun z => by omega)
    exact T_return rfl rfl (am_okv0 hI)
  | succ uu ih =>
    intro i τ hi hI
    have hsl := @stL_len S i
    refine R_iload_n rfl rfl ?_
    refine R_bipush (v := 6) rfl (by decide) ?_
    refine R_nicmp_ge (x := i) (y := 6) rfl rfl (by omega) (by omega) (fun z => by omega) (fun h1 => ?_)
    refine R_iload_n rfl rfl ?_
    refine R_iload_n rfl rfl ?_
    refine R_cN (as := [.int (nI S), .int (nI i)]) rfl rfl iv_D_has (sp_has (s := S) (k := i) (by first | assumption | exact lw_lt (by omega) | exact wi_lt (by first | assumption | omega) (by omega) | exact wo_lt (by first | assumption | omega) (by omega) | omega) (by omega)) (by omega) rfl rfl rfl rfl (Nat.le_of_ble_eq_true rfl) (fun _ q => ?_)
    obtain rfl := q.symm
    refine R_zif_eq rfl rfl (fun h2 => ?_) (fun h2 => ?_)
    · refine R_iincN (x := i) (m := 1) rfl rfl rfl (by decide) ?_
      refine R_goto rfl rfl ?_
      have e := ih (i + 1) τ (by omega) ⟨hI.1, by rw [show stL S (i + 1) = stL S i from by simp only [stL]; exact if_neg h2]; exact hI.2⟩
      exact e.weak ⟨rfl, rfl, rfl, trivial⟩
    · refine R_aload_n rfl rfl ?_
      refine R_bipush (v := 32) rfl (by decide) ?_
      refine R_cV (as := [.int 32]) rfl rfl iv_Output_addByte (sp_addByte (x := 32) hI.2 (by first | omega | (simp only [List.length_append, List.length_cons, List.length_nil]; omega))) (by omega) rfl rfl rfl (by decide) rfl rfl (Nat.le_of_ble_eq_true rfl) (fun τ2 hτ2 => ?_)
      obtain ⟨pτ2, oτ2⟩ := hτ2
      refine R_aload_n rfl rfl ?_
      refine R_iload_n rfl rfl ?_
      refine R_i2l rfl ?_
      refine R_cV (as := [.long ((nI i).toInt64)]) rfl rfl iv_Output_addNumber (sp_addNumber (v := ((nI i).toInt64)) oτ2 (by first | omega | (simp only [List.length_append, List.length_cons, List.length_nil]; omega))) (by omega) rfl rfl rfl (by decide) rfl rfl (Nat.le_of_ble_eq_true rfl) (fun τ4 hτ4 => ?_)
      obtain ⟨pτ4, oτ4⟩ := hτ4
      refine R_iincN (x := i) (m := 1) rfl rfl rfl (by decide) ?_
      refine R_goto rfl rfl ?_
      have e := ih (i + 1) τ4 (by omega) ⟨((hI.1.trans pτ2).trans pτ4), by rw [show stL S (i + 1) = stL S i ++ (32 :: nuL (nI i).toInt64) from by simp only [stL]; exact if_pos h2, ← List.append_assoc, List.append_cons]; exact oτ4⟩
      exact e.weak ⟨rfl, rfl, rfl, trivial⟩
set_option maxRecDepth 100000 in
set_option maxHeartbeats 4000000 in
theorem sp_addSet {σ : am_G} {L : List Int32} {S : Nat} (h : oC σ L) (hS : S < 64) (hl : L.length + 126 ≤ 1000) : am_Call am_TX 2 0 c_Output_addSet [.ref 14, .int (nI S)] (mm σ) (am_Ok none (fun σ1 => smP pO σ σ1 ∧ oC σ1 (L ++ stL S 6))) := by
  refine ⟨mf_Output_addSet, Nat.le_of_ble_eq_true rfl, ?_⟩
  refine R_iconst (v := 0) rfl rfl ?_
  refine R_istore_n rfl (by decide) ?_
  exact (lp_set hS hl (by omega) 6 0 σ (by omega) ⟨smP.refl, by rw [show stL S 0 = [] from rfl, List.append_nil]; exact h⟩).weak ⟨rfl, rfl, rfl, trivial⟩
set_option maxRecDepth 100000 in
set_option maxHeartbeats 4000000 in
theorem lp_lni {σ : am_G} {k h w r : Nat} {f : am_Gr} {L : List Int32} {d k0 : Nat} {Q : am_Res → Prop} (hM : isMat k) (hk : 16 ≤ k) (hv : vM σ k h w f) (hr : r < h) (hL : L.length + 21 * w ≤ 1000) (hd : 2 ≤ d) (hx : ∀ (τ : am_G), (smP pO σ τ ∧ oC τ (L ++ rwL f r w)) → am_R am_TX d k0 c_Output_addLines 46 [some (.ref 14), some (.ref k), some (.int (nI r)), some (.int (nI w))] [] (mm τ) Q) : ∀ (uu i : Nat) (τ : am_G), i + uu = w → (smP pO σ τ ∧ oC τ (L ++ rwL f r i)) → am_R am_TX d k0 c_Output_addLines 12 [some (.ref 14), some (.ref k), some (.int (nI r)), some (.int (nI i))] [] (mm τ) Q := by
  have hh6 := hv.1.2
  have hw6 := hv.2.1.2
  intro uu
  induction uu with
  | zero =>
    intro i τ hi hI
    obtain rfl : w = i := by omega
    skip
    refine R_iload_n rfl rfl ?_
    refine R_aload_n rfl rfl ?_
    refine R_gIN (n := w) rfl hM.1 fd_4_1 (hI.1.vM hv (fun b => by unfold pO; omega) (fun b => by unfold pO; omega)).2.1.1 ?_
    refine R_nicmp_ge (x := w) (y := w) rfl rfl (by omega) (by omega) (fun h1 => ?_) (fun z => by omega)
    exact hx τ hI
  | succ uu ih =>
    intro i τ hi hI
    have hrl := @rwL_len f r i
    have h20 := @nuL_len (f r i)
    refine R_iload_n rfl rfl ?_
    refine R_aload_n rfl rfl ?_
    refine R_gIN (n := w) rfl hM.1 fd_4_1 (hI.1.vM hv (fun b => by unfold pO; omega) (fun b => by unfold pO; omega)).2.1.1 ?_
    refine R_nicmp_ge (x := i) (y := w) rfl rfl (by omega) (by omega) (fun z => by omega) (fun h1 => ?_)
    refine R_iload_n rfl rfl ?_
    refine R_nif_le (x := i) rfl rfl (by omega) (fun h2 => ?_) (fun h2 => ?_)
    · refine R_aload_n rfl rfl ?_
      refine R_aload_n rfl rfl ?_
      refine R_iload_n rfl rfl ?_
      refine R_iload_n rfl rfl ?_
      refine R_cV (as := [.int (nI r), .int (nI i)]) rfl rfl iv_Matrix_at ((by have z := sp_Matrix_at (σ := τ) (k := k) (i := r) (j := i) hM (by omega) (by omega); rw [((hI.1.vM hv (fun b => by unfold pO; omega) (fun b => by unfold pO; omega))).at (by omega) (by omega)] at z; exact z)) (by omega) rfl rfl hM.1 (by decide) rfl rfl (Nat.le_of_ble_eq_true rfl) (fun _ q => ?_)
      obtain rfl := q.symm
      refine R_cV (as := [.long (f r i)]) rfl rfl iv_Output_addNumber (sp_addNumber (v := (f r i)) hI.2 (by first | omega | (simp only [List.length_append, List.length_cons, List.length_nil]; omega))) (by omega) rfl rfl rfl (by decide) rfl rfl (Nat.le_of_ble_eq_true rfl) (fun τ2 hτ2 => ?_)
      obtain ⟨pτ2, oτ2⟩ := hτ2
      refine R_iincN (x := i) (m := 1) rfl rfl rfl (by decide) ?_
      refine R_goto rfl rfl ?_
      have e := ih (i + 1) τ2 (by omega) ⟨(hI.1.trans pτ2), by rw [show rwL f r (i + 1) = rwL f r i ++ ([] ++ nuL (f r i)) from by show rwL f r i ++ ((if 0 < i then [32] else []) ++ nuL (f r i)) = _; rw [if_neg (by omega)]]; have o := oτ2; simp only [List.append_assoc, List.nil_append] at o ⊢; exact o⟩
      exact e.weak ⟨rfl, rfl, rfl, rfl, trivial⟩
    · refine R_aload_n rfl rfl ?_
      refine R_bipush (v := 32) rfl (by decide) ?_
      refine R_cV (as := [.int 32]) rfl rfl iv_Output_addByte (sp_addByte (x := 32) hI.2 (by first | omega | (simp only [List.length_append, List.length_cons, List.length_nil]; omega))) (by omega) rfl rfl rfl (by decide) rfl rfl (Nat.le_of_ble_eq_true rfl) (fun τ4 hτ4 => ?_)
      obtain ⟨pτ4, oτ4⟩ := hτ4
      refine R_aload_n rfl rfl ?_
      refine R_aload_n rfl rfl ?_
      refine R_iload_n rfl rfl ?_
      refine R_iload_n rfl rfl ?_
      refine R_cV (as := [.int (nI r), .int (nI i)]) rfl rfl iv_Matrix_at ((by have z := sp_Matrix_at (σ := τ4) (k := k) (i := r) (j := i) hM (by omega) (by omega); rw [(((hI.1.trans pτ4).vM hv (fun b => by unfold pO; omega) (fun b => by unfold pO; omega))).at (by omega) (by omega)] at z; exact z)) (by omega) rfl rfl hM.1 (by decide) rfl rfl (Nat.le_of_ble_eq_true rfl) (fun _ q => ?_)
      obtain rfl := q.symm
      refine R_cV (as := [.long (f r i)]) rfl rfl iv_Output_addNumber (sp_addNumber (v := (f r i)) oτ4 (by first | omega | (simp only [List.length_append, List.length_cons, List.length_nil]; omega))) (by omega) rfl rfl rfl (by decide) rfl rfl (Nat.le_of_ble_eq_true rfl) (fun τ7 hτ7 => ?_)
      obtain ⟨pτ7, oτ7⟩ := hτ7
      refine R_iincN (x := i) (m := 1) rfl rfl rfl (by decide) ?_
      refine R_goto rfl rfl ?_
      have e := ih (i + 1) τ7 (by omega) ⟨((hI.1.trans pτ4).trans pτ7), by rw [show rwL f r (i + 1) = rwL f r i ++ ([32] ++ nuL (f r i)) from by show rwL f r i ++ ((if 0 < i then [32] else []) ++ nuL (f r i)) = _; rw [if_pos (by omega)]]; have o := oτ7; simp only [List.append_assoc, List.nil_append] at o ⊢; exact o⟩
      exact e.weak ⟨rfl, rfl, rfl, rfl, trivial⟩
set_option maxRecDepth 100000 in
set_option maxHeartbeats 4000000 in
theorem lp_lno {σ : am_G} {k h w : Nat} {f : am_Gr} {L : List Int32} {d k0 : Nat} (hM : isMat k) (hk : 16 ≤ k) (hv : vM σ k h w f) (hL : L.length + 762 ≤ 1000) (hd : 2 ≤ d)  : ∀ (uu i : Nat) (τ : am_G), i + uu = h → (smP pO σ τ ∧ oC τ (L ++ lnL f w i)) → am_R am_TX d k0 c_Output_addLines 2 [some (.ref 14), some (.ref k), some (.int (nI i)), none] [] (mm τ) (am_Ok none (fun σ1 => smP pO σ σ1 ∧ oC σ1 (L ++ lnL f w h))) := by
  have hh6 := hv.1.2
  have hw6 := hv.2.1.2
  intro uu
  induction uu with
  | zero =>
    intro i τ hi hI
    obtain rfl : h = i := by omega
    skip
    refine R_iload_n rfl rfl ?_
    refine R_aload_n rfl rfl ?_
    refine R_gIN (n := h) rfl hM.1 fd_4_0 (hI.1.vM hv (fun b => by unfold pO; omega) (fun b => by unfold pO; omega)).1.1 ?_
    refine R_nicmp_ge (x := h) (y := h) rfl rfl (by omega) (by omega) (fun h1 => ?_) (fun z => by omega)
    exact T_return rfl rfl (am_okv0 hI)
  | succ uu ih =>
    intro i τ hi hI
    have hrl := @rwL_len f i w
    have hll := @lnL_len f w i
    have hlm : (21 * w + 1) * i ≤ 127 * 5 := Nat.mul_le_mul (by omega) (by omega)
    refine R_iload_n rfl rfl ?_
    refine R_aload_n rfl rfl ?_
    refine R_gIN (n := h) rfl hM.1 fd_4_0 (hI.1.vM hv (fun b => by unfold pO; omega) (fun b => by unfold pO; omega)).1.1 ?_
    refine R_nicmp_ge (x := i) (y := h) rfl rfl (by omega) (by omega) (fun z => by omega) (fun h1 => ?_)
    refine R_iconst (v := 0) rfl rfl ?_
    refine R_istore_n rfl (by decide) ?_
    refine (lp_lni (L := L ++ lnL f w i) (r := i) hM hk (hI.1.vM hv (fun b => by unfold pO; omega) (fun b => by unfold pO; omega)) (by omega) (by rw [List.length_append]; omega) (by omega) (fun τ1 hτ1 => ?_) w 0 τ (by omega) ⟨smP.refl, by rw [show rwL f i 0 = [] from rfl, List.append_nil]; exact hI.2⟩).weak ⟨rfl, rfl, rfl, rfl, trivial⟩
    refine R_aload_n rfl rfl ?_
    refine R_bipush (v := 10) rfl (by decide) ?_
    refine R_cV (as := [.int 10]) rfl rfl iv_Output_addByte (sp_addByte (x := 10) hτ1.2 (by rw [List.length_append, List.length_append]; omega)) (by omega) rfl rfl rfl (by decide) rfl rfl (Nat.le_of_ble_eq_true rfl) (fun τ1 hτ1 => ?_)
    obtain ⟨pτ1, oτ1⟩ := hτ1
    refine R_iincN (x := i) (m := 1) rfl rfl rfl (by decide) ?_
    refine R_goto rfl rfl ?_
    have e := ih (i + 1) τ1 (by omega) ⟨(hI.1.trans hτ1.1).trans pτ1, by rw [show lnL f w (i + 1) = lnL f w i ++ (rwL f i w ++ [10]) from rfl]; have o := oτ1; simp only [List.append_assoc] at o ⊢; exact o⟩
    exact e.weak ⟨rfl, rfl, rfl, trivial⟩
set_option maxRecDepth 100000 in
set_option maxHeartbeats 4000000 in
theorem sp_addLines {σ : am_G} {k h w : Nat} {f : am_Gr} {L : List Int32} (hM : isMat k) (hk : 16 ≤ k) (hv : vM σ k h w f) (ho : oC σ L) (hl : L.length + 762 ≤ 1000) : am_Call am_TX 2 0 c_Output_addLines [.ref 14, .ref k] (mm σ) (am_Ok none (fun σ1 => smP pO σ σ1 ∧ oC σ1 (L ++ lnL f w h))) := by
  have hh6 := hv.1.2
  have hw6 := hv.2.1.2
  refine ⟨mf_Output_addLines, Nat.le_of_ble_eq_true rfl, ?_⟩
  refine R_iconst (v := 0) rfl rfl ?_
  refine R_istore_n rfl (by decide) ?_
  exact (lp_lno hM hk hv hl (by omega) h 0 σ (by omega) ⟨smP.refl, by rw [show lnL f w 0 = [] from rfl, List.append_nil]; exact ho⟩).weak ⟨rfl, rfl, rfl, trivial⟩
set_option maxRecDepth 100000 in
set_option maxHeartbeats 4000000 in
theorem sp_addSeparator {σ : am_G} {L : List Int32} (h : oC σ L) (hl : L.length < 1000) : am_Call am_TX 1 0 c_Output_addSeparator [.ref 14] (mm σ) (am_Ok none (fun σ1 => smP pO σ σ1 ∧ oC σ1 (L ++ (if L.length > 0 then [32] else [])))) := by
  refine ⟨mf_Output_addSeparator, Nat.le_of_ble_eq_true rfl, ?_⟩
  refine R_aload_n rfl rfl ?_
  refine R_gIN (n := L.length) rfl rfl fd_5_0 h.1 ?_
  refine R_nif_le (x := L.length) rfl rfl (by omega) (fun h1 => ?_) (fun h1 => ?_)
  · exact T_return rfl rfl (am_okv0 ⟨smP.refl, by rw [if_neg (show ¬ L.length > 0 by omega), List.append_nil]; exact h⟩)
  · refine R_aload_n rfl rfl ?_
    refine R_bipush (v := 32) rfl (by decide) ?_
    refine R_cV (as := [.int 32]) rfl rfl iv_Output_addByte (sp_addByte (x := 32) h (by first | omega | (simp only [List.length_append, List.length_cons, List.length_nil]; omega))) (by decide) rfl rfl rfl (by decide) rfl rfl (Nat.le_of_ble_eq_true rfl) (fun τ1 hτ1 => ?_)
    obtain ⟨pτ1, oτ1⟩ := hτ1
    exact T_return rfl rfl (am_okv0 ⟨pτ1, by rw [if_pos (show L.length > 0 by omega)]; exact oτ1⟩)
set_option maxRecDepth 100000 in
set_option maxHeartbeats 4000000 in
theorem sp_Output_clear {σ : am_G} : am_Call am_TX 0 0 c_Output_clear [.ref 14] (mm σ) (am_Ok none (fun σ1 => smP pO σ σ1 ∧ oC σ1 [])) := by
  refine ⟨mf_Output_clear, Nat.le_of_ble_eq_true rfl, ?_⟩
  refine R_aload_n rfl rfl ?_
  refine R_iconst (v := 0) rfl rfl ?_
  refine R_pI rfl rfl fw_5_0 rfl ?_
  exact T_return rfl rfl (am_okv0 ⟨smP_sI (Or.inl rfl), oC_nil⟩)
theorem oC_at {σ : am_G} {L : List Int32} {x : Nat} (h : oC σ L) (hx : x < L.length) : σ.1 15 x = (L[x]?).getD 0 := by
  have e := List.getElem?_eq_getElem hx
  rw [e]
  exact h.2.2 x _ e
set_option maxRecDepth 100000 in
set_option maxHeartbeats 4000000 in
theorem sp_Output_byteAt {σ : am_G} {L : List Int32} {x : Nat} (h : oC σ L) (hx : x < L.length) : am_Call am_TX 0 0 c_Output_byteAt [.ref 14, .int (nI x)] (mm σ) (am_Ok (some (.int ((L[x]?).getD 0))) (fun σ1 => σ1 = σ)) := by
  have h1000 := h.2.1
  refine ⟨mf_Output_byteAt, Nat.le_of_ble_eq_true rfl, ?_⟩
  refine R_iload_n rfl rfl ?_
  refine R_nif_lt (x := x) rfl rfl (by omega) (fun z => by omega) (fun h1 => ?_)
  refine R_iload_n rfl rfl ?_
  refine R_aload_n rfl rfl ?_
  refine R_gIN (n := L.length) rfl rfl fd_5_0 h.1 ?_
  refine R_nicmp_ge (x := x) (y := L.length) rfl rfl (by omega) (by omega) (fun z => by omega) (fun h2 => ?_)
  refine R_iload_n rfl rfl ?_
  refine R_aload_n rfl rfl ?_
  refine R_gP (x := 15) rfl rfl fp_5_1 rfl ?_
  refine R_aln (v := 1000) rfl rfl (by decide) (by decide) ?_
  refine R_nicmp_ge (x := x) (y := 1000) rfl rfl (by omega) (by omega) (fun z => by omega) (fun h3 => ?_)
  refine R_aload_n rfl rfl ?_
  refine R_gP (x := 15) rfl rfl fp_5_1 rfl ?_
  refine R_iload_n rfl rfl ?_
  refine R_xI (j := x) rfl rfl rfl (by omega) (by decide) ?_
  refine R_goto rfl rfl ?_
  exact T_ireturn rfl rfl (am_oki (oC_at h hx) rfl)
set_option maxRecDepth 100000 in
set_option maxHeartbeats 4000000 in
theorem sp_D_outputByte {σ : am_G} {L : List Int32} {x : Nat} (h : oC σ L) (hx : x < L.length) : am_Call am_TX 1 0 c_D_outputByte [.ref 0, .int (nI x)] (mm σ) (am_Ok (some (.int ((L[x]?).getD 0))) (fun σ1 => σ1 = σ)) := by
  have h1000 := h.2.1
  refine ⟨mf_D_outputByte, Nat.le_of_ble_eq_true rfl, ?_⟩
  refine R_iload_n rfl rfl ?_
  refine R_nif_lt (x := x) rfl rfl (by omega) (fun z => by omega) (fun h1 => ?_)
  refine R_iload_n rfl rfl ?_
  refine R_aload_n rfl rfl ?_
  refine R_gP (x := 14) rfl rfl fp_10_3 rfl ?_
  refine R_gIN (n := L.length) rfl rfl fd_5_0 h.1 ?_
  refine R_nicmp_lt (x := x) (y := L.length) rfl rfl (by omega) (by omega) (fun h2 => ?_) (fun z => by omega)
  refine R_aload_n rfl rfl ?_
  refine R_gP (x := 14) rfl rfl fp_10_3 rfl ?_
  refine R_iload_n rfl rfl ?_
  refine R_cV (as := [.int (nI x)]) rfl rfl iv_Output_byteAt (sp_Output_byteAt h hx) (by decide) rfl rfl rfl (by decide) rfl rfl (Nat.le_of_ble_eq_true rfl) (fun _ q => ?_)
  obtain rfl := q.symm
  exact T_ireturn rfl rfl (am_oki rfl rfl)
set_option maxRecDepth 100000 in
set_option maxHeartbeats 4000000 in
theorem sp_D_outputByte_x {σ : am_G} {L : List Int32} {x : Int32} (h : oC σ L) (hb : ¬ (0 ≤ x ∧ x < nI L.length)) : am_Call am_TX 1 1 c_D_outputByte [.ref 0, .int x] (mm σ) (am_ThP "java/lang/IndexOutOfBoundsException" (fun σ1 => σ1 = σ)) := by
  refine ⟨mf_D_outputByte, Nat.le_of_ble_eq_true rfl, ?_⟩
  refine R_iload_n rfl rfl ?_
  refine R_if_lt rfl rfl (fun h1 => ?_) (fun h1 => ?_)
  · exact R_throwW (text := "no such byte of the output") (i := 12) rfl rfl rfl rfl rfl (List.mem_of_getElem? (i := 12) rfl) am_tw2 rfl rfl (Nat.le_refl 1) ⟨_, rfl, rfl⟩
  · refine R_iload_n rfl rfl ?_
    refine R_aload_n rfl rfl ?_
    refine R_gP (x := 14) rfl rfl fp_10_3 rfl ?_
    refine R_gIN (n := L.length) rfl rfl fd_5_0 h.1 ?_
    refine R_icmp_lt rfl rfl (fun z => absurd ⟨i_nlt h1, z⟩ hb) (fun h2 => ?_)
    exact R_throwW (text := "no such byte of the output") (i := 12) rfl rfl rfl rfl rfl (List.mem_of_getElem? (i := 12) rfl) am_tw2 rfl rfl (Nat.le_refl 1) ⟨_, rfl, rfl⟩
set_option maxRecDepth 100000 in
set_option maxHeartbeats 4000000 in
theorem sp_D_errorCode {σ : am_G} : am_Call am_TX 0 0 c_D_errorCode [.ref 0] (mm σ) (am_Ok (some (.int (σ.1 13 1))) (fun σ1 => σ1 = σ)) := by
  refine ⟨mf_D_errorCode, Nat.le_of_ble_eq_true rfl, ?_⟩
  refine R_aload_n rfl rfl ?_
  refine R_gP (x := 13) rfl rfl fp_10_2 rfl ?_
  refine R_gI rfl rfl fd_6_1 ?_
  exact T_ireturn rfl rfl (am_oki rfl rfl)
set_option maxRecDepth 100000 in
set_option maxHeartbeats 4000000 in
theorem sp_D_errorPosition {σ : am_G} : am_Call am_TX 0 0 c_D_errorPosition [.ref 0] (mm σ) (am_Ok (some (.int (σ.1 13 2))) (fun σ1 => σ1 = σ)) := by
  refine ⟨mf_D_errorPosition, Nat.le_of_ble_eq_true rfl, ?_⟩
  refine R_aload_n rfl rfl ?_
  refine R_gP (x := 13) rfl rfl fp_10_2 rfl ?_
  refine R_gI rfl rfl fd_6_2 ?_
  exact T_ireturn rfl rfl (am_oki rfl rfl)
