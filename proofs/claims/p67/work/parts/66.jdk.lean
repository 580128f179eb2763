/-! ===== small methods of the JDK, over any memory ===== -/
theorem am_pui {μ : am_M} {V A : Int32} (h : A = V) : am_Pu (some (.int V)) μ (.inl (some (.int A)), μ) := by rw [h]; rfl
theorem am_pul {μ : am_M} {V A : Int64} (h : A = V) : am_Pu (some (.long V)) μ (.inl (some (.long A)), μ) := by rw [h]; rfl
theorem T_areturnA {Tx : am_Tx} {d k : Nat} {c : am_C} {pc a b x : Nat} {ls : List (Option Value)} {μ : am_M} {Q : am_Res → Prop} {ty : FieldType} (hc : c.2 pc = some (.areturn, 1, a, b)) (hr : c.1.2.2.2.1 = some (.array ty)) (hq : Q (.inl (some (.ref x)), μ)) : am_R Tx d k c pc ls ([.ref x]) μ Q := by
  intro D b0 en p l e Rm s m args below meth cc H locs cells slots mc ms la C B Wd S L hk
  have hdg := C.2.2.2.2.1 pc _ hc
  obtain ⟨hk1, hk2, -, -⟩ := hk
  exact vx_ret (W.widen (by omega : cells ≤ mc) (by omega : slots ≤ ms) (W.aret C.1.1 C.1.2.1 (C.1.2.2.2.trans hr) (Or.inr ⟨_, rfl⟩) (Or.inr ⟨_, rfl⟩) (fun t ht hW => ⟨(some (.ref x)), μ, en, hq, am_ext.rf, Nat.le_refl _, rfl, by rw [ht]; exact Wd.moved hW.alike, S.F ht⟩) S.2.2 hdg C.2.1.2.2.1))
section PUR
variable {Tx : am_Tx} {μ : am_M}
theorem pu_max {x y : Int32} : am_Call Tx 0 0 c_JMath_max [.int x, .int y] μ (am_Pu (some (.int (if x < y then y else x))) μ) := by
  refine ⟨mf_JMath_max, Nat.le_of_ble_eq_true rfl, ?_⟩
  refine R_iload_n rfl rfl ?_
  refine R_iload_n rfl rfl ?_
  refine R_icmp_lt rfl rfl (fun h1 => ?_) (fun h1 => ?_)
  · refine R_iload_n rfl rfl ?_
    exact T_ireturn rfl rfl (am_pui (if_pos h1).symm)
  · refine R_iload_n rfl rfl ?_
    refine R_goto rfl rfl ?_
    exact T_ireturn rfl rfl (am_pui (if_neg h1).symm)
theorem pu_min {x y : Int32} : am_Call Tx 0 0 c_JMath_min [.int x, .int y] μ (am_Pu (some (.int (if x ≤ y then x else y))) μ) := by
  refine ⟨mf_JMath_min, Nat.le_of_ble_eq_true rfl, ?_⟩
  refine R_iload_n rfl rfl ?_
  refine R_iload_n rfl rfl ?_
  refine R_icmp_gt rfl rfl (fun h1 => ?_) (fun h1 => ?_)
  · refine R_iload_n rfl rfl ?_
    exact T_ireturn rfl rfl (am_pui (if_neg (Int32.not_le.mpr h1)).symm)
  · refine R_iload_n rfl rfl ?_
    refine R_goto rfl rfl ?_
    exact T_ireturn rfl rfl (am_pui (if_pos (Int32.not_lt.mp h1)).symm)
theorem pu_abs {x : Int64} : am_Call Tx 0 0 c_JMath_abs [.long x] μ (am_Pu (some (.long (absL x))) μ) := by
  refine ⟨mf_JMath_abs, Nat.le_of_ble_eq_true rfl, ?_⟩
  refine R_lload_n rfl rfl ?_
  refine R_lconst (v := 0) rfl rfl ?_
  refine R_l_ge rfl rfl rfl (fun h1 => ?_) (fun h1 => ?_)
  · refine R_lload_n rfl rfl ?_
    exact T_lreturn rfl rfl (am_pul (by unfold absL; rw [if_neg (by simp only [l_lt, l_le] at *; omega)]))
  · refine R_lload_n rfl rfl ?_
    refine R_lneg rfl ?_
    refine R_goto rfl rfl ?_
    exact T_lreturn rfl rfl (am_pul (by unfold absL; rw [if_pos (by first | exact h1 | exact Int64.not_le.mp h1 | (simp only [l_lt, l_le] at *; omega))]))
theorem mx_nI {a b : Nat} (ha : a < 2 ^ 31) (hb : b < 2 ^ 31) : (if nI a < nI b then nI b else nI a) = nI (max a b) := by
  by_cases h : a < b
  · rw [if_pos (nI_lt h hb), Nat.max_eq_right (by omega)]
  · rw [if_neg (nI_nlt (by omega) ha), Nat.max_eq_left (by omega)]
theorem mn_nI {a b : Nat} (ha : a < 2 ^ 31) (hb : b < 2 ^ 31) : (if nI a ≤ nI b then nI a else nI b) = nI (min a b) := by
  by_cases h : a ≤ b
  · rw [if_pos ((nI_leN ha hb).mpr h), Nat.min_eq_left h]
  · rw [if_neg (fun z => h ((nI_leN ha hb).mp z)), Nat.min_eq_right (by omega)]
end PUR
set_option maxRecDepth 100000 in
set_option maxHeartbeats 4000000 in
theorem pu_bitCount {μ : am_M} {s : Nat} (hs : s < 64) : am_Call am_TX 0 0 c_JInteger_bitCount [.int (nI s)] μ (am_Pu (some (.int (nI (pc s)))) μ) := by
  refine ⟨mf_JInteger_bitCount, Nat.le_of_ble_eq_true rfl, ?_⟩
  refine R_iload_n rfl rfl ?_
  refine R_iload_n rfl rfl ?_
  refine R_iconst (v := 1) rfl rfl ?_
  refine R_iushr rfl ?_
  refine R_ldcw (b := 0) (v := 1431655765) rfl (by decide) ?_
  refine R_iand rfl ?_
  refine R_isub rfl ?_
  refine R_istore_n rfl (by decide) ?_
  refine R_iload_n rfl rfl ?_
  refine R_ldcw (b := 0) (v := 858993459) rfl (by decide) ?_
  refine R_iand rfl ?_
  refine R_iload_n rfl rfl ?_
  refine R_iconst (v := 2) rfl rfl ?_
  refine R_iushr rfl ?_
  refine R_ldcw (b := 0) (v := 858993459) rfl (by decide) ?_
  refine R_iand rfl ?_
  refine R_iadd rfl ?_
  refine R_istore_n rfl (by decide) ?_
  refine R_iload_n rfl rfl ?_
  refine R_iload_n rfl rfl ?_
  refine R_iconst (v := 4) rfl rfl ?_
  refine R_iushr rfl ?_
  refine R_iadd rfl ?_
  refine R_ldcw (b := 0) (v := 252645135) rfl (by decide) ?_
  refine R_iand rfl ?_
  refine R_istore_n rfl (by decide) ?_
  refine R_iload_n rfl rfl ?_
  refine R_iload_n rfl rfl ?_
  refine R_bipush (v := 8) rfl (by decide) ?_
  refine R_iushr rfl ?_
  refine R_iadd rfl ?_
  refine R_istore_n rfl (by decide) ?_
  refine R_iload_n rfl rfl ?_
  refine R_iload_n rfl rfl ?_
  refine R_bipush (v := 16) rfl (by decide) ?_
  refine R_iushr rfl ?_
  refine R_iadd rfl ?_
  refine R_istore_n rfl (by decide) ?_
  refine R_iload_n rfl rfl ?_
  refine R_bipush (v := 63) rfl (by decide) ?_
  refine R_iand rfl ?_
  exact T_ireturn rfl rfl (am_pui (bit_raw s hs))
set_option maxRecDepth 100000 in
theorem pt_coder {μ : am_M} {i : Nat} {bs : List Int32} (hi : (i, bs) ∈ am_SL) : am_Call am_TX 0 0 c_JString_coder [.ref (1000 + i)] μ (am_Pu (some (.int 0)) μ) := by
  refine ⟨mf_JString_coder, Nat.le_of_ble_eq_true rfl, ?_⟩
  refine R_scs (idx := 38) rfl (by decide +kernel) (am_Wmem (List.mem_of_getElem? (i := 514) rfl) rfl) ?_
  refine R_if_eq rfl rfl (fun z => absurd z (by decide)) (fun _ => ?_)
  refine R_aload_n rfl rfl ?_
  refine R_scod (idx := 15) rfl (by decide +kernel) (am_Wmem (List.mem_of_getElem? (i := 741) rfl) rfl) hi ?_
  refine R_goto rfl rfl ?_
  exact T_nreturn rfl rfl rfl (am_pui rfl)
set_option maxRecDepth 100000 in
theorem pt_isLatin1 {μ : am_M} {i : Nat} {bs : List Int32} (hi : (i, bs) ∈ am_SL) : am_Call am_TX 0 0 c_JString_isLatin1 [.ref (1000 + i)] μ (am_Pu (some (.int 1)) μ) := by
  refine ⟨mf_JString_isLatin1, Nat.le_of_ble_eq_true rfl, ?_⟩
  refine R_scs (idx := 38) rfl (by decide +kernel) (am_Wmem (List.mem_of_getElem? (i := 514) rfl) rfl) ?_
  refine R_if_eq rfl rfl (fun z => absurd z (by decide)) (fun _ => ?_)
  refine R_aload_n rfl rfl ?_
  refine R_scod (idx := 15) rfl (by decide +kernel) (am_Wmem (List.mem_of_getElem? (i := 741) rfl) rfl) hi ?_
  refine R_if_ne rfl rfl (fun z => absurd rfl z) (fun _ => ?_)
  refine R_iconst (v := 1) rfl rfl ?_
  refine R_goto rfl rfl ?_
  exact T_nreturn rfl rfl rfl (am_pui rfl)
set_option maxRecDepth 100000 in
theorem pt_slength {μ : am_M} {i : Nat} {bs : List Int32} (hi : (i, bs) ∈ am_SL) : am_Call am_TX 1 0 c_JString_length [.ref (1000 + i)] μ (am_Pu (some (.int (nI bs.length))) μ) := by
  refine ⟨mf_JString_length, Nat.le_of_ble_eq_true rfl, ?_⟩
  refine R_aload_n rfl rfl ?_
  refine R_sval (idx := 9) rfl (by decide +kernel) (am_Wmem (List.mem_of_getElem? (i := 740) rfl) rfl) hi ?_
  refine R_saln rfl hi ?_
  refine R_aload_n rfl rfl ?_
  refine R_pT (as := []) (by decide +kernel) jw_s_len_coder iv_JString_coder (pt_coder hi) (by decide) rfl rfl hi rfl (Nat.le_of_ble_eq_true rfl) ?_
  refine R_ishr rfl ?_
  exact T_ireturn rfl rfl (am_pui (sh_0 _ (sl_b _ hi)))
set_option maxRecDepth 100000 in
theorem pt_preCheck {μ : am_M} {j n : Nat} {v : Value} (hj : j < n) (hn : n < 2 ^ 31) (hv : v = .null ∨ v = .ref 4000) : am_Call am_TX 0 0 c_JPre_checkIndex [.int (nI j), .int (nI n), v] μ (am_Pu (some (.int (nI j))) μ) := by
  rcases hv with rfl | rfl
  all_goals
    refine ⟨mf_JPre_checkIndex, Nat.le_of_ble_eq_true rfl, ?_⟩
    refine R_iload_n rfl rfl ?_
    refine R_nif_lt (x := j) rfl rfl (by omega) (fun z => by omega) (fun _ => ?_)
    refine R_iload_n rfl rfl ?_
    refine R_iload_n rfl rfl ?_
    refine R_nicmp_lt (x := j) (y := n) rfl rfl (by omega) (by omega) (fun _ => ?_) (fun z => by omega)
    refine R_iload_n rfl rfl ?_
    exact T_ireturn rfl rfl (am_pui rfl)
set_option maxRecDepth 100000 in
theorem pt_checkIndex {μ : am_M} {j n : Nat} (hj : j < n) (hn : n < 2 ^ 31) : am_Call am_TX 1 0 c_JString_checkIndex [.int (nI j), .int (nI n)] μ (am_Pu none μ) := by
  refine ⟨mf_JString_checkIndex, Nat.le_of_ble_eq_true rfl, ?_⟩
  refine R_iload_n rfl rfl ?_
  refine R_iload_n rfl rfl ?_
  refine R_sfm (idx := 1053) rfl (by decide +kernel) (am_Wmem (List.mem_of_getElem? (i := 595) rfl) rfl) ?_ ?_
  · refine R_pS (as := [.int (nI j), .int (nI n), .null]) rfl rfl iv_JPre_checkIndex (pt_preCheck hj hn (Or.inl rfl)) (by decide) rfl rfl rfl rfl (Nat.le_of_ble_eq_true rfl) ?_
    refine R_pop rfl rfl ?_
    exact T_return rfl rfl rfl
  · refine R_pS (as := [.int (nI j), .int (nI n), .ref 4000]) rfl rfl iv_JPre_checkIndex (pt_preCheck hj hn (Or.inr rfl)) (by decide) rfl rfl rfl rfl (Nat.le_of_ble_eq_true rfl) ?_
    refine R_pop rfl rfl ?_
    exact T_return rfl rfl rfl
set_option maxRecDepth 100000 in
theorem pt_latin1 {μ : am_M} {i j : Nat} {bs : List Int32} (hi : (i, bs) ∈ am_SL) (hj : j < bs.length) : am_Call am_TX 2 0 c_JLatin1_charAt [.ref (2000 + i), .int (nI j)] μ (am_Pu (some (.int (bs.getD j 0))) μ) := by
  have h9 := sl_b _ hi
  refine ⟨mf_JLatin1_charAt, Nat.le_of_ble_eq_true rfl, ?_⟩
  refine R_iload_n rfl rfl ?_
  refine R_aload_n rfl rfl ?_
  refine R_saln rfl hi ?_
  refine R_pS (as := [.int (nI j), .int (nI bs.length)]) rfl rfl iv_JString_checkIndex (pt_checkIndex hj (Nat.lt_trans h9 (by decide))) (by decide) rfl rfl rfl rfl (Nat.le_of_ble_eq_true rfl) ?_
  refine R_aload_n rfl rfl ?_
  refine R_iload_n rfl rfl ?_
  refine R_sbal (j := j) rfl hi rfl hj (Nat.lt_trans h9 (by decide)) ?_
  refine R_sipush (v := 255) rfl (by decide) ?_
  refine R_iand rfl ?_
  refine R_i2c rfl ?_
  rw [(sl_c hi hj).1]
  exact T_nreturn rfl rfl (sl_c hi hj).2 (am_pui rfl)
set_option maxRecDepth 100000 in
theorem pt_charAt {μ : am_M} {i j : Nat} {bs : List Int32} (hi : (i, bs) ∈ am_SL) (hj : j < bs.length) : am_Call am_TX 3 0 c_JString_charAt [.ref (1000 + i), .int (nI j)] μ (am_Pu (some (.int (bs.getD j 0))) μ) := by
  refine ⟨mf_JString_charAt, Nat.le_of_ble_eq_true rfl, ?_⟩
  refine R_aload_n rfl rfl ?_
  refine R_pT (as := []) (by decide +kernel) jw_s_chr_lat iv_JString_isLatin1 (pt_isLatin1 hi) (by decide) rfl rfl hi rfl (Nat.le_of_ble_eq_true rfl) ?_
  refine R_if_eq rfl rfl (fun z => absurd z (by decide)) (fun _ => ?_)
  refine R_aload_n rfl rfl ?_
  refine R_sval (idx := 9) rfl (by decide +kernel) (am_Wmem (List.mem_of_getElem? (i := 740) rfl) rfl) hi ?_
  refine R_iload_n rfl rfl ?_
  refine R_pS (as := [.ref (2000 + i), .int (nI j)]) rfl rfl iv_JLatin1_charAt (pt_latin1 hi hj) (by decide) rfl rfl rfl rfl (Nat.le_of_ble_eq_true rfl) ?_
  exact T_nreturn rfl rfl (sl_c hi hj).2 (am_pui rfl)


