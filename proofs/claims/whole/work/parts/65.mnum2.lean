/-! ===== the model writes a number, 2 ===== -/
theorem dg_all : ∀ k : Nat, k < 19 → (48 + (Int64.ofInt ((k : Int) - 9)).toInt32).toInt8.toInt32 = 48 + (Int64.ofInt ((k : Int) - 9)).toInt32 := by decide +kernel
theorem dg_b {y : Int64} (h : -9 ≤ y.toInt ∧ y.toInt ≤ 9) : b7 (48 + y.toInt32) := by
  have e : Int64.ofInt y.toInt = y := Int64.ofInt_toInt y
  obtain ⟨k, hk, hy⟩ : ∃ k : Nat, k < 19 ∧ y.toInt = (k : Int) - 9 := ⟨(y.toInt + 9).toNat, by omega, by omega⟩
  rw [← e, hy]
  exact dg_all k hk
theorem rem_i {x : Int64} : -9 ≤ (x - x / 10 * 10).toInt ∧ (x - x / 10 * 10).toInt ≤ 9 := by
  have h2 := Int64.toInt_lt x
  have h3 := Int64.le_toInt x
  have hq : x.toInt.tdiv 10 * 10 ≤ x.toInt + 9 ∧ x.toInt - 9 ≤ x.toInt.tdiv 10 * 10 ∧ -9223372036854775808 ≤ x.toInt.tdiv 10 * 10 ∧ x.toInt.tdiv 10 * 10 ≤ 9223372036854775807 := by
    rcases Int.lt_or_le x.toInt 0 with h | h
    · have e : x.toInt = -(-x.toInt) := by omega
      have e2 : x.toInt.tdiv 10 = -((-x.toInt) / 10) := by
        rw [e, Int.neg_tdiv, Int.tdiv_eq_ediv_of_nonneg (by omega)]
        rw [Int.neg_neg]
      rw [e2]
      omega
    · rw [Int.tdiv_eq_ediv_of_nonneg h]
      omega
  rw [Int64.toInt_sub, Int64.toInt_mul, l_divp (by decide), show (10 : Int64).toInt = 10 from rfl, Int.bmod_eq_of_le (n := x.toInt.tdiv 10 * 10) (by omega) (by omega), Int.bmod_eq_of_le (by omega) (by omega)]
  omega
theorem dgt_b {m s : Int64} : b7 (dgt m s) := dg_b rem_i
set_option maxRecDepth 100000 in
set_option maxHeartbeats 4000000 in
theorem lp_mn2 {σ : am_G} {v : Int64} {L M : List Int32} {n : Nat} {d k0 : Nat} (hn : n ≤ 19) (hL : L.length + 19 ≤ 1000) (hM : L ++ dgP (absL v) n n = M) (hd : 1 ≤ d)  : ∀ (uu i : Nat) (τ : am_G), i + uu = n → (smP pOm σ τ ∧ oM τ (L ++ dgP (absL v) n i)) → am_R am_TX d k0 c_M_writeNumber 39 [some (.ref 120), some (.long v), none, none, none, some (.long (sc (n - i))), none] [] (mm τ) (am_Ok none (fun σ1 => smP pOm σ σ1 ∧ oM σ1 M)) := by
  intro uu
  induction uu with
  | zero =>
    intro i τ hi hI
    obtain rfl : n = i := by omega
    refine R_lload rfl rfl ?_
    refine R_lconst (v := 0) rfl rfl ?_
    refine R_l_le rfl rfl rfl (fun h1 => ?_) (fun z => absurd sc_z z)
    exact T_return rfl rfl (am_okv0 ⟨hI.1, by rw [← hM]; exact hI.2⟩)
  | succ uu ih =>
    intro i τ hi hI
    refine R_lload rfl rfl ?_
    refine R_lconst (v := 0) rfl rfl ?_
    refine R_l_le rfl rfl rfl (fun z => absurd z (sc_pos (by omega) (by omega))) (fun h1 => ?_)
    refine R_aload_n rfl rfl ?_
    refine R_bipush (v := 48) rfl (by decide) ?_
    refine R_lload_n rfl rfl ?_
    refine R_cS (as := [.long v]) rfl rfl iv_M_size (sp_msize) (by omega) rfl rfl rfl rfl (Nat.le_of_ble_eq_true rfl) (fun _ q => ?_)
    obtain rfl := q.symm
    refine R_lload rfl rfl ?_
    refine R_ldiv rfl (sc_ne (by omega) (by omega)) ?_
    refine R_ldc2 (v := 10) rfl (by decide) ?_
    refine R_lrem rfl (by decide) ?_
    refine R_l2i rfl ?_
    refine R_iadd rfl ?_
    refine R_cV (as := [.int (48 + ((((absL v) / (sc (n - i))) - ((absL v) / (sc (n - i))) / 10 * 10).toInt32))]) rfl rfl iv_M_write (sp_mwrite (x := dgt (absL v) (sc (n - i))) dgt_b hI.2 (by rw [List.length_append, dgP_len]; omega)) (by omega) rfl rfl rfl (by decide) rfl rfl (Nat.le_of_ble_eq_true rfl) (fun τ1 hτ1 => ?_)
    obtain ⟨p1, o1⟩ := hτ1
    refine R_lload rfl rfl ?_
    refine R_ldc2 (v := 10) rfl (by decide) ?_
    refine R_ldiv rfl (by decide) ?_
    refine R_lstore rfl (by decide) ?_
    refine R_goto rfl rfl ?_
    have e := ih (i + 1) τ1 (by omega) ⟨hI.1.trans p1, by show oM _ (L ++ (dgP (absL v) n i ++ [dgt (absL v) (sc (n - i))])); rw [← List.append_assoc]; exact o1⟩
    rw [show sc (n - i) / 10 = sc (n - (i + 1)) from by rw [sc_d (by omega) (by omega), show n - i - 1 = n - (i + 1) by omega]]
    exact e.weak ⟨rfl, rfl, rfl, trivial⟩
set_option maxRecDepth 100000 in
set_option maxHeartbeats 4000000 in
theorem sp_mwriteNumber {σ : am_G} {L : List Int32} {v : Int64} (h : oM σ L) (hl : L.length + 20 ≤ 1000) : am_Call am_TX 2 0 c_M_writeNumber [.ref 120, .long v] (mm σ) (am_Ok none (fun σ1 => smP pOm σ σ1 ∧ oM σ1 (L ++ nuL v))) := by
  refine ⟨mf_M_writeNumber, Nat.le_of_ble_eq_true rfl, ?_⟩
  refine R_lload_n rfl rfl ?_
  refine R_lconst (v := 0) rfl rfl ?_
  refine R_l_ge rfl rfl rfl (fun h1 => ?_) (fun h1 => ?_)
  · refine R_lconst (v := 1) rfl rfl ?_
    refine R_lstore_n rfl (by decide) ?_
    refine (lp_mn1 (v := v) ?_ (by omega) 18 0 rfl (by omega)).weak ⟨rfl, rfl, rfl, trivial⟩
    refine R_lload_n rfl rfl ?_
    refine R_lstore rfl (by decide) ?_
    exact (lp_mn2 (L := L) nuN_le (by omega) (by unfold nuL; rw [if_neg (fun z => in_b z h1), List.nil_append]) (by omega) (nuN v) 0 σ (by omega) ⟨smP.refl, by rw [show dgP (absL v) (nuN v) 0 = [] from rfl, List.append_nil]; exact h⟩).weak ⟨rfl, rfl, rfl, trivial⟩
  · refine R_aload_n rfl rfl ?_
    refine R_bipush (v := 45) rfl (by decide) ?_
    refine R_cV (as := [.int 45]) rfl rfl iv_M_write (sp_mwrite (x := 45) rfl h (by omega)) (by decide) rfl rfl rfl (by decide) rfl rfl (Nat.le_of_ble_eq_true rfl) (fun τ1 hτ1 => ?_)
    obtain ⟨p1, o1⟩ := hτ1
    refine R_lconst (v := 1) rfl rfl ?_
    refine R_lstore_n rfl (by decide) ?_
    refine (lp_mn1 (v := v) ?_ (by omega) 18 0 rfl (by omega)).weak ⟨rfl, rfl, rfl, trivial⟩
    refine R_lload_n rfl rfl ?_
    refine R_lstore rfl (by decide) ?_
    exact (am_R.mono (lp_mn2 (L := L ++ [45]) nuN_le (by rw [List.length_append]; show L.length + 1 + 19 ≤ 1000; omega) (by unfold nuL; rw [if_pos (Int64.not_le.mp h1), List.append_assoc]) (by omega) (nuN v) 0 τ1 (by omega) ⟨smP.refl, by rw [show dgP (absL v) (nuN v) 0 = [] from rfl, List.append_nil]; exact o1⟩) (am_Ok.mono fun σ1 z => ⟨p1.trans z.1, z.2⟩)).weak ⟨rfl, rfl, rfl, trivial⟩
