/-! ===== the law's feed ===== -/
theorem nI_bv {v : Nat} (h : v < 2 ^ 32) : (nI v).toBitVec.toNat = v := by
  show (BitVec.ofNat 32 v).toNat = v
  rw [BitVec.toNat_ofNat]
  omega
theorem fw_sh {a b : Nat} (ha : a < 2 ^ 23) (hb : b < 256) : nI a <<< ((8 : Int32) &&& 31) ||| nI b = nI (a * 256 + b) := by
  apply Int32.toBitVec_inj.mp
  apply BitVec.eq_of_toNat_eq
  rw [Int32.toBitVec_or, BitVec.toNat_or, Int32.toBitVec_shiftLeft, show ((8 : Int32) &&& 31).toBitVec.smod 32 = 8#32 from by decide, nI_bv (by omega), nI_bv (by omega)]
  rw [BitVec.shiftLeft_eq', BitVec.toNat_shiftLeft, nI_bv (by omega), show (8#32).toNat = 8 from rfl, Nat.shiftLeft_eq, show (2 : Nat) ^ 8 = 256 from rfl, Nat.mod_eq_of_lt (by omega)]
  have := Nat.shiftLeft_add_eq_or_of_lt (i := 8) (b := b) hb a
  rw [Nat.shiftLeft_eq, show (2 : Nat) ^ 8 = 256 from rfl] at this
  exact this.symm
theorem wb_v {v k : Nat} {s : UInt32} (hv : v < 2 ^ 31) (hs : s.toBitVec.toNat % 32 = k) : ((nI v).toUInt32 >>> s).toInt32 &&& 255 = nI (v / 2 ^ k % 256) := by
  apply Int32.toBitVec_inj.mp
  apply BitVec.eq_of_toNat_eq
  have e : ((nI v).toUInt32 >>> s).toBitVec.toNat = v / 2 ^ k := by
    rw [UInt32.toBitVec_shiftRight, BitVec.ushiftRight_eq', BitVec.toNat_ushiftRight]
    show (nI v).toBitVec.toNat >>> _ = _
    rw [nI_bv (by omega), Nat.shiftRight_eq_div_pow]
    congr 2
  rw [Int32.toBitVec_and, BitVec.toNat_and]
  show ((nI v).toUInt32 >>> s).toBitVec.toNat &&& 255 = _
  rw [e, nI_bv (by omega)]
  exact Nat.and_two_pow_sub_one_eq_mod (v / 2 ^ k) 8
theorem wdL_v {a b c d : Nat} (ha : a < 128) (hb : b < 256) (hc : c < 256) (hd : d < 256) : wdL (nI (((a * 256 + b) * 256 + c) * 256 + d)) = [nI a, nI b, nI c, nI d] := by
  unfold wdL wb
  rw [wb_v (k := 24) (by omega) (by decide), wb_v (k := 16) (by omega) (by decide), wb_v (k := 8) (by omega) (by decide), wb_v (k := 0) (by omega) (by decide)]
  congr 2
  · omega
  congr 2
  · omega
  congr 2
  · omega
  congr 2
  omega
/-- a text that the law reads: its length, its letters -/
def tx (μ : am_M) (o : Nat) (T : List Int32) : Prop :=
  (∀ {d k : Nat} {c : am_C} {pc : Nat} {ls : List (Option Value)} {st : List Value} {Q : am_Res → Prop}, c.1.1.cls = "RankDeskLaw" → decode c.1.2.1 pc = .ok (.invokevirtual 8, 3) → 2 ≤ d → (st.map fun v => v.category).sum ≤ 8 → am_R am_TX d k c (pc + 3) ls (.int (nI T.length) :: st) μ Q → am_R am_TX d k c pc ls (.ref o :: st) μ Q) ∧
  (∀ {d k : Nat} {c : am_C} {pc j : Nat} {ls : List (Option Value)} {st : List Value} {Q : am_Res → Prop}, c.1.1.cls = "RankDeskLaw" → decode c.1.2.1 pc = .ok (.invokevirtual 14, 3) → j < T.length → 4 ≤ d → (st.map fun v => v.category).sum ≤ 8 → am_R am_TX d k c (pc + 3) ls (.int (T.getD j 0) :: st) μ Q → am_R am_TX d k c pc ls (.int (nI j) :: .ref o :: st) μ Q)
theorem tx_c {μ : am_M} {i : Nat} {T : List Int32} (hi : (i, T) ∈ am_SL) : tx μ (1000 + i) T := by
  refine ⟨fun hcl hdg hd hw h => ?_, fun hcl hdg hj hd hw h => ?_⟩
  · exact R_pT (as := []) hdg (hcl ▸ jw_l_len) iv_JString_length (pt_slength hi) (by omega) rfl rfl hi rfl hw h
  · exact R_pT (as := [.int (nI _)]) hdg (hcl ▸ jw_l_chr) iv_JString_charAt (pt_charAt hi hj) (by omega) rfl rfl hi rfl hw h
theorem tx_m {σ : am_G} {ρ : am_Y} {q w : Nat} {T : List Int32} (h : stS σ ρ q w T) (hT : T.length < 1000) (hA : ∀ j, j < T.length → asc (T.getD j 0)) : tx (ml σ ρ) q T := by
  refine ⟨fun hcl hdg hd hw k => ?_, fun hcl hdg hj hd hw k => ?_⟩
  · exact R_pV (ci := 12) (as := []) hdg (hcl ▸ jw_l_len) iv_JString_length (pd_length h) (by omega) rfl rfl h.1.1.S (by decide) rfl hw k
  · exact R_pV (ci := 12) (as := [.int (nI _)]) hdg (hcl ▸ jw_l_chr) iv_JString_charAt (pd_charAt h hT hj (hA _ hj)) (by omega) rfl rfl h.1.1.S (by decide) rfl hw k
def fw (T : List Int32) (at' : Nat) : Nat → Int32
  | 0 => 0
  | k + 1 => fw T at' k <<< ((8 : Int32) &&& 31) ||| (if at' + k < T.length then T.getD (at' + k) 0 else 0)
/-- all letters are below 128 -/
def ltr (T : List Int32) : Prop := ∀ j, j < T.length → ∃ n, n < 128 ∧ T.getD j 0 = nI n
theorem ltr_g {T : List Int32} (h : ltr T) (j : Nat) : ∃ n, n < 128 ∧ (if j < T.length then T.getD j 0 else 0) = nI n := by
  by_cases hj : j < T.length
  · rw [if_pos hj]; exact h j hj
  · exact ⟨0, by decide, if_neg hj⟩
theorem fw_4 {T : List Int32} (h : ltr T) (a : Nat) : wdL (fw T a 4) = [if a < T.length then T.getD a 0 else 0, if a + 1 < T.length then T.getD (a + 1) 0 else 0, if a + 2 < T.length then T.getD (a + 2) 0 else 0, if a + 3 < T.length then T.getD (a + 3) 0 else 0] := by
  obtain ⟨n0, h0, e0⟩ := ltr_g h a
  obtain ⟨n1, h1, e1⟩ := ltr_g h (a + 1)
  obtain ⟨n2, h2, e2⟩ := ltr_g h (a + 2)
  obtain ⟨n3, h3, e3⟩ := ltr_g h (a + 3)
  have f1 : fw T a 1 = nI n0 := by
    show (0 : Int32) <<< ((8 : Int32) &&& 31) ||| (if a + 0 < T.length then T.getD (a + 0) 0 else 0) = _
    rw [Nat.add_zero, e0]
    have := fw_sh (a := 0) (b := n0) (by decide) (by omega)
    rw [Nat.zero_mul, Nat.zero_add] at this
    exact this
  have f2 : fw T a 2 = nI (n0 * 256 + n1) := by
    show fw T a 1 <<< ((8 : Int32) &&& 31) ||| (if a + 1 < T.length then T.getD (a + 1) 0 else 0) = _
    rw [f1, e1]
    exact fw_sh (by omega) (by omega)
  have f3 : fw T a 3 = nI ((n0 * 256 + n1) * 256 + n2) := by
    show fw T a 2 <<< ((8 : Int32) &&& 31) ||| (if a + 2 < T.length then T.getD (a + 2) 0 else 0) = _
    rw [f2, e2]
    exact fw_sh (by omega) (by omega)
  have f4 : fw T a 4 = nI (((n0 * 256 + n1) * 256 + n2) * 256 + n3) := by
    show fw T a 3 <<< ((8 : Int32) &&& 31) ||| (if a + 3 < T.length then T.getD (a + 3) 0 else 0) = _
    rw [f3, e3]
    exact fw_sh (by omega) (by omega)
  rw [f4, wdL_v h0 (by omega) (by omega) (by omega), e0, e1, e2, e3]
section FEE
variable {μ : am_M} {o a : Nat} {T : List Int32}
theorem lp_four (htx : tx μ o T) (hT : T.length < 1000) (ha : a < 1000) : ∀ m k, k + m = 4 → am_R am_TX 4 0 c_L_four 4 [some (.ref o), some (.int (nI a)), some (.int (fw T a k)), some (.int (nI k))] [] μ (am_Pu (some (.int (fw T a 4))) μ) := by
  intro m
  induction m with
  | zero =>
    intro k hk
    obtain rfl : k = 4 := by omega
    refine R_iload_n rfl rfl ?_
    refine R_iconst (v := 4) rfl rfl ?_
    refine R_nicmp_ge (x := 4) (y := 4) rfl rfl (by decide) (by decide) (fun _ => ?_) (fun z => absurd (Nat.le_refl 4) z)
    refine R_iload_n rfl rfl ?_
    exact T_ireturn rfl rfl (am_pui rfl)
  | succ m ih =>
    intro k hk
    refine R_iload_n rfl rfl ?_
    refine R_iconst (v := 4) rfl rfl ?_
    refine R_nicmp_ge (x := k) (y := 4) rfl rfl (by omega) (by decide) (fun z => by omega) (fun _ => ?_)
    refine R_iload_n rfl rfl ?_
    refine R_bipush (v := 8) rfl (by decide) ?_
    refine R_ishl rfl ?_
    refine R_iload_n rfl rfl ?_
    refine R_iload_n rfl rfl ?_
    refine R_iaddN (x := a) (y := k) rfl ?_
    refine R_aload_n rfl rfl ?_
    refine htx.1 rfl (by decide +kernel) (by decide) (Nat.le_of_ble_eq_true rfl) ?_
    have j34 : ∀ x : Int32, x = (if a + k < T.length then T.getD (a + k) 0 else 0) → am_R am_TX 4 0 c_L_four 34 [some (.ref o), some (.int (nI a)), some (.int (fw T a k)), some (.int (nI k))] [.int x, .int (fw T a k <<< ((8 : Int32) &&& 31))] μ (am_Pu (some (.int (fw T a 4))) μ) := by
      intro x hx
      refine R_ior rfl ?_
      refine R_istore_n rfl (by decide) ?_
      refine R_iincN (x := k) (m := 1) rfl rfl rfl (by decide) ?_
      refine R_goto rfl rfl ?_
      rw [hx]
      exact ih (k + 1) (by omega)
    refine R_nicmp_ge (x := a + k) (y := T.length) rfl rfl (by omega) (by omega) (fun z => ?_) (fun z => ?_)
    · refine R_iconst (v := 0) rfl rfl ?_
      exact j34 0 (if_neg (by omega)).symm
    · refine R_aload_n rfl rfl ?_
      refine R_iload_n rfl rfl ?_
      refine R_iload_n rfl rfl ?_
      refine R_iaddN (x := a) (y := k) rfl ?_
      refine htx.2 rfl (by decide +kernel) (by omega) (by decide) (Nat.le_of_ble_eq_true rfl) ?_
      refine R_goto rfl rfl ?_
      exact j34 _ (if_pos (by omega)).symm
theorem pl_four (htx : tx μ o T) (hT : T.length < 1000) (ha : a < 1000) : am_Call am_TX 4 0 c_L_four [.ref o, .int (nI a)] μ (am_Pu (some (.int (fw T a 4))) μ) := by
  refine ⟨mf_L_four, Nat.le_of_ble_eq_true rfl, ?_⟩
  refine R_iconst (v := 0) rfl rfl ?_
  refine R_istore_n rfl (by decide) ?_
  refine R_iconst (v := 0) rfl rfl ?_
  refine R_istore_n rfl (by decide) ?_
  exact lp_four htx hT ha 4 0 rfl
end FEE
/-- the first n letters, noughts behind -/
def pad (T : List Int32) (n : Nat) : List Int32 := (List.range n).map (fun j => if j < T.length then T.getD j 0 else 0)
theorem pad_take {T : List Int32} {n : Nat} (h : T.length ≤ n) : (pad T n).take T.length = T := by
  apply List.ext_getElem?
  intro j
  unfold pad
  by_cases hj : j < T.length
  · rw [List.getElem?_take_of_lt hj, List.getElem?_map, List.getElem?_range (by omega)]
    show some (if j < T.length then T.getD j 0 else 0) = _
    rw [if_pos hj, List.getD_eq_getElem?_getD, List.getElem?_eq_getElem hj]
    rfl
  · rw [List.getElem?_eq_none (by simp; omega), List.getElem?_eq_none (by omega)]
theorem pad_20 {T : List Int32} (h : ltr T) (n : Nat) : pad T n ++ apL (fw T n 4) (fw T (n + 4) 4) (fw T (n + 8) 4) (fw T (n + 12) 4) (fw T (n + 16) 4) = pad T (n + 20) := by
  unfold apL pad
  rw [fw_4 h, fw_4 h, fw_4 h, fw_4 h, fw_4 h, List.range_add, List.map_append]
  congr 1
section FED
variable {σ : am_G} {ρ : am_Y} {o : Nat} {T : List Int32}
theorem smP_pI_lo {σ σ1 : am_G} (h : smP pI σ σ1) : smP pLo σ σ1 := h.mono (fun a b => by unfold pI pLo; omega)
theorem lp_feed (htx : ∀ σ1, smP pI σ σ1 → tx (ml σ1 ρ) o T) (hl : ltr T) (hT : T.length ≤ 380) : ∀ m k τ (la : Nat), k + 20 * m = max 20 ((T.length + 19) / 20 * 20) → iC τ k (pad T k) → smP pI σ τ → k ≠ 0 → la = k → am_R am_TX 5 0 c_L_feed 4 [some (.ref 0), some (.ref o), some (.int (nI la)), some (.int (nI k))] [] (ml τ ρ) (am_Oy none (fun σ1 ρ1 => ρ1 = ρ ∧ smP pI σ σ1 ∧ iC σ1 T.length T)) := by
  intro m
  induction m with
  | zero =>
    intro k τ la hk hi hs h0 e
    subst e
    refine R_iload_n rfl rfl ?_
    refine R_aload_n rfl rfl ?_
    refine (htx τ hs).1 rfl (by decide +kernel) (by decide) (Nat.le_of_ble_eq_true rfl) ?_
    refine R_nicmp_lt (x := la) (y := T.length) rfl rfl (by omega) (by omega) (fun z => by omega) (fun _ => ?_)
    refine R_iload_n rfl rfl ?_
    refine R_nif_ne (x := la) rfl rfl (by omega) (fun _ => ?_) (fun z => absurd z h0)
    refine R_aload_n rfl rfl ?_
    refine R_iload_n rfl rfl ?_
    refine R_aload_n rfl rfl ?_
    refine (htx τ hs).1 rfl (by decide +kernel) (by decide) (Nat.le_of_ble_eq_true rfl) ?_
    refine R_pS (as := [.int (nI la), .int (nI T.length)]) rfl rfl iv_JMath_min pu_min (by omega) rfl rfl rfl rfl (Nat.le_of_ble_eq_true rfl) ?_
    rw [mn_nI (by omega) (by omega), Nat.min_eq_right (by omega)]
    refine R_qV (as := [.int (nI T.length)]) rfl rfl iv_D_truncate (sp_D_truncate hi (by omega)) (fun _ z => smP_pI_lo z.1) (by decide) rfl rfl rfl rfl (Nat.le_of_ble_eq_true rfl) (fun σ1 hσ1 => ?_)
    rw [pad_take (by omega)] at hσ1
    exact T_return rfl rfl ⟨_, _, rfl, rfl, hs.trans hσ1.1, hσ1.2⟩
  | succ m ih =>
    intro k τ la hk hi hs h0 e
    subst e
    have t := htx τ hs
    refine R_iload_n rfl rfl ?_
    refine R_aload_n rfl rfl ?_
    refine t.1 rfl (by decide +kernel) (by decide) (Nat.le_of_ble_eq_true rfl) ?_
    refine R_nicmp_lt (x := la) (y := T.length) rfl rfl (by omega) (by omega) (fun _ => ?_) (fun z => by omega)
    refine R_aload_n rfl rfl ?_
    refine R_aload_n rfl rfl ?_
    refine R_iload_n rfl rfl ?_
    refine R_pS (as := [.ref o, .int (nI la)]) rfl rfl iv_L_four (pl_four t (by omega) (by omega)) (by decide) rfl rfl rfl rfl (Nat.le_of_ble_eq_true rfl) ?_
    refine R_aload_n rfl rfl ?_
    refine R_iload_n rfl rfl ?_
    refine R_iconst (v := 4) rfl rfl ?_
    refine R_iaddN (x := la) (y := 4) rfl ?_
    refine R_pS (as := [.ref o, .int (nI (la + 4))]) rfl rfl iv_L_four (pl_four t (by omega) (by omega)) (by decide) rfl rfl rfl rfl (Nat.le_of_ble_eq_true rfl) ?_
    refine R_aload_n rfl rfl ?_
    refine R_iload_n rfl rfl ?_
    refine R_bipush (v := 8) rfl (by decide) ?_
    refine R_iaddN (x := la) (y := 8) rfl ?_
    refine R_pS (as := [.ref o, .int (nI (la + 8))]) rfl rfl iv_L_four (pl_four t (by omega) (by omega)) (by decide) rfl rfl rfl rfl (Nat.le_of_ble_eq_true rfl) ?_
    refine R_aload_n rfl rfl ?_
    refine R_iload_n rfl rfl ?_
    refine R_bipush (v := 12) rfl (by decide) ?_
    refine R_iaddN (x := la) (y := 12) rfl ?_
    refine R_pS (as := [.ref o, .int (nI (la + 12))]) rfl rfl iv_L_four (pl_four t (by omega) (by omega)) (by decide) rfl rfl rfl rfl (Nat.le_of_ble_eq_true rfl) ?_
    refine R_aload_n rfl rfl ?_
    refine R_iload_n rfl rfl ?_
    refine R_bipush (v := 16) rfl (by decide) ?_
    refine R_iaddN (x := la) (y := 16) rfl ?_
    refine R_pS (as := [.ref o, .int (nI (la + 16))]) rfl rfl iv_L_four (pl_four t (by omega) (by omega)) (by decide) rfl rfl rfl rfl (Nat.le_of_ble_eq_true rfl) ?_
    refine R_qV (as := [.int (fw T la 4), .int (fw T (la + 4) 4), .int (fw T (la + 8) 4), .int (fw T (la + 12) 4), .int (fw T (la + 16) 4)]) rfl rfl iv_D_append (sp_D_append hi (by omega)) (fun _ z => smP_pI_lo z.1) (by decide) rfl rfl rfl rfl (Nat.le_of_ble_eq_true rfl) (fun σ1 hσ1 => ?_)
    refine R_istore_n rfl (by decide) ?_
    refine R_iincN (x := la) (m := 20) rfl rfl rfl (by decide) ?_
    refine R_goto rfl rfl ?_
    rw [pad_20 hl] at hσ1
    exact ih (la + 20) σ1 (la + 20) (by omega) hσ1.2 (hs.trans hσ1.1) (by omega) rfl
theorem pl_feed (hB : iC σ 0 []) (htx : ∀ σ1, smP pI σ σ1 → tx (ml σ1 ρ) o T) (hl : ltr T) (hT : T.length ≤ 380) : am_Call am_TX 5 0 c_L_feed [.ref 0, .ref o] (ml σ ρ) (am_Oy none (fun σ1 ρ1 => ρ1 = ρ ∧ smP pI σ σ1 ∧ iC σ1 T.length T)) := by
  have t := htx σ smP.refl
  refine ⟨mf_L_feed, Nat.le_of_ble_eq_true rfl, ?_⟩
  refine R_iconst (v := 0) rfl rfl ?_
  refine R_istore_n rfl (by decide) ?_
  refine R_iconst (v := 0) rfl rfl ?_
  refine R_istore_n rfl (by decide) ?_
  have body : am_R am_TX 5 0 c_L_feed 16 [some (.ref 0), some (.ref o), some (.int (nI 0)), some (.int (nI 0))] [] (ml σ ρ) (am_Oy none (fun σ1 ρ1 => ρ1 = ρ ∧ smP pI σ σ1 ∧ iC σ1 T.length T)) := by
    refine R_aload_n rfl rfl ?_
    refine R_aload_n rfl rfl ?_
    refine R_iload_n rfl rfl ?_
    refine R_pS (as := [.ref o, .int (nI 0)]) rfl rfl iv_L_four (pl_four t (by omega) (by omega)) (by decide) rfl rfl rfl rfl (Nat.le_of_ble_eq_true rfl) ?_
    refine R_aload_n rfl rfl ?_
    refine R_iload_n rfl rfl ?_
    refine R_iconst (v := 4) rfl rfl ?_
    refine R_iaddN (x := 0) (y := 4) rfl ?_
    refine R_pS (as := [.ref o, .int (nI (0 + 4))]) rfl rfl iv_L_four (pl_four t (by omega) (by omega)) (by decide) rfl rfl rfl rfl (Nat.le_of_ble_eq_true rfl) ?_
    refine R_aload_n rfl rfl ?_
    refine R_iload_n rfl rfl ?_
    refine R_bipush (v := 8) rfl (by decide) ?_
    refine R_iaddN (x := 0) (y := 8) rfl ?_
    refine R_pS (as := [.ref o, .int (nI (0 + 8))]) rfl rfl iv_L_four (pl_four t (by omega) (by omega)) (by decide) rfl rfl rfl rfl (Nat.le_of_ble_eq_true rfl) ?_
    refine R_aload_n rfl rfl ?_
    refine R_iload_n rfl rfl ?_
    refine R_bipush (v := 12) rfl (by decide) ?_
    refine R_iaddN (x := 0) (y := 12) rfl ?_
    refine R_pS (as := [.ref o, .int (nI (0 + 12))]) rfl rfl iv_L_four (pl_four t (by omega) (by omega)) (by decide) rfl rfl rfl rfl (Nat.le_of_ble_eq_true rfl) ?_
    refine R_aload_n rfl rfl ?_
    refine R_iload_n rfl rfl ?_
    refine R_bipush (v := 16) rfl (by decide) ?_
    refine R_iaddN (x := 0) (y := 16) rfl ?_
    refine R_pS (as := [.ref o, .int (nI (0 + 16))]) rfl rfl iv_L_four (pl_four t (by omega) (by omega)) (by decide) rfl rfl rfl rfl (Nat.le_of_ble_eq_true rfl) ?_
    refine R_qV (as := [.int (fw T 0 4), .int (fw T (0 + 4) 4), .int (fw T (0 + 8) 4), .int (fw T (0 + 12) 4), .int (fw T (0 + 16) 4)]) rfl rfl iv_D_append (sp_D_append hB (by omega)) (fun _ z => smP_pI_lo z.1) (by decide) rfl rfl rfl rfl (Nat.le_of_ble_eq_true rfl) (fun σ1 hσ1 => ?_)
    refine R_istore_n rfl (by decide) ?_
    refine R_iincN (x := 0) (m := 20) rfl rfl rfl (by decide) ?_
    refine R_goto rfl rfl ?_
    have e := pad_20 hl 0
    rw [show pad T 0 = [] from rfl] at e
    rw [e] at hσ1
    exact lp_feed htx hl hT ((T.length + 19) / 20 - 1) 20 σ1 20 (by omega) hσ1.2 hσ1.1 (by decide) rfl
  refine R_iload_n rfl rfl ?_
  refine R_aload_n rfl rfl ?_
  refine t.1 rfl (by decide +kernel) (by decide) (Nat.le_of_ble_eq_true rfl) ?_
  refine R_nicmp_lt (x := 0) (y := T.length) rfl rfl (by omega) (by omega) (fun _ => body) (fun _ => ?_)
  refine R_iload_n rfl rfl ?_
  exact R_nif_ne (x := 0) rfl rfl (by decide) (fun z => absurd rfl z) (fun _ => body)
end FED
