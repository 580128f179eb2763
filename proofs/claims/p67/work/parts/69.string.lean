/-! ===== StringBuilder made, made a String ===== -/
section SBI
variable {σ : am_G} {ρ : am_Y} {p v cap i : Nat} {T bs : List Int32}
theorem gx_new {sh : Nat × Nat} {k x : Nat} (hk : k < yl ρ) (hl : yl ρ < 1000) : gx k k 1 σ ρ (nN σ (yl ρ)) (pY (nY ρ sh) k 0 x) := by
  refine ⟨⟨by rw [pY_l, nY_l]; omega, by rw [pY_l, nY_l]; exact Nat.le_refl _⟩, fun j s hs => nY_old hs, fun a b ha hap => ?_, fun a b ha hap _ => ?_, fun a b ha => ?_, rfl⟩
  · show (if a = k then _ else (nY ρ sh).2 a b) = _
    rw [if_neg hap]
    exact if_neg (by omega)
  · by_cases h : a < 1000
    · exact nN_o (by omega)
    · have hz : a ≠ yl ρ ∨ a = yl ρ := by omega
      rcases hz with z | z
      · exact nN_o z
      · omega
  · by_cases z : a = yl ρ
    · omega
    · exact if_neg z
theorem pb_init (hp : oA ρ p 11) (z1 : σ.1 p 1 = 0) (z3 : σ.1 p 3 = 0) (hi : (i, bs) ∈ am_SL) (hok : yOk ρ) (hl : yl ρ < 900) : am_Call am_TX 8 2 c_JASB_init [.ref p, .ref (1000 + i)] (ml σ ρ) (am_Oy none (fun σ1 ρ1 => ∃ v cap, sB σ1 ρ1 p v cap bs ∧ yl ρ ≤ v ∧ gx p p 2 σ ρ σ1 ρ1)) := by
  have h70 : bs.length < 70 := sl_b _ hi
  have hpl := hp.lt
  have hpn : p ≠ yl ρ := by omega
  refine ⟨mf_JASB_init, Nat.le_of_ble_eq_true rfl, ?_⟩
  refine R_aload_n rfl rfl ?_
  refine R_objI rfl rfl (Nat.le_of_ble_eq_true rfl) ?_
  refine R_aload_n rfl rfl ?_
  refine R_pT (as := []) (by decide +kernel) jw_b_len iv_JString_length (pt_slength hi) (by decide) rfl rfl hi rfl (Nat.le_of_ble_eq_true rfl) ?_
  refine R_istore_n rfl (by decide) ?_
  refine R_iload_n rfl rfl ?_
  refine R_ldci (b := 0) (v := 2147483631) rfl (by decide) ?_
  refine R_icmp_ge rfl rfl (fun z => ?_) (fun _ => ?_)
  · exfalso
    rw [Int32.le_iff_toInt_le, nI_toInt (by omega), show (2147483631 : Int32).toInt = 2147483631 from rfl] at z
    omega
  refine R_iload_n rfl rfl ?_
  refine R_bipush (v := 16) rfl (by decide) ?_
  refine R_iaddN (x := bs.length) (y := 16) rfl ?_
  refine R_goto rfl rfl ?_
  refine R_istore_n rfl (by decide) ?_
  refine R_aload_n rfl rfl ?_
  refine R_pT (as := []) (by decide +kernel) jw_b_coder iv_JString_coder (pt_coder hi) (by decide) rfl rfl hi rfl (Nat.le_of_ble_eq_true rfl) ?_
  refine R_istore rfl (by decide) ?_
  refine R_aload_n rfl rfl ?_
  refine R_iload rfl rfl ?_
  refine Y_pB rfl hp.S fw_11_1 rfl ?_
  refine R_aload_n rfl rfl ?_
  refine R_iload rfl rfl ?_
  refine R_if_ne rfl rfl (fun z => absurd rfl z) (fun _ => ?_)
  refine R_iload_n rfl rfl ?_
  refine Y_newB (k := 1) (N := bs.length + 16) rfl rfl (by omega) (okL_r hpl okL_n).all (okO_r hpl (okO_h (Nat.le_add_right _ _) (okO_i (okO_i (okO_i okO_n))))).all hok (by omega) ?_
  refine R_goto rfl rfl ?_
  refine Y_pP rfl (hp.up (sh := (3, bs.length + 16))).S fp_11_0 rfl hp.1 (fun _ => rfl) (fun _ => rfl) ?_
  have hS : sB (nN (sI σ p 1 0) (yl ρ)) (pY (nY ρ (3, bs.length + 16)) p 0 (yl ρ)) p (yl ρ) (bs.length + 16) [] := by
    refine ⟨⟨hp.up, ?_, ?_, ?_⟩, ⟨bA_new, Nat.zero_le _, by omega⟩, ⟨fun j hj => absurd hj (Nat.not_lt_zero _), fun j hj => ?_⟩, pY_ok (nY_ok hok) (by rw [nY_l]; omega)⟩
    · show (if p = p then (if (0 : Nat) = 0 then some (yl ρ) else _) else _) = _
      rw [if_pos rfl, if_pos rfl]
    · rw [nN_o hpn, sI_s]
    · rw [nN_o hpn, sI_o (Or.inr (by decide)), z3]
      rfl
    · show fits .byte (.int (if yl ρ = yl ρ then 0 else _)) = true
      rw [if_pos rfl]
      rfl
  have hg : gx p p 1 σ ρ (nN (sI σ p 1 0) (yl ρ)) (pY (nY ρ (3, bs.length + 16)) p 0 (yl ρ)) := by
    obtain ⟨a1, a2, a3, a4, a5, a6⟩ := gx_new (σ := sI σ p 1 0) (ρ := ρ) (sh := (3, bs.length + 16)) (x := yl ρ) hpl (by omega)
    exact ⟨a1, a2, a3, fun a b h1 h2 h3 => (a4 a b h1 h2 h3).trans (sI_o (Or.inl h2)), a5, a6⟩
  refine R_aload_n rfl rfl ?_
  refine R_aload_n rfl rfl ?_
  have hyl : yl (pY (nY ρ (3, bs.length + 16)) p 0 (yl ρ)) = yl ρ + 1 := by rw [pY_l, nY_l]
  refine Y_cU (k := 0) (as := [.ref (1000 + i)]) (by decide +kernel) ju_app jy_app (by show _ ∧ _ ∧ _ = some 1; decide +kernel) (by decide +kernel) (sb_appb hS hi (by show 0 + _ ≤ _; omega) (by omega)) (by decide) rfl rfl hS.1.1.S (by decide) rfl (Nat.le_of_ble_eq_true rfl) okL_n (by rw [hyl]; exact okO_r (by omega) (okO_h (Nat.le_add_right _ _) (okO_i (okO_i (okO_i okO_n))))) (fun σ1 ρ1 hq => ?_)
  obtain ⟨v1, cap1, h1, hv1, hg1⟩ := hq
  refine R_pop rfl rfl ?_
  refine T_return rfl rfl ⟨_, _, rfl, v1, cap1, h1, ?_, hg.tr (Or.inr (Nat.le_refl _)) (by omega) hg1⟩
  rcases hv1 with z | z
  · omega
  · rw [hyl] at z; omega
theorem sb_init (hp : oA ρ p 11) (z1 : σ.1 p 1 = 0) (z3 : σ.1 p 3 = 0) (hi : (i, bs) ∈ am_SL) (hok : yOk ρ) (hl : yl ρ < 900) : am_Call am_TX 9 2 c_JSB_init [.ref p, .ref (1000 + i)] (ml σ ρ) (am_Oy none (fun σ1 ρ1 => ∃ v cap, sB σ1 ρ1 p v cap bs ∧ yl ρ ≤ v ∧ gx p p 2 σ ρ σ1 ρ1)) := by
  have hpl := hp.lt
  refine ⟨mf_JSB_init, Nat.le_of_ble_eq_true rfl, ?_⟩
  refine R_aload_n rfl rfl ?_
  refine R_aload_n rfl rfl ?_
  refine Y_cI (k := 0) (as := [.ref (1000 + i)]) rfl rfl iv_JASB_init (pb_init hp z1 z3 hi hok hl) (by decide) rfl rfl rfl rfl rfl rfl (Nat.le_of_ble_eq_true rfl) okL_n (okO_r hpl (okO_h (Nat.le_add_right _ _) (okO_n))) (fun σ1 ρ1 hq => ?_)
  exact T_return rfl rfl ⟨_, _, rfl, hq⟩
/-! copies of an array's beginning -/
/-- a new array of n bytes at the end, the bytes of v in it -/
def cpP (v n : Nat) (σ : am_G) (ρ : am_Y) (σ1 : am_G) (ρ1 : am_Y) : Prop := ρ1 = nY ρ (3, n) ∧ (∀ a b, a ≠ yl ρ → σ1.1 a b = σ.1 a b) ∧ (∀ j, j < n → σ1.1 (yl ρ) j = σ.1 v j) ∧ (∀ a b, a ≠ yl ρ → σ1.2.1 a b = σ.2.1 a b) ∧ σ1.2.2 = σ.2.2
theorem pb_chk {μ : am_M} {n : Nat} (hn : n ≤ 1000) : am_Call am_TX 0 0 c_JArrays_checkLength [.int 0, .int (nI n)] μ (am_Pu none μ) := by
  refine ⟨mf_JArrays_checkLength, Nat.le_of_ble_eq_true rfl, ?_⟩
  refine R_iload_n rfl rfl ?_
  refine R_iload_n rfl rfl ?_
  refine R_icmp_ge rfl rfl (fun _ => ?_) (fun z => absurd (nI_pos' (by omega)) z)
  exact T_return rfl rfl rfl
theorem pb_cpr {n m : Nat} (hb : bA ρ v m) (hnm : n ≤ m) (hm : m ≤ 900) (hfit : ∀ i, i < m → fits .byte (.int (σ.1 v i)) = true) (hok : yOk ρ) (hl : yl ρ < 999) : am_Call am_TX 1 1 c_JArrays_copyOfRangeByte [.ref v, .int 0, .int (nI n)] (ml σ ρ) (am_Oy (some (.ref (yl ρ))) (cpP v n σ ρ)) := by
  have hvl := hb.lt
  have hne : v ≠ yl ρ := by omega
  refine ⟨mf_JArrays_copyOfRangeByte, Nat.le_of_ble_eq_true rfl, ?_⟩
  refine R_iload_n rfl rfl ?_
  refine R_iload_n rfl rfl ?_
  refine R_pS (as := [.int 0, .int (nI n)]) rfl rfl iv_JArrays_checkLength (pb_chk (by omega)) (by decide) rfl rfl rfl rfl (Nat.le_of_ble_eq_true rfl) ?_
  refine R_iload_n rfl rfl ?_
  refine R_iload_n rfl rfl ?_
  refine R_isubN (x := n) (y := 0) rfl (Nat.zero_le _) ?_
  rw [Nat.sub_zero]
  refine R_istore_n rfl (by decide) ?_
  refine R_iload_n rfl rfl ?_
  refine Y_newB (k := 0) (N := n) rfl rfl (by omega) (okL_n).all (okO_r hvl (okO_i (okO_i (okO_i (okO_0 okO_n))))).all hok (by omega) ?_
  have hb2 : bA (nY ρ (3, n)) v m := hb.up
  have hn2 : bA (nY ρ (3, n)) (yl ρ) n := bA_new
  refine R_astore rfl (by decide) ?_
  refine R_aload_n rfl rfl ?_
  refine R_iload_n rfl rfl ?_
  refine R_aload rfl rfl ?_
  refine R_iconst (v := 0) rfl rfl ?_
  refine R_aload_n rfl rfl ?_
  refine Y_aln rfl hb2.S (by decide) rfl ?_
  refine R_iload_n rfl rfl ?_
  refine R_isubN (x := m) (y := 0) rfl (Nat.zero_le _) ?_
  rw [Nat.sub_zero]
  refine R_iload_n rfl rfl ?_
  refine R_pS (as := [.int (nI m), .int (nI n)]) rfl rfl iv_JMath_min pu_min (by decide) rfl rfl rfl rfl (Nat.le_of_ble_eq_true rfl) ?_
  rw [mn_nI (by omega) (by omega), Nat.min_eq_right hnm]
  refine R_cpy (sp := 0) (dp := 0) (n := n) (by decide +kernel) jn_arr hb2.S hn2.S (by omega) (by omega) ⟨by omega, by omega⟩ (fun i hi => ?_) (Nat.le_of_ble_eq_true rfl) ?_
  · rw [Nat.zero_add]
    show fits .byte (.int ((nN σ (yl ρ)).1 v i)) = true
    rw [nN_o hne]
    exact hfit i (by omega)
  · rw [ml_cp]
    refine R_aload rfl rfl ?_
    refine T_areturnA rfl rfl ⟨_, _, rfl, rfl, fun a b ha => ?_, fun j hj => ?_, fun a b ha => ?_, rfl⟩
    · rw [cpY_o ha, nN_o ha]
    · rw [cpY_w, cp_in (Nat.zero_le _) (by omega), Nat.zero_add, Nat.sub_zero]
      exact nN_o hne
    · exact if_neg ha
theorem pb_range {n m : Nat} (hb : bA ρ v m) (hnm : n ≤ m) (hm : m ≤ 900) (hfit : ∀ i, i < m → fits .byte (.int (σ.1 v i)) = true) (hok : yOk ρ) (hl : yl ρ < 999) : am_Call am_TX 2 1 c_JArrays_copyOfRange [.ref v, .int 0, .int (nI n)] (ml σ ρ) (am_Oy (some (.ref (yl ρ))) (cpP v n σ ρ)) := by
  have hvl := hb.lt
  have hne : v ≠ yl ρ := by omega
  refine ⟨mf_JArrays_copyOfRange, Nat.le_of_ble_eq_true rfl, ?_⟩
  refine R_iload_n rfl rfl ?_
  refine R_if_ne rfl rfl (fun z => absurd rfl z) (fun _ => ?_)
  refine R_iload_n rfl rfl ?_
  refine R_aload_n rfl rfl ?_
  refine Y_aln rfl hb.S (by decide) rfl ?_
  refine R_nicmp_eq (x := n) (y := m) rfl rfl (by omega) (by omega) (fun z => ?_) (fun _ => ?_)
  · subst z
    refine R_aload_n rfl rfl ?_
    refine R_clone (k := 0) rfl (by decide +kernel) (by decide +kernel) hb.S (by omega) hfit (Nat.le_of_ble_eq_true rfl) (ok_st okL_n) (ok_ls (okO_r hvl (okO_i (okO_i okO_n)))) (ml_okP hok) (by rw [ml_len]; omega) ?_
    rw [ml_len, ml_clone]
    refine T_areturnA rfl rfl ⟨_, _, rfl, rfl, fun a b ha => if_neg ha, fun j hj => if_pos rfl, fun a b ha => if_neg ha, rfl⟩
  · refine R_aload_n rfl rfl ?_
    refine R_iload_n rfl rfl ?_
    refine R_iload_n rfl rfl ?_
    refine Y_cS (k := 0) (as := [.ref v, .int 0, .int (nI n)]) rfl rfl iv_JArrays_copyOfRangeByte (pb_cpr hb hnm hm hfit hok hl) (by decide) rfl rfl rfl rfl (Nat.le_of_ble_eq_true rfl) okL_n (okO_r hvl (okO_i (okO_i okO_n))) (fun σ1 ρ1 hq => ?_)
    exact T_areturnA rfl rfl ⟨_, _, rfl, hq⟩
/-- a String at q, its bytes at w -/
def stS (σ : am_G) (ρ : am_Y) (q w : Nat) (T : List Int32) : Prop := (oA ρ q 12 ∧ ρ.2 q 0 = some w ∧ σ.1 q 1 = 0) ∧ bA ρ w T.length ∧ ∀ j, j < T.length → σ.1 w j = T.getD j 0
theorem pb_val {μ : am_M} (h : sB σ ρ p v cap T) (hμ : μ = ml σ ρ) : am_Call am_TX 0 0 c_JASB_getValue [.ref p] μ (am_Pu (some (.ref v)) μ) := by
  subst hμ
  refine ⟨mf_JASB_getValue, Nat.le_of_ble_eq_true rfl, ?_⟩
  refine R_aload_n rfl rfl ?_
  refine Y_gP (x := v) rfl h.1.1.S fp_11_0 h.1.1.1 h.1.2.1 ?_
  exact T_areturnA rfl rfl rfl
theorem pb_len (hp : oA ρ p 11) {x : Int32} (hx : σ.1 p 3 = x) : am_Call am_TX 0 0 c_JASB_length [.ref p] (ml σ ρ) (am_Pu (some (.int x)) (ml σ ρ)) := by
  refine ⟨mf_JASB_length, Nat.le_of_ble_eq_true rfl, ?_⟩
  refine R_aload_n rfl rfl ?_
  refine Y_gIx rfl hp.S fd_11_3 hx ?_
  exact T_ireturn rfl rfl (am_pui rfl)
theorem sb_len (hp : oA ρ p 11) {x : Int32} (hx : σ.1 p 3 = x) : am_Call am_TX 1 0 c_JSB_length [.ref p] (ml σ ρ) (am_Pu (some (.int x)) (ml σ ρ)) := by
  have hpl := hp.lt
  refine ⟨mf_JSB_length, Nat.le_of_ble_eq_true rfl, ?_⟩
  refine R_aload_n rfl rfl ?_
  refine R_pP (as := []) (by decide +kernel) jp_len (by decide) iv_JASB_length (pb_len hp hx) (by decide) rfl rfl hp.S (by decide) rfl (Nat.le_of_ble_eq_true rfl) okL_n (okO_r hpl okO_n) ?_
  exact T_ireturn rfl rfl (am_pui rfl)
/-- String.<init>(AbstractStringBuilder, Void) -/
theorem pb_str {q : Nat} (h : sB σ ρ p v cap T) (hq : oA ρ q 12) (hqp : q ≠ p) (hqv : q ≠ v) (hl : yl ρ < 999) : am_Call am_TX 3 1 c_JString_init [.ref q, .ref p, .null] (ml σ ρ) (am_Oy none (fun σ1 ρ1 => stS σ1 ρ1 q (yl ρ) T ∧ yOk ρ1 ∧ gx q q 1 σ ρ σ1 ρ1)) := by
  obtain ⟨⟨g1, g2, g3, g4⟩, ⟨g5, g6, g7⟩, ⟨g8, g9⟩, g10⟩ := id h
  have hpl := g1.lt
  have hvl := g5.lt
  have hql := hq.lt
  refine ⟨mf_JString_init, Nat.le_of_ble_eq_true rfl, ?_⟩
  refine R_aload_n rfl rfl ?_
  refine R_objI rfl rfl (Nat.le_of_ble_eq_true rfl) ?_
  refine R_aload_n rfl rfl ?_
  refine R_pV (as := []) (by decide +kernel) jw_val iv_JASB_getValue (pb_val h rfl) (by decide) rfl rfl g1.S (by decide) rfl (Nat.le_of_ble_eq_true rfl) ?_
  refine R_astore_n rfl (by decide) ?_
  refine R_aload_n rfl rfl ?_
  refine R_pU (as := []) (by decide +kernel) ju_len jy_len (by decide +kernel) (by decide +kernel) (sb_len g1 g4) (by decide) rfl rfl g1.S (by decide) rfl (Nat.le_of_ble_eq_true rfl) okL_n (okO_r hql (okO_r hpl (by exact ⟨trivial, okO_r hvl (okO_0 okO_n)⟩))) ?_
  refine R_istore rfl (by decide) ?_
  refine R_aload_n rfl rfl ?_
  refine R_pV (as := []) (by decide +kernel) jw_lat2 iv_JASB_isLatin1 (pb_lat g1 g3) (by decide) rfl rfl g1.S (by decide) rfl (Nat.le_of_ble_eq_true rfl) ?_
  refine R_if_eq rfl rfl (fun z => absurd z (by decide)) (fun _ => ?_)
  refine R_aload_n rfl rfl ?_
  refine R_iconst (v := 0) rfl rfl ?_
  refine Y_pBF rfl hq.S fd_12_1 rfl rfl rfl rfl ?_
  refine R_aload_n rfl rfl ?_
  refine R_aload_n rfl rfl ?_
  refine R_iconst (v := 0) rfl rfl ?_
  refine R_iload rfl rfl ?_
  refine Y_cS (k := 0) (as := [.ref v, .int 0, .int (nI T.length)]) rfl rfl iv_JArrays_copyOfRange (pb_range (σ := sI σ q 1 0) g5 g6 g7 (fun i hi => by rw [sI_o (Or.inl (Ne.symm hqv))]; exact g9 i hi) g10 hl) (by decide) rfl rfl rfl rfl (Nat.le_of_ble_eq_true rfl) (okL_r hql okL_n) (okO_r hql (okO_r hpl (by exact ⟨trivial, okO_r hvl (okO_i okO_n)⟩))) (fun σ1 ρ1 hq2 => ?_)
  obtain ⟨rfl, f2, f3, f4, f5⟩ := hq2
  refine Y_pPF rfl (hq.up (sh := (3, T.length))).S fp_12_0 rfl hq.1 (fun _ => rfl) (fun _ => rfl) rfl rfl ?_
  refine R_goto rfl rfl ?_
  have hqn : q ≠ yl ρ := by omega
  refine T_return rfl rfl ⟨_, _, rfl, ⟨⟨hq.up, ?_, ?_⟩, bA_new, fun j hj => ?_⟩, pY_ok (nY_ok g10) (by rw [nY_l]; omega), ⟨by rw [pY_l, nY_l]; omega, by rw [pY_l, nY_l]; exact Nat.le_refl _⟩, fun j s hs => nY_old hs, fun a b ha hap => ?_, fun a b ha hap _ => ?_, fun a b ha => ?_, f5⟩
  · show (if q = q then (if (0 : Nat) = 0 then some (yl ρ) else _) else _) = _
    rw [if_pos rfl, if_pos rfl]
  · rw [f2 _ _ hqn, sI_s]
  · rw [f3 j hj, sI_o (Or.inl (Ne.symm hqv))]
    exact g8 j hj
  · show (if a = q then _ else (nY ρ (3, T.length)).2 a b) = _
    rw [if_neg hap]
    exact if_neg (by omega)
  · rw [f2 _ _ (by omega), sI_o (Or.inl hap)]
  · exact f4 a b (by omega)
theorem sb_str {q : Nat} (h : sB σ ρ p v cap T) (hq : oA ρ q 12) (hqp : q ≠ p) (hqv : q ≠ v) (hl : yl ρ < 999) : am_Call am_TX 4 1 c_JString_init_2 [.ref q, .ref p] (ml σ ρ) (am_Oy none (fun σ1 ρ1 => stS σ1 ρ1 q (yl ρ) T ∧ yOk ρ1 ∧ gx q q 1 σ ρ σ1 ρ1)) := by
  have hpl := h.1.1.lt
  have hql := hq.lt
  refine ⟨mf_JString_init_2, Nat.le_of_ble_eq_true rfl, ?_⟩
  refine R_aload_n rfl rfl ?_
  refine R_aload_n rfl rfl ?_
  refine R_null rfl ?_
  refine Y_cI (k := 0) (as := [.ref p, .null]) rfl rfl iv_JString_init (pb_str h hq hqp hqv hl) (by decide) rfl rfl rfl rfl rfl rfl (Nat.le_of_ble_eq_true rfl) okL_n (okO_r hql (okO_r hpl okO_n)) (fun σ1 ρ1 hq2 => ?_)
  exact T_return rfl rfl ⟨_, _, rfl, hq2⟩
/-- StringBuilder.toString -/
theorem sb_toStr (h : sB σ ρ p v cap T) (hl : yl ρ < 998) : am_Call am_TX 5 2 c_JSB_toString [.ref p] (ml σ ρ) (am_Oy (some (.ref (yl ρ))) (fun σ1 ρ1 => stS σ1 ρ1 (yl ρ) (yl ρ + 1) T ∧ yOk ρ1 ∧ yl ρ1 ≤ yl ρ + 2 ∧ (∀ (j : Nat) (s : Nat × Nat), ρ.1[j]? = some s → ρ1.1[j]? = some s) ∧ (∀ a b, a < yl ρ → ρ1.2 a b = ρ.2 a b) ∧ (∀ a b, (a < yl ρ ∨ 1000 ≤ a) → σ1.1 a b = σ.1 a b) ∧ (∀ a b, (a < yl ρ ∨ 1000 ≤ a) → σ1.2.1 a b = σ.2.1 a b) ∧ σ1.2.2 = σ.2.2)) := by
  obtain ⟨⟨g1, g2, g3, g4⟩, ⟨g5, g6, g7⟩, ⟨g8, g9⟩, g10⟩ := id h
  have hpl := g1.lt
  have hvl := g5.lt
  refine ⟨mf_JSB_toString, Nat.le_of_ble_eq_true rfl, ?_⟩
  refine Y_new (k := 1) rfl (by decide) okL_n.all (okO_r hpl okO_n).all g10 (by omega) ?_
  have hy1 : yl (nY ρ (0, 12)) = yl ρ + 1 := nY_l
  have h2 : sB (nN σ (yl ρ)) (nY ρ (0, 12)) p v cap T := by
    refine ⟨⟨g1.up, ?_, by rw [nN_o (by omega)]; exact g3, by rw [nN_o (by omega)]; exact g4⟩, ⟨g5.up, g6, g7⟩, ⟨fun j hj => by rw [nN_o (by omega)]; exact g8 j hj, fun j hj => by rw [nN_o (by omega)]; exact g9 j hj⟩, nY_ok g10⟩
    exact (if_neg (by omega)).trans g2
  refine R_dup rfl rfl ?_
  refine R_aload_n rfl rfl ?_
  refine Y_cI (k := 0) (as := [.ref p]) rfl rfl iv_JString_init_2 (sb_str h2 oA_new (by omega) (by omega) (by omega)) (by decide) rfl rfl rfl rfl rfl rfl (Nat.le_of_ble_eq_true rfl) (by rw [hy1]; exact okL_r (by omega) okL_n) (by rw [hy1]; exact okO_r (by omega) okO_n) (fun σ1 ρ1 hq2 => ?_)
  obtain ⟨f1, f2, ⟨f3, f4⟩, f5, f6, f7, f8, f9⟩ := hq2
  rw [hy1] at f1 f3 f4
  refine T_areturn rfl rfl ⟨_, _, rfl, f1, f2, by omega, fun j s hs => f5 j s (nY_old hs), fun a b ha => ?_, fun a b ha => ?_, fun a b ha => ?_, f9⟩
  · rw [f6 a b (by omega) (by omega)]
    exact if_neg (by omega)
  · rw [f7 a b (by omega) (by omega) (by omega)]
    exact nN_o (by omega)
  · rw [f8 a b (by omega)]
    exact if_neg (by omega)
end SBI
/-! texts of the memory: length, charAt -/
section STM
variable {σ : am_G} {ρ : am_Y} {q w : Nat} {T : List Int32}
theorem pd_coder (h : stS σ ρ q w T) : am_Call am_TX 0 0 c_JString_coder [.ref q] (ml σ ρ) (am_Pu (some (.int 0)) (ml σ ρ)) := by
  refine ⟨mf_JString_coder, Nat.le_of_ble_eq_true rfl, ?_⟩
  refine R_scs (idx := 38) rfl (by decide +kernel) jf_css ?_
  refine R_if_eq rfl rfl (fun z => absurd z (by decide)) (fun _ => ?_)
  refine R_aload_n rfl rfl ?_
  refine Y_gIx (y := 0) rfl h.1.1.S fd_12_1 h.1.2.2 ?_
  refine R_goto rfl rfl ?_
  exact T_nreturn rfl rfl rfl (am_pui rfl)
theorem pd_lat (h : stS σ ρ q w T) : am_Call am_TX 0 0 c_JString_isLatin1 [.ref q] (ml σ ρ) (am_Pu (some (.int 1)) (ml σ ρ)) := by
  refine ⟨mf_JString_isLatin1, Nat.le_of_ble_eq_true rfl, ?_⟩
  refine R_scs (idx := 38) rfl (by decide +kernel) jf_css ?_
  refine R_if_eq rfl rfl (fun z => absurd z (by decide)) (fun _ => ?_)
  refine R_aload_n rfl rfl ?_
  refine Y_gIx (y := 0) rfl h.1.1.S fd_12_1 h.1.2.2 ?_
  refine R_if_ne rfl rfl (fun z => absurd rfl z) (fun _ => ?_)
  refine R_iconst (v := 1) rfl rfl ?_
  refine R_goto rfl rfl ?_
  exact T_nreturn rfl rfl rfl (am_pui rfl)
theorem pd_length (h : stS σ ρ q w T) : am_Call am_TX 1 0 c_JString_length [.ref q] (ml σ ρ) (am_Pu (some (.int (nI T.length))) (ml σ ρ)) := by
  refine ⟨mf_JString_length, Nat.le_of_ble_eq_true rfl, ?_⟩
  refine R_aload_n rfl rfl ?_
  refine Y_gP (x := w) rfl h.1.1.S fp_12_0 h.1.1.1 h.1.2.1 ?_
  refine Y_aln rfl h.2.1.S (by decide) rfl ?_
  refine R_aload_n rfl rfl ?_
  refine R_pV (ci := 12) (as := []) (by decide +kernel) jw_s_len_coder iv_JString_coder (pd_coder h) (by decide) rfl rfl h.1.1.S (by decide) rfl (Nat.le_of_ble_eq_true rfl) ?_
  refine R_ishr rfl ?_
  exact T_ireturn rfl rfl (am_pui (sb_shr0 _))
/-- a letter below 128 -/
def asc (x : Int32) : Prop := ((x &&& 255).toUInt32 % 65536).toInt32 = x ∧ narrow .char (.int x) = .int x
theorem pd_latin1 {j : Nat} (h : stS σ ρ q w T) (hT : T.length < 1000) (hj : j < T.length) (ha : asc (T.getD j 0)) : am_Call am_TX 2 0 c_JLatin1_charAt [.ref w, .int (nI j)] (ml σ ρ) (am_Pu (some (.int (T.getD j 0))) (ml σ ρ)) := by
  refine ⟨mf_JLatin1_charAt, Nat.le_of_ble_eq_true rfl, ?_⟩
  refine R_iload_n rfl rfl ?_
  refine R_aload_n rfl rfl ?_
  refine Y_aln rfl h.2.1.S (by decide) rfl ?_
  refine R_pS (as := [.int (nI j), .int (nI T.length)]) rfl rfl iv_JString_checkIndex (pt_checkIndex hj (by omega)) (by decide) rfl rfl rfl rfl (Nat.le_of_ble_eq_true rfl) ?_
  refine R_aload_n rfl rfl ?_
  refine R_iload_n rfl rfl ?_
  refine Y_xB (j := j) rfl h.2.1.S rfl hj (by omega) ?_
  rw [h.2.2 j hj]
  refine R_sipush (v := 255) rfl (by decide) ?_
  refine R_iand rfl ?_
  refine R_i2c rfl ?_
  rw [ha.1]
  exact T_nreturn rfl rfl ha.2 (am_pui rfl)
theorem pd_charAt {j : Nat} (h : stS σ ρ q w T) (hT : T.length < 1000) (hj : j < T.length) (ha : asc (T.getD j 0)) : am_Call am_TX 3 0 c_JString_charAt [.ref q, .int (nI j)] (ml σ ρ) (am_Pu (some (.int (T.getD j 0))) (ml σ ρ)) := by
  refine ⟨mf_JString_charAt, Nat.le_of_ble_eq_true rfl, ?_⟩
  refine R_aload_n rfl rfl ?_
  refine R_pV (ci := 12) (as := []) (by decide +kernel) jw_s_chr_lat iv_JString_isLatin1 (pd_lat h) (by decide) rfl rfl h.1.1.S (by decide) rfl (Nat.le_of_ble_eq_true rfl) ?_
  refine R_if_eq rfl rfl (fun z => absurd z (by decide)) (fun _ => ?_)
  refine R_aload_n rfl rfl ?_
  refine Y_gP (x := w) rfl h.1.1.S fp_12_0 h.1.1.1 h.1.2.1 ?_
  refine R_iload_n rfl rfl ?_
  refine R_pS (as := [.ref w, .int (nI j)]) rfl rfl iv_JLatin1_charAt (pd_latin1 h hT hj ha) (by decide) rfl rfl rfl rfl (Nat.le_of_ble_eq_true rfl) ?_
  exact T_nreturn rfl rfl ha.2 (am_pui rfl)
end STM
