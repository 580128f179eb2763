/-! ===== StringBuilder: append of a constant's text, of a small number; toString ===== -/
theorem sl_fit : ∀ q ∈ am_SL, ∀ j, j < 70 → j < q.2.length → fits .byte (.int (q.2.getD j 0)) = true := by decide +kernel
theorem sl_fitj {i j : Nat} {bs : List Int32} (hi : (i, bs) ∈ am_SL) (hj : j < bs.length) : fits .byte (.int (bs.getD j 0)) = true := sl_fit _ hi j (Nat.lt_trans hj (sl_b _ hi)) hj
theorem getD_app_l {α : Type} {a b : List α} {j : Nat} {x : α} (h : j < a.length) : (a ++ b).getD j x = a.getD j x := by
  rw [List.getD_eq_getElem?_getD, List.getElem?_append_left h, List.getD_eq_getElem?_getD]
theorem getD_app_r {α : Type} {a b : List α} {j : Nat} {x : α} (h : a.length ≤ j) : (a ++ b).getD j x = b.getD (j - a.length) x := by
  rw [List.getD_eq_getElem?_getD, List.getElem?_append_right h, List.getD_eq_getElem?_getD]
section SBA
variable {σ : am_G} {ρ : am_Y} {p v cap i : Nat} {T bs : List Int32}
/-- String.getBytes of a constant -/
theorem pb_gb {dp : Nat} (hi : (i, bs) ∈ am_SL) (hb : bA ρ v cap) (hd : dp + bs.length ≤ cap) (hc : cap ≤ 900) : am_Call am_TX 1 0 c_JString_getBytes [.ref (1000 + i), .ref v, .int (nI dp), .int 0] (ml σ ρ) (am_Oy none (fun σ1 ρ1 => ρ1 = ρ ∧ σ1 = cpY σ (fun j => bs.getD j 0) v 0 dp bs.length)) := by
  have h9 := sl_b _ hi
  have h70 : bs.length < 70 := h9
  refine ⟨mf_JString_getBytes, Nat.le_of_ble_eq_true rfl, ?_⟩
  refine R_aload_n rfl rfl ?_
  refine R_pT (as := []) (by decide +kernel) jw_s_gb_coder iv_JString_coder (pt_coder hi) (by decide) rfl rfl hi rfl (Nat.le_of_ble_eq_true rfl) ?_
  refine R_iload_n rfl rfl ?_
  refine R_icmp_ne rfl rfl (fun z => absurd rfl z) (fun _ => ?_)
  refine R_aload_n rfl rfl ?_
  refine R_sval (idx := 9) rfl (by decide +kernel) jf_val hi ?_
  refine R_iconst (v := 0) rfl rfl ?_
  refine R_aload_n rfl rfl ?_
  refine R_iload_n rfl rfl ?_
  refine R_iload_n rfl rfl ?_
  refine R_ishl rfl ?_
  rw [shl0n]
  refine R_aload_n rfl rfl ?_
  refine R_sval (idx := 9) rfl (by decide +kernel) jf_val hi ?_
  refine R_saln rfl hi ?_
  refine R_cpt (by decide +kernel) jn_str hi hb.S rfl hd ⟨by omega, by omega⟩ (fun j hj => sl_fitj hi hj) (Nat.le_of_ble_eq_true rfl) ?_
  rw [ml_cp]
  refine R_goto rfl rfl ?_
  exact T_return rfl rfl ⟨_, _, rfl, rfl, rfl⟩
theorem pb_inf (hp : oA ρ p 11) (h1 : σ.1 p 1 = 0) (hi : (i, bs) ∈ am_SL) : am_Call am_TX 1 0 c_JASB_inflateIfNeededFor [.ref p, .ref (1000 + i)] (ml σ ρ) (am_Pu none (ml σ ρ)) := by
  refine ⟨mf_JASB_inflateIfNeededFor, Nat.le_of_ble_eq_true rfl, ?_⟩
  refine R_bcs rfl (by decide +kernel) ?_
  refine R_if_eq rfl rfl (fun z => absurd z (by decide)) (fun _ => ?_)
  refine R_aload_n rfl rfl ?_
  refine Y_gIx (y := 0) rfl hp.S fd_11_1 h1 ?_
  refine R_aload_n rfl rfl ?_
  refine R_pT (as := []) (by decide +kernel) jw_b_coder iv_JString_coder (pt_coder hi) (by decide) rfl rfl hi rfl (Nat.le_of_ble_eq_true rfl) ?_
  refine R_icmp_eq rfl rfl (fun _ => ?_) (fun z => absurd rfl z)
  exact T_return rfl rfl rfl
theorem pb_put {dp : Nat} (hp : oA ρ p 11) (h0 : ρ.2 p 0 = some v) (h1 : σ.1 p 1 = 0) (hi : (i, bs) ∈ am_SL) (hb : bA ρ v cap) (hd : dp + bs.length ≤ cap) (hc : cap ≤ 900) : am_Call am_TX 2 0 c_JASB_putStringAt [.ref p, .int (nI dp), .ref (1000 + i)] (ml σ ρ) (am_Oy none (fun σ1 ρ1 => ρ1 = ρ ∧ σ1 = cpY σ (fun j => bs.getD j 0) v 0 dp bs.length)) := by
  have hpl := hp.lt
  refine ⟨mf_JASB_putStringAt, Nat.le_of_ble_eq_true rfl, ?_⟩
  refine R_aload_n rfl rfl ?_
  refine R_aload_n rfl rfl ?_
  refine R_pV (as := [.ref (1000 + i)]) (by decide +kernel) jw_inf iv_JASB_inflateIfNeededFor (pb_inf hp h1 hi) (by decide) rfl rfl hp.S (by decide) rfl (Nat.le_of_ble_eq_true rfl) ?_
  refine R_aload_n rfl rfl ?_
  refine R_aload_n rfl rfl ?_
  refine Y_gP (x := v) rfl hp.S fp_11_0 hp.1 h0 ?_
  refine R_iload_n rfl rfl ?_
  refine R_aload_n rfl rfl ?_
  refine Y_gIx (y := 0) rfl hp.S fd_11_1 h1 ?_
  rw [← Nat.zero_add 0]
  refine Y_cT (as := [.ref v, .int (nI dp), .int 0]) (by decide +kernel) jw_b_gb iv_JString_getBytes (pb_gb hi hb hd hc) (by decide) rfl rfl hi rfl (Nat.le_of_ble_eq_true rfl) okL_n (okO_r hpl (okO_i (okO_h (Nat.le_add_right _ _) okO_n))) (fun σ1 ρ1 hq => ?_)
  obtain ⟨rfl, rfl⟩ := hq
  exact T_return rfl rfl ⟨_, _, rfl, rfl, rfl⟩
/-- a text behind another -/
theorem sB_app (h : sB σ ρ p v cap T) (hd : T.length + bs.length ≤ cap) (hfit : ∀ j, j < bs.length → fits .byte (.int (bs.getD j 0)) = true) : sB (sI (cpY σ (fun j => bs.getD j 0) v 0 T.length bs.length) p 3 (nI (T.length + bs.length))) ρ p v cap (T ++ bs) ∧ gx p v 0 σ ρ (sI (cpY σ (fun j => bs.getD j 0) v 0 T.length bs.length) p 3 (nI (T.length + bs.length))) ρ := by
  obtain ⟨⟨g1, g2, g3, g4⟩, ⟨g5, g6, g7⟩, ⟨g8, g9⟩, g10⟩ := h
  have hne := g5.ne g1
  have hl : (T ++ bs).length = T.length + bs.length := List.length_append
  have ev : ∀ j, (sI (cpY σ (fun j => bs.getD j 0) v 0 T.length bs.length) p 3 (nI (T.length + bs.length))).1 v j = va_cpy (fun j => bs.getD j 0) (σ.1 v) 0 T.length bs.length j := fun j => by
    rw [sI_o (Or.inl hne), cpY_w]
  refine ⟨⟨⟨g1, g2, ?_, ?_⟩, ⟨g5, by rw [hl]; exact hd, g7⟩, ⟨fun j hj => ?_, fun j hj => ?_⟩, g10⟩, ⟨Nat.le_refl _, Nat.le_refl _⟩, fun _ _ h => h, fun _ _ _ _ => rfl, fun a b ha hp hv => ?_, fun _ _ _ => rfl, rfl⟩
  · rw [sI_o (Or.inr (by decide)), cpY_o (Ne.symm hne)]; exact g3
  · rw [sI_s, hl]
  · rw [ev]
    rw [hl] at hj
    by_cases h1 : j < T.length
    · rw [cp_out (by omega), g8 j h1, getD_app_l h1]
    · rw [cp_in (by omega) (by omega), getD_app_r (by omega), Nat.zero_add]
  · rw [ev]
    by_cases h1 : T.length ≤ j ∧ j < T.length + bs.length
    · rw [cp_in h1.1 h1.2]
      exact hfit _ (by omega)
    · rw [cp_out h1]
      exact g9 j hj
  · rw [sI_o (Or.inl hp), cpY_o hv]
theorem pb_apps (h : sB σ ρ p v cap T) (hi : (i, bs) ∈ am_SL) (hT : T.length + bs.length ≤ 400) (hl : yl ρ < 999) : am_Call am_TX 4 1 c_JASB_append_s [.ref p, .ref (1000 + i)] (ml σ ρ) (am_Oy (some (.ref p)) (fun σ1 ρ1 => sbP p v 1 (T ++ bs) σ ρ σ1 ρ1)) := by
  obtain ⟨⟨g1, g2, g3, g4⟩, ⟨g5, g6, g7⟩, -, -⟩ := id h
  have hpl := g1.lt
  refine ⟨mf_JASB_append_s, Nat.le_of_ble_eq_true rfl, ?_⟩
  refine R_aload_n rfl rfl ?_
  refine R_ifnonnull (q := 1000 + i) rfl rfl ?_
  refine R_aload_n rfl rfl ?_
  refine R_pT (as := []) (by decide +kernel) jw_b_len iv_JString_length (pt_slength hi) (by decide) rfl rfl hi rfl (Nat.le_of_ble_eq_true rfl) ?_
  refine R_istore_n rfl (by decide) ?_
  refine R_aload_n rfl rfl ?_
  refine R_aload_n rfl rfl ?_
  refine Y_gIx rfl g1.S fd_11_3 g4 ?_
  refine R_iload_n rfl rfl ?_
  refine R_iaddN (x := T.length) (y := bs.length) rfl ?_
  refine Y_cV (k := 0) (as := [.int (nI (T.length + bs.length))]) (by decide +kernel) jw_ens iv_JASB_ensureCapacityInternal (pb_ens h hT (by omega)) (by decide) rfl rfl g1.S (by decide) rfl (Nat.le_of_ble_eq_true rfl) okL_n (okO_r hpl (okO_h (Nat.le_add_right _ _) (okO_i okO_n))) (fun σ1 ρ1 hq => ?_)
  obtain ⟨v1, cap1, h1, hq1, hv1, hg⟩ := hq
  obtain ⟨⟨k1, k2, k3, k4⟩, ⟨k5, k6, k7⟩, -, -⟩ := id h1
  have hpl1 := k1.lt
  have hvl1 := k5.lt
  refine R_aload_n rfl rfl ?_
  refine R_aload_n rfl rfl ?_
  refine Y_gIx rfl k1.S fd_11_3 k4 ?_
  refine R_aload_n rfl rfl ?_
  rw [← Nat.zero_add 0]
  refine Y_cV (as := [.int (nI T.length), .ref (1000 + i)]) (by decide +kernel) jw_put iv_JASB_putStringAt (pb_put k1 k2 k3 hi k5 hq1 k7) (by decide) rfl rfl k1.S (by decide) rfl (Nat.le_of_ble_eq_true rfl) okL_n (okO_r hpl1 (okO_h (Nat.le_add_right _ _) (okO_i okO_n))) (fun σ2 ρ2 hq2 => ?_)
  obtain ⟨rfl, rfl⟩ := hq2
  have hne := k5.ne k1
  obtain ⟨f1, f2⟩ := sB_app h1 hq1 (fun j hj => sl_fitj hi hj)
  refine R_aload_n rfl rfl ?_
  refine R_dup rfl rfl ?_
  refine Y_gIx (y := nI T.length) rfl k1.S fd_11_3 (by rw [cpY_o (Ne.symm hne)]; exact k4) ?_
  refine R_iload_n rfl rfl ?_
  refine R_iaddN (x := T.length) (y := bs.length) rfl ?_
  refine Y_pI rfl k1.S fw_11_3 rfl ?_
  refine R_aload_n rfl rfl ?_
  refine T_areturn rfl rfl ⟨_, _, rfl, v1, cap1, f1, hv1, ?_⟩
  have hbd := hg.1.2
  exact hg.tr (m := 0) hv1 (by omega) f2
theorem sb_apps (h : sB σ ρ p v cap T) (hi : (i, bs) ∈ am_SL) (hT : T.length + bs.length ≤ 400) (hl : yl ρ < 999) : am_Call am_TX 5 1 c_JSB_append_s [.ref p, .ref (1000 + i)] (ml σ ρ) (am_Oy (some (.ref p)) (fun σ1 ρ1 => sbP p v 1 (T ++ bs) σ ρ σ1 ρ1)) := by
  have g1 := h.1.1
  have hpl := g1.lt
  refine ⟨mf_JSB_append_s, Nat.le_of_ble_eq_true rfl, ?_⟩
  refine R_aload_n rfl rfl ?_
  refine R_aload_n rfl rfl ?_
  refine Y_cP (k := 0) (as := [.ref (1000 + i)]) (by decide +kernel) jp_apps (by decide) iv_JASB_append_s (pb_apps h hi hT hl) (by decide) rfl rfl g1.S (by decide) rfl (Nat.le_of_ble_eq_true rfl) okL_n (okO_r hpl (okO_h (Nat.le_add_right _ _) (okO_n))) (fun σ1 ρ1 hq => ?_)
  refine R_pop rfl rfl ?_
  refine R_aload_n rfl rfl ?_
  exact T_areturn rfl rfl ⟨_, _, rfl, hq⟩
theorem sb_appb (h : sB σ ρ p v cap T) (hi : (i, bs) ∈ am_SL) (hT : T.length + bs.length ≤ 400) (hl : yl ρ < 999) : am_Call am_TX 6 1 c_JSB_append_b [.ref p, .ref (1000 + i)] (ml σ ρ) (am_Oy (some (.ref p)) (fun σ1 ρ1 => sbP p v 1 (T ++ bs) σ ρ σ1 ρ1)) := by
  have g1 := h.1.1
  have hpl := g1.lt
  refine ⟨mf_JSB_append_b, Nat.le_of_ble_eq_true rfl, ?_⟩
  refine R_aload_n rfl rfl ?_
  refine R_aload_n rfl rfl ?_
  refine Y_cV (k := 0) (as := [.ref (1000 + i)]) (by decide +kernel) jw_brd iv_JSB_append_s (sb_apps h hi hT hl) (by decide) rfl rfl g1.S (by decide) rfl (Nat.le_of_ble_eq_true rfl) okL_n (okO_r hpl (okO_h (Nat.le_add_right _ _) (okO_n))) (fun σ1 ρ1 hq => ?_)
  exact T_areturn rfl rfl ⟨_, _, rfl, hq⟩
end SBA
/-! numbers of at most two digits -/
def dgP (u : Nat) : List Int32 := if u < 10 then [nI (48 + u)] else [nI (48 + u / 10), nI (48 + u % 10)]
/-- a number's digits; its sign ahead -/
def dgZ (neg : Bool) (u : Nat) : List Int32 := cond neg (45 :: dgP u) (dgP u)
def nZ (neg : Bool) (u : Nat) : Int32 := cond neg (-(nI u)) (nI u)
theorem dg_c1 : ∀ u : Nat, u < 100 → (-(nI u) ≤ (-10 : Int32) ↔ 10 ≤ u) ∧ ((-100 : Int32) < -(nI u)) ∧ ((-9 : Int32) ≤ -(nI u) ↔ u < 10) ∧ - -(nI u) = nI u ∧ (u ≠ 0 → -(nI u) < (0 : Int32)) ∧ ((0 : Int32) ≤ nI u) := by decide +kernel
theorem dg_c2 : ∀ u : Nat, u < 100 → vp_nar .byte (dgO u) = nI (48 + u % 10) ∧ vp_nar .byte (dgT u) = nI (48 + u / 10) ∧ fits .byte (.int (nI (48 + u % 10))) = true ∧ fits .byte (.int (nI (48 + u / 10))) = true := by decide +kernel
theorem dg_45 : vp_nar .byte (45 : Int32) = 45 ∧ fits .byte (.int (45 : Int32)) = true := by decide +kernel
theorem dgP_l {u : Nat} : (dgP u).length = if u < 10 then 1 else 2 := by unfold dgP; split <;> rfl
theorem dgZ_l {neg : Bool} {u : Nat} : (dgZ neg u).length = (if u < 10 then 1 else 2) + cond neg 1 0 := by
  cases neg
  · exact dgP_l
  · show (dgP u).length + 1 = _
    rw [dgP_l]
    rfl
theorem dgZ_fit {neg : Bool} {u : Nat} (hu : u < 100) : ∀ j, j < (dgZ neg u).length → fits .byte (.int ((dgZ neg u).getD j 0)) = true := by
  have key : ∀ u : Nat, u < 100 → ∀ neg : Bool, ∀ j, j < 3 → j < (dgZ neg u).length → fits .byte (.int ((dgZ neg u).getD j 0)) = true := by decide +kernel
  intro j hj
  refine key u hu neg j ?_ hj
  rw [dgZ_l] at hj
  cases neg <;> simp only [cond_true, cond_false] at hj <;> split at hj <;> omega
section DGT
variable {μ : am_M} {neg : Bool} {u : Nat}
theorem pu_size (hu : u < 100) (hn : neg = true → u ≠ 0) : am_Call am_TX 0 0 c_JInteger_stringSize [.int (nZ neg u)] μ (am_Pu (some (.int (nI (dgZ neg u).length))) μ) := by
  obtain ⟨c1, c2, c3, c4, c5, c6⟩ := dg_c1 u hu
  have tail : ∀ s : Nat, s ≤ 1 → (if u < 10 then 1 else 2) + s = (dgZ neg u).length → am_R am_TX 0 0 c_JInteger_stringSize 11 [some (.int (-(nI u))), some (.int (nI s)), none, none] [] μ (am_Pu (some (.int (nI (dgZ neg u).length))) μ) := by
    intro s hs1 hs
    refine R_bipush (v := -10) rfl (by decide) ?_
    refine R_istore_n rfl (by decide) ?_
    refine R_iconst (v := 1) rfl rfl ?_
    refine R_istore_n rfl (by decide) ?_
    refine R_iload_n rfl rfl ?_
    refine R_bipush (v := 10) rfl (by decide) ?_
    refine R_icmp_ge rfl rfl (fun z => absurd z (by decide)) (fun _ => ?_)
    refine R_iload_n rfl rfl ?_
    refine R_iload_n rfl rfl ?_
    refine R_icmp_le rfl rfl (fun z => ?_) (fun z => ?_)
    · have h10 : 10 ≤ u := c1.mp z
      refine R_bipush (v := 10) rfl (by decide) ?_
      refine R_iload_n rfl rfl ?_
      refine R_imul rfl ?_
      rw [show (10 * -10 : Int32) = -100 from rfl]
      refine R_istore_n rfl (by decide) ?_
      refine R_iinc rfl rfl (by decide) ?_
      rw [show (1 : Int32) + Int32.ofInt 1 = 2 from rfl]
      refine R_goto rfl rfl ?_
      refine R_iload_n rfl rfl ?_
      refine R_bipush (v := 10) rfl (by decide) ?_
      refine R_icmp_ge rfl rfl (fun z => absurd z (by decide)) (fun _ => ?_)
      refine R_iload_n rfl rfl ?_
      refine R_iload_n rfl rfl ?_
      refine R_icmp_le rfl rfl (fun z2 => absurd z2 (Int32.not_le.mpr c2)) (fun _ => ?_)
      refine R_iload_n rfl rfl ?_
      refine R_iload_n rfl rfl ?_
      refine R_iadd rfl ?_
      refine T_ireturn rfl rfl (am_pui ?_)
      rw [← hs, if_neg (by omega)]
      exact nI_add 2 s
    · have h10 : u < 10 := Nat.not_le.mp fun y => z (c1.mpr y)
      refine R_iload_n rfl rfl ?_
      refine R_iload_n rfl rfl ?_
      refine R_iadd rfl ?_
      refine T_ireturn rfl rfl (am_pui ?_)
      rw [← hs, if_pos h10]
      exact nI_add 1 s
  refine ⟨mf_JInteger_stringSize, Nat.le_of_ble_eq_true rfl, ?_⟩
  refine R_iconst (v := 1) rfl rfl ?_
  refine R_istore_n rfl (by decide) ?_
  refine R_iload_n rfl rfl ?_
  cases neg with
  | true =>
    refine R_if_lt rfl rfl (fun _ => ?_) (fun z => absurd (c5 (hn rfl)) z)
    exact tail 1 (by decide) (by rw [dgZ_l]; rfl)
  | false =>
    refine R_if_lt rfl rfl (fun z => absurd c6 (Int32.not_le.mpr z)) (fun _ => ?_)
    refine R_iconst (v := 0) rfl rfl ?_
    refine R_istore_n rfl (by decide) ?_
    refine R_iload_n rfl rfl ?_
    refine R_ineg rfl ?_
    refine R_istore_n rfl (by decide) ?_
    exact tail 0 (by decide) (by rw [dgZ_l]; rfl)
end DGT
theorem sI_1 {σ : am_G} {k j a b : Nat} {x : Int32} : (sI σ k j x).1 a b = if a = k then (if b = j then x else σ.1 a b) else σ.1 a b := rfl
section DGC
variable {σ : am_G} {ρ : am_Y} {p v cap e u : Nat} {neg : Bool} {T : List Int32}
/-- the digits laid ahead of e -/
def dgS (σ : am_G) (v e : Nat) (neg : Bool) (u : Nat) : am_G :=
  cond neg (if u < 10 then sI (sI σ v (e - 1) (nI (48 + u % 10))) v (e - 1 - 1) 45 else sI (sI (sI σ v (e - 1) (nI (48 + u % 10))) v (e - 1 - 1) (nI (48 + u / 10))) v (e - 1 - 1 - 1) 45)
    (if u < 10 then sI σ v (e - 1) (nI (48 + u % 10)) else sI (sI σ v (e - 1) (nI (48 + u % 10))) v (e - 1 - 1) (nI (48 + u / 10)))
theorem pb_chars (hb : bA ρ v cap) (hu : u < 100) (hn : neg = true → u ≠ 0) (he : e ≤ cap) (hc : cap ≤ 900) (hs : (dgZ neg u).length ≤ e) : am_Call am_TX 0 0 c_JInteger_getChars [.int (nZ neg u), .int (nI e), .ref v] (ml σ ρ) (am_Oy (some (.int (nI (e - (dgZ neg u).length)))) (fun σ1 ρ1 => ρ1 = ρ ∧ σ1 = dgS σ v e neg u)) := by
  obtain ⟨c1, c2, c3, c4, c5, c6⟩ := dg_c1 u hu
  obtain ⟨d1, d2, -, -⟩ := dg_c2 u hu
  rw [dgZ_l] at hs ⊢
  have tail : ∀ (s : Int32) (x : Int32) (ls3 ls4 : Option Value), (s = cond neg 1 0) → am_R am_TX 0 0 c_JInteger_getChars 22 [some (.int (-(nI u))), some (.int (nI e)), some (.ref v), ls3, ls4, some (.int (nI e)), some (.int s)] [] (ml σ ρ) (am_Oy (some (.int (nI (e - ((if u < 10 then 1 else 2) + cond neg 1 0))))) (fun σ1 ρ1 => ρ1 = ρ ∧ σ1 = dgS σ v e neg u)) := by
    intro s x ls3 ls4 hs2
    have h1e : 1 ≤ e := by split at hs <;> cases neg <;> simp only [cond_true, cond_false] at hs <;> omega
    refine R_iload_n rfl rfl ?_
    refine R_bipush (v := -100) rfl (by decide) ?_
    refine R_icmp_gt rfl rfl (fun _ => ?_) (fun z => absurd c2 z)
    refine R_aload_n rfl rfl ?_
    refine R_idecN (x := e) rfl rfl rfl h1e (by decide) ?_
    refine R_iload rfl rfl ?_
    refine R_gsO rfl (by decide +kernel) jf_dgO ?_
    refine R_iload_n rfl rfl ?_
    refine R_ineg rfl ?_
    rw [c4]
    refine R_dgO (j := u) rfl rfl hu ?_
    refine Y_wB (j := e - 1) rfl hb.S rfl (by omega) (by omega) ?_
    rw [d1]
    refine R_iload_n rfl rfl ?_
    refine R_bipush (v := -9) rfl (by decide) ?_
    refine R_icmp_ge rfl rfl (fun z => ?_) (fun z => ?_)
    · have h10 : u < 10 := c3.mp z
      rw [if_pos h10] at hs ⊢
      refine R_iload rfl rfl ?_
      subst hs2
      cases neg with
      | false =>
        refine R_if_eq rfl rfl (fun _ => ?_) (fun z => absurd rfl z)
        refine R_iload rfl rfl ?_
        exact T_ireturn rfl rfl ⟨_, _, rfl, rfl, by unfold dgS; simp only [cond_true, cond_false, if_pos h10]⟩
      | true =>
        refine R_if_eq rfl rfl (fun z => absurd z (by decide)) (fun _ => ?_)
        refine R_aload_n rfl rfl ?_
        refine R_idecN (x := e - 1) rfl rfl rfl (by simp only [cond_true] at hs; omega) (by decide) ?_
        refine R_iload rfl rfl ?_
        refine R_bipush (v := 45) rfl (by decide) ?_
        refine Y_wB (j := e - 1 - 1) rfl hb.S rfl (by omega) (by omega) ?_
        rw [dg_45.1]
        refine R_iload rfl rfl ?_
        exact T_ireturn rfl rfl ⟨_, _, rfl, rfl, by unfold dgS; simp only [cond_true, cond_false, if_pos h10]⟩
    · have h10 : ¬ u < 10 := fun y => z (c3.mpr y)
      rw [if_neg h10] at hs ⊢
      refine R_aload_n rfl rfl ?_
      refine R_idecN (x := e - 1) rfl rfl rfl (by cases neg <;> simp only [cond_true, cond_false] at hs <;> omega) (by decide) ?_
      refine R_iload rfl rfl ?_
      refine R_gsT rfl (by decide +kernel) jf_dgT ?_
      refine R_iload_n rfl rfl ?_
      refine R_ineg rfl ?_
      rw [c4]
      refine R_dgT (j := u) rfl rfl hu ?_
      refine Y_wB (j := e - 1 - 1) rfl hb.S rfl (by omega) (by omega) ?_
      rw [d2]
      refine R_iload rfl rfl ?_
      subst hs2
      cases neg with
      | false =>
        refine R_if_eq rfl rfl (fun _ => ?_) (fun z => absurd rfl z)
        refine R_iload rfl rfl ?_
        exact T_ireturn rfl rfl ⟨_, _, rfl, rfl, by unfold dgS; simp only [cond_true, cond_false, if_neg h10]⟩
      | true =>
        refine R_if_eq rfl rfl (fun z => absurd z (by decide)) (fun _ => ?_)
        refine R_aload_n rfl rfl ?_
        refine R_idecN (x := e - 1 - 1) rfl rfl rfl (by simp only [cond_true] at hs; omega) (by decide) ?_
        refine R_iload rfl rfl ?_
        refine R_bipush (v := 45) rfl (by decide) ?_
        refine Y_wB (j := e - 1 - 1 - 1) rfl hb.S rfl (by omega) (by omega) ?_
        rw [dg_45.1]
        refine R_iload rfl rfl ?_
        exact T_ireturn rfl rfl ⟨_, _, rfl, rfl, by unfold dgS; simp only [cond_true, cond_false, if_neg h10]⟩
  refine ⟨mf_JInteger_getChars, Nat.le_of_ble_eq_true rfl, ?_⟩
  refine R_iload_n rfl rfl ?_
  refine R_istore rfl (by decide) ?_
  refine R_iload_n rfl rfl ?_
  cases neg with
  | true =>
    refine R_if_ge rfl rfl (fun z => absurd (c5 (hn rfl)) (Int32.not_lt.mpr z)) (fun _ => ?_)
    refine R_iconst (v := 1) rfl rfl ?_
    refine R_goto rfl rfl ?_
    refine R_istore rfl (by decide) ?_
    refine R_iload rfl rfl ?_
    refine R_if_ne rfl rfl (fun _ => ?_) (fun z => absurd z (by decide))
    exact tail 1 0 _ _ rfl
  | false =>
    refine R_if_ge rfl rfl (fun _ => ?_) (fun z => absurd c6 z)
    refine R_iconst (v := 0) rfl rfl ?_
    refine R_istore rfl (by decide) ?_
    refine R_iload rfl rfl ?_
    refine R_if_ne rfl rfl (fun z => absurd rfl z) (fun _ => ?_)
    refine R_iload_n rfl rfl ?_
    refine R_ineg rfl ?_
    refine R_istore_n rfl (by decide) ?_
    exact tail 0 0 _ _ rfl
/-- the digits behind a text -/
theorem dgS_at (hu : u < 100) (he : e = T.length + (dgZ neg u).length) {a j : Nat} : (dgS σ v e neg u).1 a j = if a = v ∧ T.length ≤ j ∧ j < e then (dgZ neg u).getD (j - T.length) 0 else σ.1 a j := by
  rw [dgZ_l] at he
  by_cases ha : a = v
  · subst ha
    by_cases h10 : u < 10
    · rw [if_pos h10] at he
      have e1 : u % 10 = u := Nat.mod_eq_of_lt h10
      cases neg with
      | false =>
        simp only [cond_false] at he
        unfold dgS dgZ dgP
        simp only [cond_false, if_pos h10, sI_1, if_pos, true_and, e1]
        by_cases h1 : j = e - 1
        · rw [if_pos h1, if_pos (by omega), show j - T.length = 0 by omega]; rfl
        · rw [if_neg h1, if_neg (by omega)]
      | true =>
        simp only [cond_true] at he
        unfold dgS dgZ dgP
        simp only [cond_true, if_pos h10, sI_1, if_pos, true_and, e1]
        by_cases h1 : j = e - 1 - 1
        · rw [if_pos h1, if_pos (by omega), show j - T.length = 0 by omega]; rfl
        · rw [if_neg h1]
          by_cases h2 : j = e - 1
          · rw [if_pos h2, if_pos (by omega), show j - T.length = 1 by omega]; rfl
          · rw [if_neg h2, if_neg (by omega)]
    · rw [if_neg h10] at he
      cases neg with
      | false =>
        simp only [cond_false] at he
        unfold dgS dgZ dgP
        simp only [cond_false, if_neg h10, sI_1, if_pos, true_and]
        by_cases h1 : j = e - 1 - 1
        · rw [if_pos h1, if_pos (by omega), show j - T.length = 0 by omega]; rfl
        · rw [if_neg h1]
          by_cases h2 : j = e - 1
          · rw [if_pos h2, if_pos (by omega), show j - T.length = 1 by omega]; rfl
          · rw [if_neg h2, if_neg (by omega)]
      | true =>
        simp only [cond_true] at he
        unfold dgS dgZ dgP
        simp only [cond_true, if_neg h10, sI_1, if_pos, true_and]
        by_cases h1 : j = e - 1 - 1 - 1
        · rw [if_pos h1, if_pos (by omega), show j - T.length = 0 by omega]; rfl
        · rw [if_neg h1]
          by_cases h2 : j = e - 1 - 1
          · rw [if_pos h2, if_pos (by omega), show j - T.length = 1 by omega]; rfl
          · rw [if_neg h2]
            by_cases h3 : j = e - 1
            · rw [if_pos h3, if_pos (by omega), show j - T.length = 2 by omega]; rfl
            · rw [if_neg h3, if_neg (by omega)]
  · rw [if_neg (fun z => ha z.1)]
    unfold dgS
    cases neg <;> simp only [cond_true, cond_false] <;> split <;> simp only [sI_1, if_neg ha]
theorem dgS_2 : (dgS σ v e neg u).2 = σ.2 := by
  unfold dgS
  cases neg <;> simp only [cond_true, cond_false] <;> split <;> rfl
theorem sB_dg (h : sB σ ρ p v cap T) (hu : u < 100) (hd : T.length + (dgZ neg u).length ≤ cap) : sB (sI (dgS σ v (T.length + (dgZ neg u).length) neg u) p 3 (nI (T.length + (dgZ neg u).length))) ρ p v cap (T ++ dgZ neg u) ∧ gx p v 0 σ ρ (sI (dgS σ v (T.length + (dgZ neg u).length) neg u) p 3 (nI (T.length + (dgZ neg u).length))) ρ := by
  obtain ⟨⟨g1, g2, g3, g4⟩, ⟨g5, g6, g7⟩, ⟨g8, g9⟩, g10⟩ := h
  have hne := g5.ne g1
  have hl : (T ++ dgZ neg u).length = T.length + (dgZ neg u).length := List.length_append
  have ev : ∀ j, (sI (dgS σ v (T.length + (dgZ neg u).length) neg u) p 3 (nI (T.length + (dgZ neg u).length))).1 v j = if T.length ≤ j ∧ j < T.length + (dgZ neg u).length then (dgZ neg u).getD (j - T.length) 0 else σ.1 v j := fun j => by
    rw [sI_o (Or.inl hne), dgS_at (T := T) hu rfl]
    simp only [true_and]
  have eo : ∀ a b, a ≠ v → (dgS σ v (T.length + (dgZ neg u).length) neg u).1 a b = σ.1 a b := fun a b ha => by
    rw [dgS_at (T := T) hu rfl, if_neg (fun z => ha z.1)]
  refine ⟨⟨⟨g1, g2, ?_, ?_⟩, ⟨g5, by rw [hl]; exact hd, g7⟩, ⟨fun j hj => ?_, fun j hj => ?_⟩, g10⟩, ⟨Nat.le_refl _, Nat.le_refl _⟩, fun _ _ h => h, fun _ _ _ _ => rfl, fun a b ha hp hv => ?_, fun a b _ => ?_, ?_⟩
  · rw [sI_o (Or.inr (by decide)), eo _ _ (Ne.symm hne)]; exact g3
  · rw [sI_s, hl]
  · rw [ev]
    rw [hl] at hj
    by_cases h1 : j < T.length
    · rw [if_neg (by omega), g8 j h1, getD_app_l h1]
    · rw [if_pos (by omega), getD_app_r (by omega)]
  · rw [ev]
    by_cases h1 : T.length ≤ j ∧ j < T.length + (dgZ neg u).length
    · rw [if_pos h1]
      exact dgZ_fit hu _ (by omega)
    · rw [if_neg h1]
      exact g9 j hj
  · rw [sI_o (Or.inl hp), eo _ _ hv]
  · show (dgS σ v (T.length + (dgZ neg u).length) neg u).2.1 a b = _
    rw [dgS_2]
  · show (dgS σ v (T.length + (dgZ neg u).length) neg u).2.2 = _
    rw [dgS_2]
theorem pb_appi (h : sB σ ρ p v cap T) (hu : u < 100) (hn : neg = true → u ≠ 0) (hT : T.length + 3 ≤ 400) (hl : yl ρ < 999) : am_Call am_TX 4 1 c_JASB_append_i [.ref p, .int (nZ neg u)] (ml σ ρ) (am_Oy (some (.ref p)) (fun σ1 ρ1 => sbP p v 1 (T ++ dgZ neg u) σ ρ σ1 ρ1)) := by
  obtain ⟨⟨g1, g2, g3, g4⟩, ⟨g5, g6, g7⟩, -, -⟩ := id h
  have hpl := g1.lt
  have hl3 : (dgZ neg u).length ≤ 3 := by
    rw [dgZ_l]
    cases neg <;> simp only [cond_true, cond_false] <;> split <;> omega
  refine ⟨mf_JASB_append_i, Nat.le_of_ble_eq_true rfl, ?_⟩
  refine R_aload_n rfl rfl ?_
  refine Y_gIx rfl g1.S fd_11_3 g4 ?_
  refine R_istore_n rfl (by decide) ?_
  refine R_iload_n rfl rfl ?_
  refine R_iload_n rfl rfl ?_
  refine R_pS (as := [.int (nZ neg u)]) rfl rfl iv_JInteger_stringSize (pu_size hu hn) (by decide) rfl rfl rfl rfl (Nat.le_of_ble_eq_true rfl) ?_
  refine R_iaddN (x := T.length) (y := (dgZ neg u).length) rfl ?_
  refine R_istore_n rfl (by decide) ?_
  refine R_aload_n rfl rfl ?_
  refine R_iload_n rfl rfl ?_
  refine Y_cV (k := 0) (as := [.int (nI (T.length + (dgZ neg u).length))]) (by decide +kernel) jw_ens iv_JASB_ensureCapacityInternal (pb_ens h (by omega) (by omega)) (by decide) rfl rfl g1.S (by decide) rfl (Nat.le_of_ble_eq_true rfl) okL_n (okO_r hpl (okO_i (okO_i (okO_i okO_n)))) (fun σ1 ρ1 hq => ?_)
  obtain ⟨v1, cap1, h1, hq1, hv1, hg⟩ := hq
  obtain ⟨⟨k1, k2, k3, k4⟩, ⟨k5, k6, k7⟩, -, -⟩ := id h1
  have hpl1 := k1.lt
  have hvl1 := k5.lt
  refine R_aload_n rfl rfl ?_
  refine R_pV (as := []) (by decide +kernel) jw_lat iv_JASB_isLatin1 (pb_lat k1 k3) (by decide) rfl rfl k1.S (by decide) rfl (Nat.le_of_ble_eq_true rfl) ?_
  refine R_if_eq rfl rfl (fun z => absurd z (by decide)) (fun _ => ?_)
  refine R_iload_n rfl rfl ?_
  refine R_iload_n rfl rfl ?_
  refine R_aload_n rfl rfl ?_
  refine Y_gP (x := v1) rfl k1.S fp_11_0 k1.1 k2 ?_
  rw [← Nat.zero_add 0]
  refine Y_cS (as := [.int (nZ neg u), .int (nI (T.length + (dgZ neg u).length)), .ref v1]) rfl rfl iv_JInteger_getChars (pb_chars k5 hu hn hq1 k7 (by omega)) (by decide) rfl rfl rfl rfl (Nat.le_of_ble_eq_true rfl) okL_n (okO_r hpl1 (okO_i (okO_i (okO_i okO_n)))) (fun σ2 ρ2 hq2 => ?_)
  obtain ⟨rfl, rfl⟩ := hq2
  obtain ⟨f1, f2⟩ := sB_dg (neg := neg) h1 hu hq1
  refine R_pop rfl rfl ?_
  refine R_goto rfl rfl ?_
  refine R_aload_n rfl rfl ?_
  refine R_iload_n rfl rfl ?_
  refine Y_pI rfl k1.S fw_11_3 rfl ?_
  refine R_aload_n rfl rfl ?_
  refine T_areturn rfl rfl ⟨_, _, rfl, v1, cap1, f1, hv1, ?_⟩
  have hbd := hg.1.2
  exact hg.tr (m := 0) hv1 (by omega) f2
theorem sb_appi (h : sB σ ρ p v cap T) (hu : u < 100) (hn : neg = true → u ≠ 0) (hT : T.length + 3 ≤ 400) (hl : yl ρ < 999) : am_Call am_TX 5 1 c_JSB_append_i [.ref p, .int (nZ neg u)] (ml σ ρ) (am_Oy (some (.ref p)) (fun σ1 ρ1 => sbP p v 1 (T ++ dgZ neg u) σ ρ σ1 ρ1)) := by
  have g1 := h.1.1
  have hpl := g1.lt
  refine ⟨mf_JSB_append_i, Nat.le_of_ble_eq_true rfl, ?_⟩
  refine R_aload_n rfl rfl ?_
  refine R_iload_n rfl rfl ?_
  refine Y_cP (k := 0) (as := [.int (nZ neg u)]) (by decide +kernel) jp_appi (by decide) iv_JASB_append_i (pb_appi h hu hn hT hl) (by decide) rfl rfl g1.S (by decide) rfl (Nat.le_of_ble_eq_true rfl) okL_n (okO_r hpl (okO_i okO_n)) (fun σ1 ρ1 hq => ?_)
  refine R_pop rfl rfl ?_
  refine R_aload_n rfl rfl ?_
  exact T_areturn rfl rfl ⟨_, _, rfl, hq⟩
end DGC
