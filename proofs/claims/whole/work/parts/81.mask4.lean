/-! ===== the model: pivot, unlucky, relations ===== -/
theorem nV.toU {σ : am_G} {h w rh pn : Nat} {f v rl : am_Gr} {I : Nat → Int32} (hn : nV σ h w f v rh rl pn I) : mV (sI σ 120 4 1) w h (tuF f h w 0) := by
  obtain ⟨hk, e, ee⟩ := hn.toT
  refine ⟨hk, e, ee.imp (fun z => absurd (sI_s.symm.trans z.1) (by decide)) (fun z => ⟨z.1, z.2.1, z.2.2.1, fun i j hi hj => ?_⟩)⟩
  rw [z.2.2.2 i j hi hj]
  show f i j = tuF f h w 0 j i
  unfold tuF
  by_cases c : j < w ∧ i < h
  · rw [if_pos (Or.inl c)]
  · rw [if_neg (by omega)]
    exact hn.2.1.2.2.1 i j hi hj (by omega)
theorem tuF_sm {f : am_Gr} {h w : Nat} (hs : fSm f h w) : fSm (tuF f h w 0) w h := fun i j hi hj => by
  show (tuF f h w 0 i j).toInt.natAbs ≤ 20
  unfold tuF
  rw [if_pos (Or.inl ⟨hi, hj⟩)]; exact hs j i hj hi
theorem lay_1 {σ : am_G} {h w m r : Nat} {f : am_Gr} (hv : mV σ h w f) (hs : fSm f h w) (hmd : m ∈ mdL) (hr : r < h) (hnp : ¬ (prR f m h w h).testBit r = true) : am_Call am_TX 11 0 c_M_layRelation [.ref 120, .int (nI m), .int (nI r)] (mm σ) (am_Ok (some (.int 1)) (fun σ1 => smP pL σ σ1 ∧ xV σ1 (fun k => rlG f m h w r 0 k))) := by
  have z := sp_layRelation hv hs hmd hr
  rw [zP_t hnp] at z
  exact ⟨z.1, z.2.1, z.2.2.mono (am_Ok.mono (fun τ e => ⟨e.1, e.2 hnp⟩))⟩
theorem lay_0 {σ : am_G} {h w m r : Nat} {f : am_Gr} (hv : mV σ h w f) (hs : fSm f h w) (hmd : m ∈ mdL) (hr : r < h) (hnp : (prR f m h w h).testBit r = true) : am_Call am_TX 11 0 c_M_layRelation [.ref 120, .int (nI m), .int (nI r)] (mm σ) (am_Ok (some (.int 0)) (fun σ1 => smP pL σ σ1)) := by
  have z := sp_layRelation hv hs hmd hr
  rw [zP_f (fun y => y hnp)] at z
  exact ⟨z.1, z.2.1, z.2.2.mono (am_Ok.mono (fun τ e => e.1))⟩
theorem tn_fr {σ σ1 : am_G} (h4 : σ.1 120 4 = 0) (q : smP pL (sI σ 120 4 1) σ1) : smP pQ σ (sI σ1 120 4 0) := by
  refine ⟨fun a b hab => ?_, q.2⟩
  by_cases e : a = 120 ∧ b = 4
  · obtain ⟨rfl, rfl⟩ := e
    have z := q.1 120 4 (by unfold pL pW pK; omega)
    exact ⟨sI_s.trans h4.symm, z.2⟩
  · have z := q.1 a b (by unfold pQ at hab; unfold pL pW pK; omega)
    exact ⟨(sI_o (by omega)).trans (z.1.trans (sI_o (by omega))), z.2⟩
theorem md_np {x : Int32} (hb : ∀ n, n ∈ prL → x ≠ nI n) (h0 : ¬ x = 0) : ∀ n, n ∈ mdL → x ≠ nI n := by
  intro n hn
  rcases List.mem_cons.mp hn with e | e
  · subst e; exact h0
  · exact hb n e
theorem rlG_hi {f : am_Gr} {m h w r k : Nat} (hr : r < h) (hh : h ≤ 6) (hk : h ≤ k) (hk6 : k < 6) : rlG f m h w r 0 k = 0 := by
  rw [rlG_k, if_neg (by omega), ← rwI_n (f := f) (m := m) (h := h) (w := w) hr hh hk6]
  unfold rwI
  have hp := prR_lt2 (f := f) (m := m) (h := h) (w := w) r
  rw [if_neg]
  rintro (e | e)
  · omega
  · exact absurd e.1 (tb_hi (Nat.lt_of_lt_of_le hp (Nat.pow_le_pow_right (n := 2) (by omega) (by omega))))
theorem wtF_0 {X : Nat → Int64} {h : Nat} (hz : ∀ k, h ≤ k → k < 6 → X k = 0) : ∀ n, h + n ≤ 6 → 0 ≤ wtF X h → wtF X (h + n) = wtF X h
  | 0, _, _ => rfl
  | n + 1, hn, h0 => by
    have ih := wtF_0 hz n (by omega) h0
    rw [← Nat.add_assoc]
    simp only [wtF]
    rw [ih, hz (h + n) (by omega) (by omega), if_neg]
    intro z
    rw [show absL 0 = 0 from rfl] at z
    exact absurd (Int64.lt_iff_toInt_lt.mp z) (by have := Int64.le_iff_toInt_le.mp h0; omega)
theorem wtF_p {X : Nat → Int64} : ∀ n, 0 ≤ wtF X n
  | 0 => Int64.le_iff_toInt_le.mpr (Int.le_refl _)
  | n + 1 => by
    have ih := @wtF_p X n
    simp only [wtF]
    split
    · next z => exact Int64.le_iff_toInt_le.mpr (by have a := Int64.le_iff_toInt_le.mp ih; have b := Int64.lt_iff_toInt_lt.mp z; omega)
    · exact ih
set_option maxRecDepth 100000 in
set_option maxHeartbeats 4000000 in
theorem lp_mpt {σ : am_G} {h w rh pn : Nat} {f v rl : am_Gr} {I : Nat → Int32} {m r : Nat} {d k0 : Nat} (hn : nV σ h w f v rh rl pn I) (hmd : m ∈ mdL) (r_h : r < h) (hd : 8 ≤ d)  : ∀ (uu i : Nat) (τ : am_G), i + uu = w → (smP pQ σ τ ∧ τ.1 120 0 = 0) → am_R am_TX d k0 c_M_pivot 27 [some (.ref 120), some (.int (nI m)), some (.int (nI r)), some (.int (nI (2 ^ r - 1))), some (.int (nI i)), none, none, none] [] (mm τ) (am_Ok (some (.int (ptF f m h w r uu i))) (fun σ1 => smP pQ σ σ1 ∧ σ1.1 120 0 = 0)) := by
  have hv := hn.toV
  have hs := hn.2.1.2.1
  have hh1 := hv.1.1.1
  have hh6 := hv.1.1.2
  have hw1 := hv.1.2.1
  have hw6 := hv.1.2.2
  have hp6 := hn.2.1.2.2.2.1.1
  have hr6 := hn.2.1.2.2.2.2.2.2.1
  have hs7 := lw_lt hh6
  have ws7 := lw_lt hw6
  have hm97 := md_97 hmd
  intro uu
  induction uu with
  | zero =>
    intro i τ hi hI
    obtain rfl : w = i := by omega
    refine R_iload rfl rfl ?_
    refine R_aload_n rfl rfl ?_
    refine R_cV (as := []) rfl rfl iv_M_columns (sp_columns (hI.1.mV hv (fun b => by unfold pQ; omega) (fun b => by unfold pQ; omega) (by unfold pQ; omega))) (by omega) rfl rfl rfl (by decide) rfl rfl (Nat.le_of_ble_eq_true rfl) (fun _ q => ?_)
    obtain rfl := q.symm
    refine R_nicmp_ge (x := w) (y := w) rfl rfl (by omega) (by omega) (fun g1 => ?_) (fun z => by omega)
    refine R_iconst (v := -1) rfl rfl ?_
    exact T_ireturn rfl rfl (am_oki rfl hI)
  | succ uu ih =>
    intro i τ hi hI
    refine R_iload rfl rfl ?_
    refine R_aload_n rfl rfl ?_
    refine R_cV (as := []) rfl rfl iv_M_columns (sp_columns (hI.1.mV hv (fun b => by unfold pQ; omega) (fun b => by unfold pQ; omega) (by unfold pQ; omega))) (by omega) rfl rfl rfl (by decide) rfl rfl (Nat.le_of_ble_eq_true rfl) (fun _ q => ?_)
    obtain rfl := q.symm
    refine R_nicmp_ge (x := i) (y := w) rfl rfl (by omega) (by omega) (fun z => by omega) (fun g1 => ?_)
    refine R_iconst (v := 1) rfl rfl ?_
    refine R_iload rfl rfl ?_
    refine R_shl1N (y := i) rfl (by omega) ?_
    refine R_iconst (v := 1) rfl rfl ?_
    refine R_isubN (x := (2 ^ i)) (y := 1) rfl (Nat.pos_of_ne_zero (by simp)) ?_
    refine R_istore rfl (by decide) ?_
    refine R_aload_n rfl rfl ?_
    refine R_iload_n rfl rfl ?_
    refine R_iload_n rfl rfl ?_
    refine R_iconst (v := 1) rfl rfl ?_
    refine R_iload_n rfl rfl ?_
    refine R_shl1N (y := r) rfl (by omega) ?_
    refine R_iorB (s := (2 ^ r - 1)) (y := r) rfl (lw_lt (by omega)) (by omega) ?_
    rw [wi_lw (by omega)]
    refine R_iload rfl rfl ?_
    refine R_iconst (v := 1) rfl rfl ?_
    refine R_iload rfl rfl ?_
    refine R_shl1N (y := i) rfl (by omega) ?_
    refine R_iorB (s := ((2 ^ i) - 1)) (y := i) rfl (lw_lt (by omega)) (by omega) ?_
    rw [wi_lw (by omega)]
    refine R_cV (as := [.int (nI m), .int (nI (2 ^ (r + 1) - 1)), .int (nI (2 ^ (i + 1) - 1))]) rfl rfl iv_M_rankBy (sp_rankBy (m := m) (S := (2 ^ (r + 1) - 1)) (T := (2 ^ (i + 1) - 1)) (hI.1.mV hv (fun b => by unfold pQ; omega) (fun b => by unfold pQ; omega) (by unfold pQ; omega)) hs (by omega) (by first | assumption | exact lw_lt (by omega) | exact wi_lt (by first | assumption | omega) (by omega) | exact wo_lt (by first | assumption | omega) (by omega) | omega) (by first | assumption | exact lwP2 (by omega) | omega)) (by omega) rfl rfl rfl (by decide) rfl rfl (Nat.le_of_ble_eq_true rfl) (fun σ2 hσ2 => ?_)
    refine R_iconst (v := 1) rfl rfl ?_
    refine R_isub rfl ?_
    refine R_istore rfl (by decide) ?_
    refine R_iload rfl rfl ?_
    refine R_aload_n rfl rfl ?_
    refine R_iload_n rfl rfl ?_
    refine R_iload_n rfl rfl ?_
    refine R_iload rfl rfl ?_
    refine R_iconst (v := 1) rfl rfl ?_
    refine R_iload rfl rfl ?_
    refine R_shl1N (y := i) rfl (by omega) ?_
    refine R_iorB (s := ((2 ^ i) - 1)) (y := i) rfl (lw_lt (by omega)) (by omega) ?_
    rw [wi_lw (by omega)]
    refine R_cV (as := [.int (nI m), .int (nI (2 ^ r - 1)), .int (nI (2 ^ (i + 1) - 1))]) rfl rfl iv_M_rankBy (sp_rankBy (m := m) (S := (2 ^ r - 1)) (T := (2 ^ (i + 1) - 1)) ((hI.1.trans (hσ2.mono (q := pQ) pQ_W)).mV hv (fun b => by unfold pQ; omega) (fun b => by unfold pQ; omega) (by unfold pQ; omega)) hs (by omega) (by first | assumption | exact lw_lt (by omega) | exact wi_lt (by first | assumption | omega) (by omega) | exact wo_lt (by first | assumption | omega) (by omega) | omega) (by first | assumption | exact lwP2 (by omega) | omega)) (by omega) rfl rfl rfl (by decide) rfl rfl (Nat.le_of_ble_eq_true rfl) (fun σ4 hσ4 => ?_)
    refine R_icmp_ne rfl rfl (fun g2 => ?_) (fun g2 => ?_)
    · refine R_iconst (v := 0) rfl rfl ?_
      refine R_istore rfl (by decide) ?_
      refine R_iload rfl rfl ?_
      refine R_if_eq rfl rfl (fun _ => ?_) (fun z => absurd z (by decide))
      refine R_iincN (x := i) (m := 1) rfl rfl rfl (by decide) ?_
      refine R_goto rfl rfl ?_
      have e := ih (i + 1) _ (by omega) ⟨((hI.1.trans (hσ2.mono (q := pQ) pQ_W)).trans (hσ4.mono (q := pQ) pQ_W)), ((hσ4.i (by unfold pW; omega)).trans ((hσ2.i (by unfold pW; omega)).trans hI.2))⟩
      have q : ptF f m h w r (uu + 1) i = ptF f m h w r uu (i + 1) := if_neg (fun z => g2 ((nI_s1 (Nat.lt_of_le_of_lt (rkO_6 hh6) (by decide)) (Nat.lt_of_le_of_lt (rkO_6 hh6) (by decide))).mpr z.1).symm)
      rw [q]
      exact e.weak ⟨rfl, rfl, rfl, rfl, rfl, trivial⟩
    · refine R_iload rfl rfl ?_
      refine R_aload_n rfl rfl ?_
      refine R_iload_n rfl rfl ?_
      refine R_iload_n rfl rfl ?_
      refine R_iconst (v := 1) rfl rfl ?_
      refine R_iload_n rfl rfl ?_
      refine R_shl1N (y := r) rfl (by omega) ?_
      refine R_iorB (s := (2 ^ r - 1)) (y := r) rfl (lw_lt (by omega)) (by omega) ?_
      rw [wi_lw (by omega)]
      refine R_iload rfl rfl ?_
      refine R_cV (as := [.int (nI m), .int (nI (2 ^ (r + 1) - 1)), .int (nI ((2 ^ i) - 1))]) rfl rfl iv_M_rankBy (sp_rankBy (m := m) (S := (2 ^ (r + 1) - 1)) (T := ((2 ^ i) - 1)) (((hI.1.trans (hσ2.mono (q := pQ) pQ_W)).trans (hσ4.mono (q := pQ) pQ_W)).mV hv (fun b => by unfold pQ; omega) (fun b => by unfold pQ; omega) (by unfold pQ; omega)) hs (by omega) (by first | assumption | exact lw_lt (by omega) | exact wi_lt (by first | assumption | omega) (by omega) | exact wo_lt (by first | assumption | omega) (by omega) | omega) (by first | assumption | exact lwP2 (by omega) | omega)) (by omega) rfl rfl rfl (by decide) rfl rfl (Nat.le_of_ble_eq_true rfl) (fun σ6 hσ6 => ?_)
      refine R_icmp_ne rfl rfl (fun g3 => ?_) (fun g3 => ?_)
      · refine R_iconst (v := 0) rfl rfl ?_
        refine R_istore rfl (by decide) ?_
        refine R_iload rfl rfl ?_
        refine R_if_eq rfl rfl (fun _ => ?_) (fun z => absurd z (by decide))
        refine R_iincN (x := i) (m := 1) rfl rfl rfl (by decide) ?_
        refine R_goto rfl rfl ?_
        have e := ih (i + 1) _ (by omega) ⟨(((hI.1.trans (hσ2.mono (q := pQ) pQ_W)).trans (hσ4.mono (q := pQ) pQ_W)).trans (hσ6.mono (q := pQ) pQ_W)), ((hσ6.i (by unfold pW; omega)).trans ((hσ4.i (by unfold pW; omega)).trans ((hσ2.i (by unfold pW; omega)).trans hI.2)))⟩
        have q : ptF f m h w r (uu + 1) i = ptF f m h w r uu (i + 1) := if_neg (fun z => g3 ((nI_s1 (Nat.lt_of_le_of_lt (rkO_6 hh6) (by decide)) (Nat.lt_of_le_of_lt (rkO_6 hh6) (by decide))).mpr z.2.1).symm)
        rw [q]
        exact e.weak ⟨rfl, rfl, rfl, rfl, rfl, trivial⟩
      · refine R_iconst (v := 1) rfl rfl ?_
        refine R_goto rfl rfl ?_
        refine R_istore rfl (by decide) ?_
        refine R_iload rfl rfl ?_
        refine R_if_eq rfl rfl (fun z => absurd z (by decide)) (fun _ => ?_)
        refine R_iload rfl rfl ?_
        refine R_aload_n rfl rfl ?_
        refine R_iload_n rfl rfl ?_
        refine R_iload_n rfl rfl ?_
        refine R_iload rfl rfl ?_
        refine R_cV (as := [.int (nI m), .int (nI (2 ^ r - 1)), .int (nI ((2 ^ i) - 1))]) rfl rfl iv_M_rankBy (sp_rankBy (m := m) (S := (2 ^ r - 1)) (T := ((2 ^ i) - 1)) ((((hI.1.trans (hσ2.mono (q := pQ) pQ_W)).trans (hσ4.mono (q := pQ) pQ_W)).trans (hσ6.mono (q := pQ) pQ_W)).mV hv (fun b => by unfold pQ; omega) (fun b => by unfold pQ; omega) (by unfold pQ; omega)) hs (by omega) (by first | assumption | exact lw_lt (by omega) | exact wi_lt (by first | assumption | omega) (by omega) | exact wo_lt (by first | assumption | omega) (by omega) | omega) (by first | assumption | exact lwP2 (by omega) | omega)) (by omega) rfl rfl rfl (by decide) rfl rfl (Nat.le_of_ble_eq_true rfl) (fun σ8 hσ8 => ?_)
        refine R_icmp_ne rfl rfl (fun g4 => ?_) (fun g4 => ?_)
        · refine R_iincN (x := i) (m := 1) rfl rfl rfl (by decide) ?_
          refine R_goto rfl rfl ?_
          have e := ih (i + 1) _ (by omega) ⟨((((hI.1.trans (hσ2.mono (q := pQ) pQ_W)).trans (hσ4.mono (q := pQ) pQ_W)).trans (hσ6.mono (q := pQ) pQ_W)).trans (hσ8.mono (q := pQ) pQ_W)), ((hσ8.i (by unfold pW; omega)).trans ((hσ6.i (by unfold pW; omega)).trans ((hσ4.i (by unfold pW; omega)).trans ((hσ2.i (by unfold pW; omega)).trans hI.2))))⟩
          have q : ptF f m h w r (uu + 1) i = ptF f m h w r uu (i + 1) := if_neg (fun z => g4 ((nI_s1 (Nat.lt_of_le_of_lt (rkO_6 hh6) (by decide)) (Nat.lt_of_le_of_lt (rkO_6 hh6) (by decide))).mpr z.2.2).symm)
          rw [q]
          exact e.weak ⟨rfl, rfl, rfl, rfl, rfl, trivial⟩
        · refine R_iload rfl rfl ?_
          exact T_ireturn rfl rfl (am_oki (if_pos ⟨(nI_s1 (Nat.lt_of_le_of_lt (rkO_6 hh6) (by decide)) (Nat.lt_of_le_of_lt (rkO_6 hh6) (by decide))).mp g2.symm, (nI_s1 (Nat.lt_of_le_of_lt (rkO_6 hh6) (by decide)) (Nat.lt_of_le_of_lt (rkO_6 hh6) (by decide))).mp g3.symm, (nI_s1 (Nat.lt_of_le_of_lt (rkO_6 hh6) (by decide)) (Nat.lt_of_le_of_lt (rkO_6 hh6) (by decide))).mp g4.symm⟩).symm ⟨((((hI.1.trans (hσ2.mono (q := pQ) pQ_W)).trans (hσ4.mono (q := pQ) pQ_W)).trans (hσ6.mono (q := pQ) pQ_W)).trans (hσ8.mono (q := pQ) pQ_W)), ((hσ8.i (by unfold pW; omega)).trans ((hσ6.i (by unfold pW; omega)).trans ((hσ4.i (by unfold pW; omega)).trans ((hσ2.i (by unfold pW; omega)).trans hI.2))))⟩)
set_option maxRecDepth 100000 in
set_option maxHeartbeats 4000000 in
theorem sp_M_pivot {σ : am_G} {h w rh pn : Nat} {f v rl : am_Gr} {I : Nat → Int32} {r : Nat} {m : Nat} (hn : nV σ h w f v rh rl pn I) (r_h : r < h) (hmd : m ∈ mdL) : am_Call am_TX 14 0 c_M_pivot [.ref 120, .int (nI m), .int (nI r)] (mm σ) (am_Ok (some (.int (ptF f m h w r w 0))) (fun σ1 => smP pQ σ σ1 ∧ σ1.1 120 0 = 0)) := by
  have hv := hn.toV
  have hs := hn.2.1.2.1
  have hh1 := hv.1.1.1
  have hh6 := hv.1.1.2
  have hw1 := hv.1.2.1
  have hw6 := hv.1.2.2
  have hp6 := hn.2.1.2.2.2.1.1
  have hr6 := hn.2.1.2.2.2.2.2.2.1
  have hs7 := lw_lt hh6
  have ws7 := lw_lt hw6
  have hm97 := md_97 hmd
  refine ⟨mf_M_pivot, Nat.le_of_ble_eq_true rfl, ?_⟩
  refine R_aload_n rfl rfl ?_
  refine R_aload_n rfl rfl ?_
  refine R_iload_n rfl rfl ?_
  refine R_cV (as := [.int (nI r)]) rfl rfl iv_M_isRow (isRow_1 (n := r) hv (by omega)) (by omega) rfl rfl rfl (by decide) rfl rfl (Nat.le_of_ble_eq_true rfl) (fun _ q => ?_)
  obtain rfl := q.symm
  refine R_iload_n rfl rfl ?_
  refine R_cS (as := [.int (nI m)]) rfl rfl iv_M_isModulus (isMod_1 hmd) (by omega) rfl rfl rfl rfl (Nat.le_of_ble_eq_true rfl) (fun _ q => ?_)
  obtain rfl := q.symm
  refine R_cV (as := [.int 1, .int 1]) rfl rfl iv_M_passes2 (pass2_11) (by omega) rfl rfl rfl (by decide) rfl rfl (Nat.le_of_ble_eq_true rfl) (fun _ q => ?_)
  obtain rfl := q.symm
  refine R_if_ne rfl rfl (fun _ => ?_) (fun z => absurd z (by decide))
  refine R_iconst (v := 1) rfl rfl ?_
  refine R_iload_n rfl rfl ?_
  refine R_shl1N (y := r) rfl (by omega) ?_
  refine R_iconst (v := 1) rfl rfl ?_
  refine R_isubN (x := (2 ^ r)) (y := 1) rfl (Nat.pos_of_ne_zero (by simp)) ?_
  refine R_istore_n rfl (by decide) ?_
  refine R_iconst (v := 0) rfl rfl ?_
  refine R_istore rfl (by decide) ?_
  exact (lp_mpt hn hmd r_h (by omega) w 0 _ (by omega) ⟨(smP_sI (p := pQ) (k := 120) (j := 0) (x := 0) (by unfold pQ; omega)), sI_s⟩).weak ⟨rfl, rfl, rfl, rfl, rfl, trivial⟩
set_option maxRecDepth 100000 in
set_option maxHeartbeats 4000000 in
theorem sp_M_pivot_x0 {σ : am_G} {h w rh pn : Nat} {f v rl : am_Gr} {I : Nat → Int32} {m_ : Int32} {x : Int32} (hn : nV σ h w f v rh rl pn I) (hb : ¬ (0 ≤ x ∧ x < nI h)) : am_Call am_TX 14 0 c_M_pivot [.ref 120, .int m_, .int x] (mm σ) (am_Ok (some (.int 0)) (fun σ1 => smP pQ σ σ1 ∧ σ1.1 120 0 = 1)) := by
  have hv := hn.toV
  have hs := hn.2.1.2.1
  have hh1 := hv.1.1.1
  have hh6 := hv.1.1.2
  have hw1 := hv.1.2.1
  have hw6 := hv.1.2.2
  have hp6 := hn.2.1.2.2.2.1.1
  have hr6 := hn.2.1.2.2.2.2.2.2.1
  have hs7 := lw_lt hh6
  have ws7 := lw_lt hw6
  refine ⟨mf_M_pivot, Nat.le_of_ble_eq_true rfl, ?_⟩
  refine R_aload_n rfl rfl ?_
  refine R_aload_n rfl rfl ?_
  refine R_iload_n rfl rfl ?_
  refine R_cV (as := [.int x]) rfl rfl iv_M_isRow (isRow_0 hv hb) (by omega) rfl rfl rfl (by decide) rfl rfl (Nat.le_of_ble_eq_true rfl) (fun _ q => ?_)
  obtain rfl := q.symm
  refine R_iload_n rfl rfl ?_
  refine R_cS (as := [.int m_]) rfl rfl iv_M_isModulus (isMod_u (x := m_)) (by omega) rfl rfl rfl rfl (Nat.le_of_ble_eq_true rfl) (fun _ q => ?_)
  obtain rfl := q.symm
  refine R_cV (as := [.int 0, .int (zP (mdB m_ = true))]) rfl rfl iv_M_passes2 (pass2_0u (P := mdB m_ = true)) (by omega) rfl rfl rfl (by decide) rfl rfl (Nat.le_of_ble_eq_true rfl) (fun _ q => ?_)
  obtain rfl := q.symm
  refine R_if_ne rfl rfl (fun z => absurd z (by decide)) (fun _ => ?_)
  refine R_iconst (v := 0) rfl rfl ?_
  exact T_ireturn rfl rfl (am_oki rfl ⟨(smP_sI (p := pQ) (k := 120) (j := 0) (x := 1) (by unfold pQ; omega)), sI_s⟩)
set_option maxRecDepth 100000 in
set_option maxHeartbeats 4000000 in
theorem sp_M_pivot_x1 {σ : am_G} {h w rh pn : Nat} {f v rl : am_Gr} {I : Nat → Int32} {r : Nat} {x : Int32} (hn : nV σ h w f v rh rl pn I) (r_h : r < h) (hb : ∀ n, n ∈ mdL → x ≠ nI n) : am_Call am_TX 14 0 c_M_pivot [.ref 120, .int x, .int (nI r)] (mm σ) (am_Ok (some (.int 0)) (fun σ1 => smP pQ σ σ1 ∧ σ1.1 120 0 = 2)) := by
  have hv := hn.toV
  have hs := hn.2.1.2.1
  have hh1 := hv.1.1.1
  have hh6 := hv.1.1.2
  have hw1 := hv.1.2.1
  have hw6 := hv.1.2.2
  have hp6 := hn.2.1.2.2.2.1.1
  have hr6 := hn.2.1.2.2.2.2.2.2.1
  have hs7 := lw_lt hh6
  have ws7 := lw_lt hw6
  refine ⟨mf_M_pivot, Nat.le_of_ble_eq_true rfl, ?_⟩
  refine R_aload_n rfl rfl ?_
  refine R_aload_n rfl rfl ?_
  refine R_iload_n rfl rfl ?_
  refine R_cV (as := [.int (nI r)]) rfl rfl iv_M_isRow (isRow_1 (n := r) hv (by omega)) (by omega) rfl rfl rfl (by decide) rfl rfl (Nat.le_of_ble_eq_true rfl) (fun _ q => ?_)
  obtain rfl := q.symm
  refine R_iload_n rfl rfl ?_
  refine R_cS (as := [.int x]) rfl rfl iv_M_isModulus (isMod_0 hb) (by omega) rfl rfl rfl rfl (Nat.le_of_ble_eq_true rfl) (fun _ q => ?_)
  obtain rfl := q.symm
  refine R_cV (as := [.int 1, .int 0]) rfl rfl iv_M_passes2 (pass2_10) (by omega) rfl rfl rfl (by decide) rfl rfl (Nat.le_of_ble_eq_true rfl) (fun _ q => ?_)
  obtain rfl := q.symm
  refine R_if_ne rfl rfl (fun z => absurd z (by decide)) (fun _ => ?_)
  refine R_iconst (v := 0) rfl rfl ?_
  exact T_ireturn rfl rfl (am_oki rfl ⟨(smP_sI (p := pQ) (k := 120) (j := 0) (x := 2) (by unfold pQ; omega)), sI_s⟩)
set_option maxRecDepth 100000 in
set_option maxHeartbeats 4000000 in
theorem lp_mun {σ : am_G} {h w rh pn : Nat} {f v rl : am_Gr} {I : Nat → Int32} {P : Nat → Nat} {d k0 : Nat} (hn : nV σ h w f v rh rl pn I) (hP : prP pn I P) (hd : 8 ≤ d)  : ∀ (uu i : Nat) (τ : am_G), i + uu = pn → (smP pQ σ τ ∧ τ.1 120 0 = 0) → am_R am_TX d k0 c_M_unlucky 9 [some (.ref 120), some (.int (nI (ulF f h w P i))), some (.int (nI i))] [] (mm τ) (am_Ok (some (.int (nI (ulF f h w P pn)))) (fun σ1 => smP pQ σ σ1 ∧ σ1.1 120 0 = 0)) := by
  have hv := hn.toV
  have hs := hn.2.1.2.1
  have hh1 := hv.1.1.1
  have hh6 := hv.1.1.2
  have hw1 := hv.1.2.1
  have hw6 := hv.1.2.2
  have hp6 := hn.2.1.2.2.2.1.1
  have hr6 := hn.2.1.2.2.2.2.2.2.1
  have hs7 := lw_lt hh6
  have ws7 := lw_lt hw6
  intro uu
  induction uu with
  | zero =>
    intro i τ hi hI
    obtain rfl : pn = i := by omega
    skip
    refine R_iload_n rfl rfl ?_
    refine R_aload_n rfl rfl ?_
    refine R_iconst (v := 2) rfl rfl ?_
    refine R_cV (as := [.int 2]) rfl rfl iv_M_get (mget_x (hn.fr hI.1 (fun b => by unfold pQ; omega) (by unfold pQ; omega)) (j := 2) (by omega) (hn.fr hI.1 (fun b => by unfold pQ; omega) (by unfold pQ; omega)).1.2.1.1) (by omega) rfl rfl rfl (by decide) rfl rfl (Nat.le_of_ble_eq_true rfl) (fun _ q => ?_)
    obtain rfl := q.symm
    refine R_nicmp_ge (x := pn) (y := pn) rfl rfl (by omega) (by omega) (fun g1 => ?_) (fun z => by omega)
    refine R_iload_n rfl rfl ?_
    exact T_ireturn rfl rfl (am_oki rfl hI)
  | succ uu ih =>
    intro i τ hi hI
    have hul := @ulF_lt f h w P i (by omega)
    have hpi := prL_le (P i) (hP i (by omega)).2
    have hk1 : rkO f (P i) (2 ^ h - 1) (2 ^ w - 1) h w ≤ 6 := rkO_6 hh6
    have hk2 : rkO f 0 (2 ^ h - 1) (2 ^ w - 1) h w ≤ 6 := rkO_6 hh6
    refine R_iload_n rfl rfl ?_
    refine R_aload_n rfl rfl ?_
    refine R_iconst (v := 2) rfl rfl ?_
    refine R_cV (as := [.int 2]) rfl rfl iv_M_get (mget_x (hn.fr hI.1 (fun b => by unfold pQ; omega) (by unfold pQ; omega)) (j := 2) (by omega) (hn.fr hI.1 (fun b => by unfold pQ; omega) (by unfold pQ; omega)).1.2.1.1) (by omega) rfl rfl rfl (by decide) rfl rfl (Nat.le_of_ble_eq_true rfl) (fun _ q => ?_)
    obtain rfl := q.symm
    refine R_nicmp_ge (x := i) (y := pn) rfl rfl (by omega) (by omega) (fun z => by omega) (fun g1 => ?_)
    refine R_iload_n rfl rfl ?_
    refine R_aload_n rfl rfl ?_
    refine R_aload_n rfl rfl ?_
    refine R_bipush (v := 50) rfl (by decide) ?_
    refine R_iload_n rfl rfl ?_
    refine R_iaddN (x := 50) (y := i) rfl ?_
    refine R_cV (as := [.int (nI (50 + i))]) rfl rfl iv_M_get ((by have z := mget_x (hn.fr hI.1 (fun b => by unfold pQ; omega) (by unfold pQ; omega)) (j := (50 + i)) (by omega) ((hn.fr hI.1 (fun b => by unfold pQ; omega) (by unfold pQ; omega)).1.2.1.2 _ (by omega)) (σ := τ); rw [(hP _ (by omega)).1] at z; exact z)) (by omega) rfl rfl rfl (by decide) rfl rfl (Nat.le_of_ble_eq_true rfl) (fun _ q => ?_)
    obtain rfl := q.symm
    refine R_cV (as := [.int (nI (P i))]) rfl rfl iv_M_rankAll (sp_rankAll (m := (P i)) (hI.1.mV hv (fun b => by unfold pQ; omega) (fun b => by unfold pQ; omega) (by unfold pQ; omega)) hs (by omega)) (by omega) rfl rfl rfl (by decide) rfl rfl (Nat.le_of_ble_eq_true rfl) (fun σ3 hσ3 => ?_)
    refine R_aload_n rfl rfl ?_
    refine R_iconst (v := 0) rfl rfl ?_
    refine R_cV (as := [.int 0]) rfl rfl iv_M_rankAll (sp_rankAll (m := 0) ((hI.1.trans (hσ3.mono (q := pQ) pQ_W)).mV hv (fun b => by unfold pQ; omega) (fun b => by unfold pQ; omega) (by unfold pQ; omega)) hs (by omega)) (by omega) rfl rfl rfl (by decide) rfl rfl (Nat.le_of_ble_eq_true rfl) (fun σ5 hσ5 => ?_)
    refine R_nicmp_ge (x := (rkO f (P i) (2 ^ h - 1) (2 ^ w - 1) h w)) (y := (rkO f 0 (2 ^ h - 1) (2 ^ w - 1) h w)) rfl rfl (by omega) (by omega) (fun g2 => ?_) (fun g2 => ?_)
    · refine R_iconst (v := 0) rfl rfl ?_
      refine R_ior rfl ?_
      rw [Int32.or_zero]
      refine R_istore_n rfl (by decide) ?_
      refine R_iincN (x := i) (m := 1) rfl rfl rfl (by decide) ?_
      refine R_goto rfl rfl ?_
      have e := ih (i + 1) _ (by omega) ⟨((hI.1.trans (hσ3.mono (q := pQ) pQ_W)).trans (hσ5.mono (q := pQ) pQ_W)), ((hσ5.i (by unfold pW; omega)).trans ((hσ3.i (by unfold pW; omega)).trans hI.2))⟩
      rw [show ulF f h w P (i + 1) = ulF f h w P i from by simp only [ulF]; exact if_neg (by omega)] at e
      exact e.weak ⟨rfl, rfl, rfl, trivial⟩
    · refine R_iconst (v := 1) rfl rfl ?_
      refine R_iload_n rfl rfl ?_
      refine R_shl1N (y := i) rfl (by omega) ?_
      refine R_goto rfl rfl ?_
      refine R_iorB (s := (ulF f h w P i)) (y := i) rfl (by first | assumption | omega) (by omega) ?_
      refine R_istore_n rfl (by decide) ?_
      refine R_iincN (x := i) (m := 1) rfl rfl rfl (by decide) ?_
      refine R_goto rfl rfl ?_
      have e := ih (i + 1) _ (by omega) ⟨((hI.1.trans (hσ3.mono (q := pQ) pQ_W)).trans (hσ5.mono (q := pQ) pQ_W)), ((hσ5.i (by unfold pW; omega)).trans ((hσ3.i (by unfold pW; omega)).trans hI.2))⟩
      rw [show ulF f h w P (i + 1) = wi (ulF f h w P i) i from by simp only [ulF]; exact if_pos (by omega)] at e
      exact e.weak ⟨rfl, rfl, rfl, trivial⟩
set_option maxRecDepth 100000 in
set_option maxHeartbeats 4000000 in
theorem sp_M_unlucky {σ : am_G} {h w rh pn : Nat} {f v rl : am_Gr} {I : Nat → Int32} {P : Nat → Nat} (hn : nV σ h w f v rh rl pn I) (hP : prP pn I P) : am_Call am_TX 14 0 c_M_unlucky [.ref 120] (mm σ) (am_Ok (some (.int (nI (ulF f h w P pn)))) (fun σ1 => smP pQ σ σ1 ∧ σ1.1 120 0 = 0)) := by
  have hv := hn.toV
  have hs := hn.2.1.2.1
  have hh1 := hv.1.1.1
  have hh6 := hv.1.1.2
  have hw1 := hv.1.2.1
  have hw6 := hv.1.2.2
  have hp6 := hn.2.1.2.2.2.1.1
  have hr6 := hn.2.1.2.2.2.2.2.2.1
  have hs7 := lw_lt hh6
  have ws7 := lw_lt hw6
  refine ⟨mf_M_unlucky, Nat.le_of_ble_eq_true rfl, ?_⟩
  refine R_aload_n rfl rfl ?_
  refine R_iconst (v := 0) rfl rfl ?_
  refine R_pI rfl rfl fw_11_0 rfl ?_
  refine R_iconst (v := 0) rfl rfl ?_
  refine R_istore_n rfl (by decide) ?_
  refine R_iconst (v := 0) rfl rfl ?_
  refine R_istore_n rfl (by decide) ?_
  exact (lp_mun hn hP (by omega) pn 0 _ (by omega) ⟨(smP_sI (p := pQ) (k := 120) (j := 0) (x := 0) (by unfold pQ; omega)), sI_s⟩).weak ⟨rfl, rfl, rfl, trivial⟩
set_option maxRecDepth 100000 in
set_option maxHeartbeats 4000000 in
theorem lp_mnu {σ : am_G} {h w rh pn : Nat} {f v rl : am_Gr} {I : Nat → Int32} {d k0 : Nat} (hn : nV σ h w f v rh rl pn I) (hd : 8 ≤ d)  : ∀ (uu i : Nat) (τ : am_G), i + uu = 98 → (smP pQ σ τ ∧ τ.1 120 0 = 0 ∧ 2 ≤ i) → am_R am_TX d k0 c_M_nextUnlucky 22 [some (.ref 120), none, some (.int (nI i))] [] (mm τ) (am_Ok (some (.int (nuF f h w uu i))) (fun σ1 => smP pQ σ σ1 ∧ σ1.1 120 0 = 0)) := by
  have hv := hn.toV
  have hs := hn.2.1.2.1
  have hh1 := hv.1.1.1
  have hh6 := hv.1.1.2
  have hw1 := hv.1.2.1
  have hw6 := hv.1.2.2
  have hp6 := hn.2.1.2.2.2.1.1
  have hr6 := hn.2.1.2.2.2.2.2.2.1
  have hs7 := lw_lt hh6
  have ws7 := lw_lt hw6
  intro uu
  induction uu with
  | zero =>
    intro i τ hi hI
    obtain rfl : 98 = i := by omega
    skip
    refine R_iload_n rfl rfl ?_
    refine R_bipush (v := 97) rfl (by decide) ?_
    refine R_nicmp_gt (x := 98) (y := 97) rfl rfl (by omega) (by omega) (fun g1 => ?_) (fun z => by omega)
    refine R_iconst (v := -1) rfl rfl ?_
    exact T_ireturn rfl rfl (am_oki (by first | rfl | (simp only [nuF]; rfl)) ⟨hI.1, hI.2.1⟩)
  | succ uu ih =>
    intro i τ hi hI
    have hk1 : rkO f 0 (2 ^ h - 1) (2 ^ w - 1) h w ≤ 6 := rkO_6 hh6
    have hk2 : rkO f i (2 ^ h - 1) (2 ^ w - 1) h w ≤ 6 := rkO_6 hh6
    have hi2 : 2 ≤ i := hI.2.2
    refine R_iload_n rfl rfl ?_
    refine R_bipush (v := 97) rfl (by decide) ?_
    refine R_nicmp_gt (x := i) (y := 97) rfl rfl (by omega) (by omega) (fun z => by omega) (fun g1 => ?_)
    refine R_iload_n rfl rfl ?_
    refine R_cS (as := [.int (nI i)]) rfl rfl iv_M_isPrime (sp_mprime (n := i) (by omega) (by omega)) (by omega) rfl rfl rfl rfl (Nat.le_of_ble_eq_true rfl) (fun _ q => ?_)
    obtain rfl := q.symm
    refine R_zif_eq rfl rfl (fun g2 => ?_) (fun g2 => ?_)
    · refine R_iincN (x := i) (m := 1) rfl rfl rfl (by decide) ?_
      refine R_goto rfl rfl ?_
      have e := ih (i + 1) _ (by omega) ⟨hI.1, hI.2.1, by omega⟩
      rw [show nuF f h w (uu + 1) i = nuF f h w uu (i + 1) from by simp only [nuF]; exact if_neg (fun z => g2 z.1)]
      exact e.weak ⟨rfl, rfl, trivial⟩
    · refine R_aload_n rfl rfl ?_
      refine R_iload_n rfl rfl ?_
      refine R_cV (as := [.int (nI i)]) rfl rfl iv_M_rankAll (sp_rankAll (m := i) (hI.1.mV hv (fun b => by unfold pQ; omega) (fun b => by unfold pQ; omega) (by unfold pQ; omega)) hs (by omega)) (by omega) rfl rfl rfl (by decide) rfl rfl (Nat.le_of_ble_eq_true rfl) (fun σ2 hσ2 => ?_)
      refine R_aload_n rfl rfl ?_
      refine R_iconst (v := 0) rfl rfl ?_
      refine R_cV (as := [.int 0]) rfl rfl iv_M_rankAll (sp_rankAll (m := 0) ((hI.1.trans (hσ2.mono (q := pQ) pQ_W)).mV hv (fun b => by unfold pQ; omega) (fun b => by unfold pQ; omega) (by unfold pQ; omega)) hs (by omega)) (by omega) rfl rfl rfl (by decide) rfl rfl (Nat.le_of_ble_eq_true rfl) (fun σ4 hσ4 => ?_)
      refine R_nicmp_ge (x := (rkO f i (2 ^ h - 1) (2 ^ w - 1) h w)) (y := (rkO f 0 (2 ^ h - 1) (2 ^ w - 1) h w)) rfl rfl (by omega) (by omega) (fun g3 => ?_) (fun g3 => ?_)
      · refine R_iincN (x := i) (m := 1) rfl rfl rfl (by decide) ?_
        refine R_goto rfl rfl ?_
        have e := ih (i + 1) _ (by omega) ⟨((hI.1.trans (hσ2.mono (q := pQ) pQ_W)).trans (hσ4.mono (q := pQ) pQ_W)), ((hσ4.i (by unfold pW; omega)).trans ((hσ2.i (by unfold pW; omega)).trans hI.2.1)), by omega⟩
        rw [show nuF f h w (uu + 1) i = nuF f h w uu (i + 1) from by simp only [nuF]; exact if_neg (fun z => by omega)]
        exact e.weak ⟨rfl, rfl, trivial⟩
      · refine R_iload_n rfl rfl ?_
        exact T_ireturn rfl rfl (am_oki (by simp only [nuF]; rw [if_pos ⟨g2, by omega⟩]) ⟨((hI.1.trans (hσ2.mono (q := pQ) pQ_W)).trans (hσ4.mono (q := pQ) pQ_W)), ((hσ4.i (by unfold pW; omega)).trans ((hσ2.i (by unfold pW; omega)).trans hI.2.1))⟩)
set_option maxRecDepth 100000 in
set_option maxHeartbeats 4000000 in
theorem sp_M_nextUnlucky {σ : am_G} {h w rh pn : Nat} {f v rl : am_Gr} {I : Nat → Int32} {n : Nat} (hn : nV σ h w f v rh rl pn I) (n_k : 2 ≤ n ∧ n ≤ 97) : am_Call am_TX 14 0 c_M_nextUnlucky [.ref 120, .int (nI n)] (mm σ) (am_Ok (some (.int (nuF f h w (98 - n) n))) (fun σ1 => smP pQ σ σ1 ∧ σ1.1 120 0 = 0)) := by
  have hv := hn.toV
  have hs := hn.2.1.2.1
  have hh1 := hv.1.1.1
  have hh6 := hv.1.1.2
  have hw1 := hv.1.2.1
  have hw6 := hv.1.2.2
  have hp6 := hn.2.1.2.2.2.1.1
  have hr6 := hn.2.1.2.2.2.2.2.2.1
  have hs7 := lw_lt hh6
  have ws7 := lw_lt hw6
  have hrg : (2 : Int32) ≤ nI n ∧ nI n ≤ 97 := rg_g (lo := 2) (k := 97) (by omega) (by omega) (by omega)
  refine ⟨mf_M_nextUnlucky, Nat.le_of_ble_eq_true rfl, ?_⟩
  refine R_aload_n rfl rfl ?_
  refine R_iload_n rfl rfl ?_
  refine R_i2l rfl ?_
  refine R_ldc2 (v := 2) rfl (by decide) ?_
  refine R_ldc2 (v := 97) rfl (by decide) ?_
  refine R_cS (as := [.long ((nI n).toInt64), .long 2, .long 97]) rfl rfl iv_M_in (in_1 (x := (nI n)) (a := 2) (b := 97) hrg rfl rfl) (by omega) rfl rfl rfl rfl (Nat.le_of_ble_eq_true rfl) (fun _ q => ?_)
  obtain rfl := q.symm
  refine R_cV (as := [.int 1]) rfl rfl iv_M_passes (pass_1) (by omega) rfl rfl rfl (by decide) rfl rfl (Nat.le_of_ble_eq_true rfl) (fun _ q => ?_)
  obtain rfl := q.symm
  refine R_if_ne rfl rfl (fun _ => ?_) (fun z => absurd z (by decide))
  refine R_iload_n rfl rfl ?_
  refine R_istore_n rfl (by decide) ?_
  exact (lp_mnu hn (by omega) (98 - n) n _ (by omega) ⟨(smP_sI (p := pQ) (k := 120) (j := 0) (x := 0) (by unfold pQ; omega)), sI_s, by omega⟩).weak ⟨rfl, rfl, trivial⟩
set_option maxRecDepth 100000 in
set_option maxHeartbeats 4000000 in
theorem sp_M_nextUnlucky_x0 {σ : am_G} {h w rh pn : Nat} {f v rl : am_Gr} {I : Nat → Int32} {x : Int32} (hn : nV σ h w f v rh rl pn I) (hb : ¬ (2 ≤ x ∧ x ≤ 97)) : am_Call am_TX 14 0 c_M_nextUnlucky [.ref 120, .int x] (mm σ) (am_Ok (some (.int 0)) (fun σ1 => smP pQ σ σ1 ∧ σ1.1 120 0 = 1)) := by
  have hv := hn.toV
  have hs := hn.2.1.2.1
  have hh1 := hv.1.1.1
  have hh6 := hv.1.1.2
  have hw1 := hv.1.2.1
  have hw6 := hv.1.2.2
  have hp6 := hn.2.1.2.2.2.1.1
  have hr6 := hn.2.1.2.2.2.2.2.2.1
  have hs7 := lw_lt hh6
  have ws7 := lw_lt hw6
  refine ⟨mf_M_nextUnlucky, Nat.le_of_ble_eq_true rfl, ?_⟩
  refine R_aload_n rfl rfl ?_
  refine R_iload_n rfl rfl ?_
  refine R_i2l rfl ?_
  refine R_ldc2 (v := 2) rfl (by decide) ?_
  refine R_ldc2 (v := 97) rfl (by decide) ?_
  refine R_cS (as := [.long x.toInt64, .long 2, .long 97]) rfl rfl iv_M_in (in_0 (x := x) (a := 2) (b := 97) hb rfl rfl) (by omega) rfl rfl rfl rfl (Nat.le_of_ble_eq_true rfl) (fun _ q => ?_)
  obtain rfl := q.symm
  refine R_cV (as := [.int 0]) rfl rfl iv_M_passes (pass_0) (by omega) rfl rfl rfl (by decide) rfl rfl (Nat.le_of_ble_eq_true rfl) (fun _ q => ?_)
  obtain rfl := q.symm
  refine R_if_ne rfl rfl (fun z => absurd z (by decide)) (fun _ => ?_)
  refine R_iconst (v := 0) rfl rfl ?_
  exact T_ireturn rfl rfl (am_oki rfl ⟨(smP_sI (p := pQ) (k := 120) (j := 0) (x := 1) (by unfold pQ; omega)), sI_s⟩)
