/-! ===== the model: negateRow, addRow, clearing, transpose ===== -/
theorem adM_put {τ : am_G} {h w rh pn a b i : Nat} {f v rl : am_Gr} {I : Nat → Int32} {F : Int32} {x : Int64} (hn : nV τ h w (adM f a b F i) v rh rl pn I) (ha : a < h) (hi : i < w) (ex : x = f a i + F.toInt64 * f b i) (hx : x.toInt.natAbs ≤ 20) : nV (sL τ 121 (14 + 6 * a + i) x) h w (adM f a b F (i + 1)) v rh rl pn I := by
  have z := nV_put hn ha hi hx
  rw [ex, adM_s, ← ex] at z; exact z
theorem absL_20 {x : Int64} : absL x ≤ 20 ↔ (-20 ≤ x.toInt ∧ x.toInt ≤ 20) ∨ x.toInt = -2 ^ 63 := by
  rw [Int64.le_iff_toInt_le, show (20 : Int64).toInt = 20 from rfl]
  have h1 := Int64.le_toInt x
  have h2 := Int64.toInt_lt x
  unfold absL
  by_cases c : x < 0
  · rw [if_pos c, Int64.toInt_neg]
    rw [Int64.lt_iff_toInt_lt, l0] at c
    by_cases d : x.toInt = -2 ^ 63
    · rw [d]
      exact ⟨fun _ => Or.inr rfl, fun _ => by decide⟩
    · rw [Int.bmod_eq_of_le (by omega) (by omega)]
      omega
  · rw [if_neg c]
    rw [Int64.lt_iff_toInt_lt, l0] at c
    omega
set_option maxRecDepth 100000 in
set_option maxHeartbeats 4000000 in
theorem lp_mng {σ : am_G} {h w rh pn : Nat} {f v rl : am_Gr} {I : Nat → Int32} {r : Nat} {d k0 : Nat} {Q : am_Res → Prop} (hn : nV σ h w f v rh rl pn I) (r_h : r < h) (hd : 2 ≤ d) (hx : ∀ (τ : am_G), (smP p121 σ τ ∧ nV τ h w (adM f r r (-2) w) v rh rl pn I) → am_R am_TX d k0 c_M_negateRow 56 [some (.ref 120), some (.int (nI r)), some (.int (nI w))] [] (mm τ) Q) : ∀ (uu i : Nat) (τ : am_G), i + uu = w → (smP p121 σ τ ∧ nV τ h w (adM f r r (-2) i) v rh rl pn I) → am_R am_TX d k0 c_M_negateRow 20 [some (.ref 120), some (.int (nI r)), some (.int (nI i))] [] (mm τ) Q := by
  have hv := hn.toV
  have hs := hn.2.1.2.1
  have hh1 := hv.1.1.1
  have hh6 := hv.1.1.2
  have hw1 := hv.1.2.1
  have hw6 := hv.1.2.2
  have hp6 := hn.2.1.2.2.2.1.1
  have hr6 := hn.2.1.2.2.2.2.2.2.1
  have hs7 := lw_lt hh6
  have ws7 := lw_lt hw6
  intro uu
  induction uu with
  | zero =>
    intro i τ hi hI
    obtain rfl : w = i := by omega
    refine R_iload_n rfl rfl ?_
    refine R_aload_n rfl rfl ?_
    refine R_cV (as := []) rfl rfl iv_M_columns (sp_columns hI.2.toV) (by omega) rfl rfl rfl (by decide) rfl rfl (Nat.le_of_ble_eq_true rfl) (fun _ q => ?_)
    obtain rfl := q.symm
    refine R_nicmp_ge (x := w) (y := w) rfl rfl (by omega) (by omega) (fun g1 => ?_) (fun z => by omega)
    exact hx τ hI
  | succ uu ih =>
    intro i τ hi hI
    refine R_iload_n rfl rfl ?_
    refine R_aload_n rfl rfl ?_
    refine R_cV (as := []) rfl rfl iv_M_columns (sp_columns hI.2.toV) (by omega) rfl rfl rfl (by decide) rfl rfl (Nat.le_of_ble_eq_true rfl) (fun _ q => ?_)
    obtain rfl := q.symm
    refine R_nicmp_ge (x := i) (y := w) rfl rfl (by omega) (by omega) (fun z => by omega) (fun g1 => ?_)
    refine R_aload_n rfl rfl ?_
    refine R_gP (x := 121) rfl rfl fp_11_1 rfl ?_
    refine R_bipush (v := 14) rfl (by decide) ?_
    refine R_bipush (v := 6) rfl (by decide) ?_
    refine R_iload_n rfl rfl ?_
    refine R_imulN (x := 6) (y := r) rfl ?_
    refine R_iaddN (x := 14) (y := (6 * r)) rfl ?_
    refine R_iload_n rfl rfl ?_
    refine R_iaddN (x := (14 + (6 * r))) (y := i) rfl ?_
    refine R_aload_n rfl rfl ?_
    refine R_iload_n rfl rfl ?_
    refine R_iload_n rfl rfl ?_
    refine R_cV (as := [.int (nI r), .int (nI i)]) rfl rfl iv_M_at ((by have z := sp_at (i := r) (j := i) hI.2.toV (by omega) (by omega); rw [adM_now] at z; exact z)) (by omega) rfl rfl rfl (by decide) rfl rfl (Nat.le_of_ble_eq_true rfl) (fun _ q => ?_)
    obtain rfl := q.symm
    refine R_ineg rfl ?_
    refine R_i2l rfl ?_
    refine R_wL (j := ((14 + (6 * r)) + i)) rfl rfl rfl (by omega) (by decide) ?_
    refine R_iincN (x := i) (m := 1) rfl rfl rfl (by decide) ?_
    refine R_goto rfl rfl ?_
    refine (ih (i + 1) (sL τ 121 ((14 + (6 * r)) + i) ((-((f r i).toInt32)).toInt64)) (by omega) ⟨hI.1.trans (smP_sL (p := p121) rfl), ?_⟩).weak ⟨rfl, rfl, rfl, trivial⟩
    exact adM_put hI.2 r_h (by omega) (neg_i (hs r i r_h (by omega))).1 (neg_i (hs r i r_h (by omega))).2
set_option maxRecDepth 100000 in
set_option maxHeartbeats 4000000 in
theorem ch_negateRow {σ : am_G} {h w rh pn : Nat} {f v rl : am_Gr} {I : Nat → Int32} {r : Nat} {d k0 : Nat} (hn : nV σ h w f v rh rl pn I) (r_h : r < h) (t0 : σ.1 120 0 = 0) (hd : 15 ≤ d) : am_R am_TX d k0 c_M_negateRow 18 [some (.ref 120), some (.int (nI r)), none] [] (mm σ) (am_Ok (some (.int (nI (rkO (adM f r r (-2) w) 0 (2 ^ h - 1) (2 ^ w - 1) h w)))) (fun σ1 => smP pN σ σ1 ∧ σ1.1 120 0 = 0 ∧ nVD σ1 (h, w, (adM f r r (-2) w), v, rh, rl, pn, I))) := by
  have hv := hn.toV
  have hs := hn.2.1.2.1
  have hh1 := hv.1.1.1
  have hh6 := hv.1.1.2
  have hw1 := hv.1.2.1
  have hw6 := hv.1.2.2
  have hp6 := hn.2.1.2.2.2.1.1
  have hr6 := hn.2.1.2.2.2.2.2.2.1
  have hs7 := lw_lt hh6
  have ws7 := lw_lt hw6
  refine R_iconst (v := 0) rfl rfl ?_
  refine R_istore_n rfl (by decide) ?_
  refine (lp_mng hn r_h (by omega) (fun τ hτ => ?_) w 0 σ (by omega) ⟨smP.refl, by rw [adM_0]; exact hn⟩).weak ⟨rfl, rfl, rfl, trivial⟩
  refine R_aload_n rfl rfl ?_
  refine R_iconst (v := 0) rfl rfl ?_
  refine R_cV (as := [.int 0]) rfl rfl iv_M_rankAll (sp_rankAll (m := 0) hτ.2.toV hτ.2.2.1.2.1 (by omega)) (by omega) rfl rfl rfl (by decide) rfl rfl (Nat.le_of_ble_eq_true rfl) (fun ρ9 hρ9 => ?_)
  exact T_ireturn rfl rfl (am_oki rfl (ch_rk (hτ.1.mono pN_1) ((hτ.1.i (by unfold p121; omega)).trans t0) hτ.2 hρ9))
set_option maxRecDepth 100000 in
set_option maxHeartbeats 4000000 in
theorem sp_M_negateRow {σ : am_G} {h w rh pn : Nat} {f v rl : am_Gr} {I : Nat → Int32} {n : Nat} {Hs : Nat → am_Sn} {r : Nat} (hn : nV σ h w f v rh rl pn I) (hH : mH σ n Hs) (r_h : r < h) : am_Call am_TX 16 0 c_M_negateRow [.ref 120, .int (nI r)] (mm σ) (am_Ok (some (.int (nI (rkO (adM f r r (-2) w) 0 (2 ^ h - 1) (2 ^ w - 1) h w)))) (fun σ1 => smP pC σ σ1 ∧ σ1.1 120 0 = 0 ∧ nVD σ1 (h, w, (adM f r r (-2) w), v, rh, rl, pn, I) ∧ mH σ1 (nxZ n) (hC (h, w, f, v, rh, rl, pn, I) Hs))) := by
  have hv := hn.toV
  have hs := hn.2.1.2.1
  have hh1 := hv.1.1.1
  have hh6 := hv.1.1.2
  have hw1 := hv.1.2.1
  have hw6 := hv.1.2.2
  have hp6 := hn.2.1.2.2.2.1.1
  have hr6 := hn.2.1.2.2.2.2.2.2.1
  have hs7 := lw_lt hh6
  have ws7 := lw_lt hw6
  refine ⟨mf_M_negateRow, Nat.le_of_ble_eq_true rfl, ?_⟩
  refine R_aload_n rfl rfl ?_
  refine R_aload_n rfl rfl ?_
  refine R_iload_n rfl rfl ?_
  refine R_cV (as := [.int (nI r)]) rfl rfl iv_M_isRow (isRow_1 (n := r) hv (by omega)) (by omega) rfl rfl rfl (by decide) rfl rfl (Nat.le_of_ble_eq_true rfl) (fun _ q => ?_)
  obtain rfl := q.symm
  refine R_cV (as := [.int 1]) rfl rfl iv_M_passes (pass_1) (by omega) rfl rfl rfl (by decide) rfl rfl (Nat.le_of_ble_eq_true rfl) (fun _ q => ?_)
  obtain rfl := q.symm
  refine R_if_ne rfl rfl (fun _ => ?_) (fun z => absurd z (by decide))
  refine R_aload_n rfl rfl ?_
  refine R_cV (as := []) rfl rfl iv_M_remember (sp_remember (hn.fr (smP_sI (p := pQ) (k := 120) (j := 0) (x := 0) (by unfold pQ; omega)) (fun b => by unfold pQ; omega) (by unfold pQ; omega)) (hH.fr (smP_sI (p := pQ) (k := 120) (j := 0) (x := 0) (by unfold pQ; omega)) (by unfold pQ; omega) (fun b => by unfold pQ; omega))) (by omega) rfl rfl rfl (by decide) rfl rfl (Nat.le_of_ble_eq_true rfl) (fun ρ hρ => ?_)
  obtain ⟨hρ, hρH⟩ := hρ
  exact ((ch_negateRow (pR_f hρ (hn.fr (smP_sI (p := pQ) (k := 120) (j := 0) (x := 0) (by unfold pQ; omega)) (fun b => by unfold pQ; omega) (by unfold pQ; omega))) r_h ((hρ.i (by unfold pR; omega)).trans sI_s) (by omega)).mono (am_Ok.mono (fun τ e => ⟨(ch_end (smP_sI (p := pQ) (k := 120) (j := 0) (x := 0) (by unfold pQ; omega)) hρ hρH e.1).1, e.2.1, e.2.2, (ch_end (smP_sI (p := pQ) (k := 120) (j := 0) (x := 0) (by unfold pQ; omega)) hρ hρH e.1).2⟩))).weak ⟨rfl, rfl, trivial⟩
set_option maxRecDepth 100000 in
set_option maxHeartbeats 4000000 in
theorem sp_M_negateRow_x0 {σ : am_G} {h w rh pn : Nat} {f v rl : am_Gr} {I : Nat → Int32} {x : Int32} (hn : nV σ h w f v rh rl pn I) (hb : ¬ (0 ≤ x ∧ x < nI h)) : am_Call am_TX 14 0 c_M_negateRow [.ref 120, .int x] (mm σ) (am_Ok (some (.int 0)) (fun σ1 => smP pQ σ σ1 ∧ σ1.1 120 0 = 1)) := by
  have hv := hn.toV
  have hs := hn.2.1.2.1
  have hh1 := hv.1.1.1
  have hh6 := hv.1.1.2
  have hw1 := hv.1.2.1
  have hw6 := hv.1.2.2
  have hp6 := hn.2.1.2.2.2.1.1
  have hr6 := hn.2.1.2.2.2.2.2.2.1
  have hs7 := lw_lt hh6
  have ws7 := lw_lt hw6
  refine ⟨mf_M_negateRow, Nat.le_of_ble_eq_true rfl, ?_⟩
  refine R_aload_n rfl rfl ?_
  refine R_aload_n rfl rfl ?_
  refine R_iload_n rfl rfl ?_
  refine R_cV (as := [.int x]) rfl rfl iv_M_isRow (isRow_0 hv hb) (by omega) rfl rfl rfl (by decide) rfl rfl (Nat.le_of_ble_eq_true rfl) (fun _ q => ?_)
  obtain rfl := q.symm
  refine R_cV (as := [.int 0]) rfl rfl iv_M_passes (pass_0) (by omega) rfl rfl rfl (by decide) rfl rfl (Nat.le_of_ble_eq_true rfl) (fun _ q => ?_)
  obtain rfl := q.symm
  refine R_if_ne rfl rfl (fun z => absurd z (by decide)) (fun _ => ?_)
  refine R_iconst (v := 0) rfl rfl ?_
  exact T_ireturn rfl rfl (am_oki rfl ⟨(smP_sI (p := pQ) (k := 120) (j := 0) (x := 1) (by unfold pQ; omega)), sI_s⟩)
theorem in_p {σ : am_G} {x a b : Int32} {lo hi : Int64} {P : Prop} [Decidable P] (h : (a ≤ x ∧ x ≤ b) ↔ P) (e1 : a.toInt64 = lo) (e2 : b.toInt64 = hi) : am_Call am_TX 0 0 c_M_in [.long x.toInt64, .long lo, .long hi] (mm σ) (am_Ok (some (.int (zP P))) (fun σ1 => σ1 = σ)) := by
  subst e1; subst e2
  have z := sp_in (σ := σ) (v := x.toInt64) (lo := a.toInt64) (hi := b.toInt64)
  rw [zP_c (in_c.trans h)] at z; exact z
theorem add_i {x : Int32} {y z : Int64} (hx : -9 ≤ x ∧ x ≤ 9) (hy : y.toInt.natAbs ≤ 20) (hz : z.toInt.natAbs ≤ 20) : (-20 ≤ y.toInt32 + x * z.toInt32 ∧ y.toInt32 + x * z.toInt32 ≤ 20 ↔ absL (y + x.toInt64 * z) ≤ 20) ∧ (absL (y + x.toInt64 * z) ≤ 20 → (y + x.toInt64 * z).toInt.natAbs ≤ 20) := by
  obtain ⟨m1, m2⟩ := mul_i hx hz
  have e := sm3264 hy
  have e1 : y.toInt32.toInt = y.toInt := by rw [← Int32.toInt_toInt64, e]
  have s1 : (y.toInt32 + x * z.toInt32).toInt = y.toInt + (x * z.toInt32).toInt := by
    rw [Int32.toInt_add, e1]; exact Int.bmod_eq_of_le (by omega) (by omega)
  have s2 : (y + x.toInt64 * z).toInt = y.toInt + (x * z.toInt32).toInt := by
    rw [← m1, Int64.toInt_add, Int32.toInt_toInt64]; exact Int.bmod_eq_of_le (by omega) (by omega)
  rw [absL_20, Int32.le_iff_toInt_le, Int32.le_iff_toInt_le, s1, s2, show ((-20 : Int32).toInt) = -20 from rfl, show ((20 : Int32).toInt) = 20 from rfl]
  refine ⟨by omega, by omega⟩
set_option maxRecDepth 100000 in
set_option maxHeartbeats 4000000 in
theorem lp_mca {σ : am_G} {h w rh pn : Nat} {f v rl : am_Gr} {I : Nat → Int32} {a b : Nat} {x : Int32} {d k0 : Nat} (hn : nV σ h w f v rh rl pn I) (a_h : a < h) (b_h : b < h) (hrg : -9 ≤ x ∧ x ≤ 9) (hd : 2 ≤ d)  : ∀ (uu i : Nat) (hall : ∀ j, j < i → absL (f a j + x.toInt64 * f b j) ≤ 20), i + uu = w → am_R am_TX d k0 c_M_canAdd 3 [some (.ref 120), some (.int (nI a)), some (.int (nI b)), some (.int x), some (.int (nI i))] [] (mm σ) (am_Ok (some (.int (zP (∀ j, j < w → absL (f a j + x.toInt64 * f b j) ≤ 20)))) (fun σ1 => σ1 = σ)) := by
  have hv := hn.toV
  have hs := hn.2.1.2.1
  have hh1 := hv.1.1.1
  have hh6 := hv.1.1.2
  have hw1 := hv.1.2.1
  have hw6 := hv.1.2.2
  have hp6 := hn.2.1.2.2.2.1.1
  have hr6 := hn.2.1.2.2.2.2.2.2.1
  have hs7 := lw_lt hh6
  have ws7 := lw_lt hw6
  intro uu
  induction uu with
  | zero =>
    intro i hall hi
    obtain rfl : w = i := by omega
    refine R_iload rfl rfl ?_
    refine R_aload_n rfl rfl ?_
    refine R_cV (as := []) rfl rfl iv_M_columns (sp_columns hv) (by omega) rfl rfl rfl (by decide) rfl rfl (Nat.le_of_ble_eq_true rfl) (fun _ q => ?_)
    obtain rfl := q.symm
    refine R_nicmp_ge (x := w) (y := w) rfl rfl (by omega) (by omega) (fun g1 => ?_) (fun z => by omega)
    refine R_iconst (v := 1) rfl rfl ?_
    exact T_zreturn rfl rfl rfl (am_oki (zP_t hall).symm rfl)
  | succ uu ih =>
    intro i hall hi
    refine R_iload rfl rfl ?_
    refine R_aload_n rfl rfl ?_
    refine R_cV (as := []) rfl rfl iv_M_columns (sp_columns hv) (by omega) rfl rfl rfl (by decide) rfl rfl (Nat.le_of_ble_eq_true rfl) (fun _ q => ?_)
    obtain rfl := q.symm
    refine R_nicmp_ge (x := i) (y := w) rfl rfl (by omega) (by omega) (fun z => by omega) (fun g1 => ?_)
    refine R_aload_n rfl rfl ?_
    refine R_iload_n rfl rfl ?_
    refine R_iload rfl rfl ?_
    refine R_cV (as := [.int (nI a), .int (nI i)]) rfl rfl iv_M_at (sp_at (i := a) (j := i) hv (by omega) (by omega)) (by omega) rfl rfl rfl (by decide) rfl rfl (Nat.le_of_ble_eq_true rfl) (fun _ q => ?_)
    obtain rfl := q.symm
    refine R_iload_n rfl rfl ?_
    refine R_aload_n rfl rfl ?_
    refine R_iload_n rfl rfl ?_
    refine R_iload rfl rfl ?_
    refine R_cV (as := [.int (nI b), .int (nI i)]) rfl rfl iv_M_at (sp_at (i := b) (j := i) hv (by omega) (by omega)) (by omega) rfl rfl rfl (by decide) rfl rfl (Nat.le_of_ble_eq_true rfl) (fun _ q => ?_)
    obtain rfl := q.symm
    refine R_imul rfl ?_
    refine R_iadd rfl ?_
    refine R_i2l rfl ?_
    refine R_ldc2 (v := -20) rfl (by decide) ?_
    refine R_ldc2 (v := 20) rfl (by decide) ?_
    refine R_cS (as := [.long ((((f a i).toInt32) + (x * ((f b i).toInt32))).toInt64), .long (-20), .long 20]) rfl rfl iv_M_in (in_p (a := -20) (b := 20) (add_i hrg (hs a i a_h (by omega)) (hs b i b_h (by omega))).1 rfl rfl) (by omega) rfl rfl rfl rfl (Nat.le_of_ble_eq_true rfl) (fun _ q => ?_)
    obtain rfl := q.symm
    refine R_zif_ne rfl rfl (fun g2 => ?_) (fun g2 => ?_)
    · refine R_iincN (x := i) (m := 1) rfl rfl rfl (by decide) ?_
      refine R_goto rfl rfl ?_
      refine (ih (i + 1) (fun c hc => ?_) (by omega)).weak ⟨rfl, rfl, rfl, rfl, rfl, trivial⟩
      rcases Nat.lt_or_eq_of_le (Nat.le_of_lt_succ hc) with a3 | a3
      · exact hall c a3
      · subst a3; exact g2
    · refine R_iconst (v := 0) rfl rfl ?_
      exact T_zreturn rfl rfl rfl (am_oki (zP_f (fun z => g2 (z i (by omega)))).symm rfl)
set_option maxRecDepth 100000 in
set_option maxHeartbeats 4000000 in
theorem sp_canAdd {σ : am_G} {h w rh pn : Nat} {f v rl : am_Gr} {I : Nat → Int32} {a b : Nat} {x : Int32} (hn : nV σ h w f v rh rl pn I) (a_h : a < h) (b_h : b < h) (hrg : -9 ≤ x ∧ x ≤ 9) : am_Call am_TX 3 0 c_M_canAdd [.ref 120, .int (nI a), .int (nI b), .int x] (mm σ) (am_Ok (some (.int (zP (∀ j, j < w → absL (f a j + x.toInt64 * f b j) ≤ 20)))) (fun σ1 => σ1 = σ)) := by
  have hv := hn.toV
  have hs := hn.2.1.2.1
  have hh1 := hv.1.1.1
  have hh6 := hv.1.1.2
  have hw1 := hv.1.2.1
  have hw6 := hv.1.2.2
  have hp6 := hn.2.1.2.2.2.1.1
  have hr6 := hn.2.1.2.2.2.2.2.2.1
  have hs7 := lw_lt hh6
  have ws7 := lw_lt hw6
  refine ⟨mf_M_canAdd, Nat.le_of_ble_eq_true rfl, ?_⟩
  refine R_iconst (v := 0) rfl rfl ?_
  refine R_istore rfl (by decide) ?_
  exact (lp_mca hn a_h b_h hrg (by omega) w 0 (fun c hc => absurd hc (Nat.not_lt_zero _)) (by omega)).weak ⟨rfl, rfl, rfl, rfl, rfl, trivial⟩
theorem adM_oth {f : am_Gr} {a b n k j : Nat} {F : Int32} (h : ¬ k = a) : adM f a b F n k j = f k j := by unfold adM; rw [if_neg (fun z => h z.1)]
set_option maxRecDepth 100000 in
set_option maxHeartbeats 4000000 in
theorem lp_mad {σ : am_G} {h w rh pn : Nat} {f v rl : am_Gr} {I : Nat → Int32} {a b : Nat} {x : Int32} {d k0 : Nat} {Q : am_Res → Prop} (hn : nV σ h w f v rh rl pn I) (a_h : a < h) (b_h : b < h) (hrg : -9 ≤ x ∧ x ≤ 9) (hab : ¬ a = b) (hroom : ∀ j, j < w → absL (f a j + x.toInt64 * f b j) ≤ 20) (hd : 2 ≤ d) (hx : ∀ (τ : am_G), (smP p121 σ τ ∧ nV τ h w (adM f a b x w) v rh rl pn I) → am_R am_TX d k0 c_M_addRow 137 [some (.ref 120), some (.int (nI a)), some (.int (nI b)), some (.int x), none, none, some (.int (nI w))] [] (mm τ) Q) : ∀ (uu i : Nat) (τ : am_G), i + uu = w → (smP p121 σ τ ∧ nV τ h w (adM f a b x i) v rh rl pn I) → am_R am_TX d k0 c_M_addRow 94 [some (.ref 120), some (.int (nI a)), some (.int (nI b)), some (.int x), none, none, some (.int (nI i))] [] (mm τ) Q := by
  have hv := hn.toV
  have hs := hn.2.1.2.1
  have hh1 := hv.1.1.1
  have hh6 := hv.1.1.2
  have hw1 := hv.1.2.1
  have hw6 := hv.1.2.2
  have hp6 := hn.2.1.2.2.2.1.1
  have hr6 := hn.2.1.2.2.2.2.2.2.1
  have hs7 := lw_lt hh6
  have ws7 := lw_lt hw6
  intro uu
  induction uu with
  | zero =>
    intro i τ hi hI
    obtain rfl : w = i := by omega
    refine R_iload rfl rfl ?_
    refine R_aload_n rfl rfl ?_
    refine R_cV (as := []) rfl rfl iv_M_columns (sp_columns hI.2.toV) (by omega) rfl rfl rfl (by decide) rfl rfl (Nat.le_of_ble_eq_true rfl) (fun _ q => ?_)
    obtain rfl := q.symm
    refine R_nicmp_ge (x := w) (y := w) rfl rfl (by omega) (by omega) (fun g1 => ?_) (fun z => by omega)
    exact hx τ hI
  | succ uu ih =>
    intro i τ hi hI
    refine R_iload rfl rfl ?_
    refine R_aload_n rfl rfl ?_
    refine R_cV (as := []) rfl rfl iv_M_columns (sp_columns hI.2.toV) (by omega) rfl rfl rfl (by decide) rfl rfl (Nat.le_of_ble_eq_true rfl) (fun _ q => ?_)
    obtain rfl := q.symm
    refine R_nicmp_ge (x := i) (y := w) rfl rfl (by omega) (by omega) (fun z => by omega) (fun g1 => ?_)
    refine R_aload_n rfl rfl ?_
    refine R_gP (x := 121) rfl rfl fp_11_1 rfl ?_
    refine R_bipush (v := 14) rfl (by decide) ?_
    refine R_bipush (v := 6) rfl (by decide) ?_
    refine R_iload_n rfl rfl ?_
    refine R_imulN (x := 6) (y := a) rfl ?_
    refine R_iaddN (x := 14) (y := (6 * a)) rfl ?_
    refine R_iload rfl rfl ?_
    refine R_iaddN (x := (14 + (6 * a))) (y := i) rfl ?_
    refine R_dup2 rfl rfl rfl ?_
    refine R_xL (j := ((14 + (6 * a)) + i)) rfl rfl rfl (by omega) (by decide) ?_
    rw [show τ.2.1 121 (((14 + (6 * a)) + i)) = f a i from (hI.2.1.1.2.2 a i (by omega) (by omega)).trans adM_now]
    refine R_iload_n rfl rfl ?_
    refine R_aload_n rfl rfl ?_
    refine R_iload_n rfl rfl ?_
    refine R_iload rfl rfl ?_
    refine R_cV (as := [.int (nI b), .int (nI i)]) rfl rfl iv_M_at ((by have z := sp_at (i := b) (j := i) hI.2.toV (by omega) (by omega); rw [adM_oth (fun z => hab z.symm)] at z; exact z)) (by omega) rfl rfl rfl (by decide) rfl rfl (Nat.le_of_ble_eq_true rfl) (fun _ q => ?_)
    obtain rfl := q.symm
    refine R_imul rfl ?_
    refine R_i2l rfl ?_
    refine R_ladd rfl ?_
    refine R_wL (j := ((14 + (6 * a)) + i)) rfl rfl rfl (by omega) (by decide) ?_
    refine R_iincN (x := i) (m := 1) rfl rfl rfl (by decide) ?_
    refine R_goto rfl rfl ?_
    refine (ih (i + 1) (sL τ 121 ((14 + (6 * a)) + i) ((f a i) + ((x * ((f b i).toInt32)).toInt64))) (by omega) ⟨hI.1.trans (smP_sL (p := p121) rfl), ?_⟩).weak ⟨rfl, rfl, rfl, rfl, rfl, trivial⟩
    have e2 := add_i hrg (hs a i a_h (by omega)) (hs b i b_h (by omega))
    have e3 : f a i + (x * (f b i).toInt32).toInt64 = f a i + x.toInt64 * f b i := by rw [(mul_i hrg (hs b i b_h (by omega))).1]
    exact adM_put hI.2 a_h (by omega) e3 (by rw [e3]; exact e2.2 (hroom i (by omega)))
set_option maxRecDepth 100000 in
set_option maxHeartbeats 4000000 in
theorem ch_addRow {σ : am_G} {h w rh pn : Nat} {f v rl : am_Gr} {I : Nat → Int32} {a : Nat} {b : Nat} {x : Int32} {d k0 : Nat} (hn : nV σ h w f v rh rl pn I) (a_h : a < h) (b_h : b < h) (hrg : -9 ≤ x ∧ x ≤ 9) (hab : ¬ a = b) (hroom : ∀ j, j < w → absL (f a j + x.toInt64 * f b j) ≤ 20) (t0 : σ.1 120 0 = 0) (hd : 15 ≤ d) : am_R am_TX d k0 c_M_addRow 91 [some (.ref 120), some (.int (nI a)), some (.int (nI b)), some (.int x), none, none, none] [] (mm σ) (am_Ok (some (.int (nI (rkO (adM f a b x w) 0 (2 ^ h - 1) (2 ^ w - 1) h w)))) (fun σ1 => smP pN σ σ1 ∧ σ1.1 120 0 = 0 ∧ nVD σ1 (h, w, (adM f a b x w), v, rh, rl, pn, I))) := by
  have hv := hn.toV
  have hs := hn.2.1.2.1
  have hh1 := hv.1.1.1
  have hh6 := hv.1.1.2
  have hw1 := hv.1.2.1
  have hw6 := hv.1.2.2
  have hp6 := hn.2.1.2.2.2.1.1
  have hr6 := hn.2.1.2.2.2.2.2.2.1
  have hs7 := lw_lt hh6
  have ws7 := lw_lt hw6
  refine R_iconst (v := 0) rfl rfl ?_
  refine R_istore rfl (by decide) ?_
  refine (lp_mad hn a_h b_h hrg hab hroom (by omega) (fun τ hτ => ?_) w 0 σ (by omega) ⟨smP.refl, by rw [adM_0]; exact hn⟩).weak ⟨rfl, rfl, rfl, rfl, rfl, trivial⟩
  refine R_aload_n rfl rfl ?_
  refine R_iconst (v := 0) rfl rfl ?_
  refine R_cV (as := [.int 0]) rfl rfl iv_M_rankAll (sp_rankAll (m := 0) hτ.2.toV hτ.2.2.1.2.1 (by omega)) (by omega) rfl rfl rfl (by decide) rfl rfl (Nat.le_of_ble_eq_true rfl) (fun ρ9 hρ9 => ?_)
  exact T_ireturn rfl rfl (am_oki rfl (ch_rk (hτ.1.mono pN_1) ((hτ.1.i (by unfold p121; omega)).trans t0) hτ.2 hρ9))
set_option maxRecDepth 100000 in
set_option maxHeartbeats 4000000 in
theorem sp_M_addRow {σ : am_G} {h w rh pn : Nat} {f v rl : am_Gr} {I : Nat → Int32} {n : Nat} {Hs : Nat → am_Sn} {a : Nat} {b : Nat} {x : Int32} (hn : nV σ h w f v rh rl pn I) (hH : mH σ n Hs) (a_h : a < h) (b_h : b < h) (hrg : -9 ≤ x ∧ x ≤ 9) (hab : ¬ a = b) (hroom : ∀ j, j < w → absL (f a j + x.toInt64 * f b j) ≤ 20) : am_Call am_TX 16 0 c_M_addRow [.ref 120, .int (nI a), .int (nI b), .int x] (mm σ) (am_Ok (some (.int (nI (rkO (adM f a b x w) 0 (2 ^ h - 1) (2 ^ w - 1) h w)))) (fun σ1 => smP pC σ σ1 ∧ σ1.1 120 0 = 0 ∧ nVD σ1 (h, w, (adM f a b x w), v, rh, rl, pn, I) ∧ mH σ1 (nxZ n) (hC (h, w, f, v, rh, rl, pn, I) Hs))) := by
  have hv := hn.toV
  have hs := hn.2.1.2.1
  have hh1 := hv.1.1.1
  have hh6 := hv.1.1.2
  have hw1 := hv.1.2.1
  have hw6 := hv.1.2.2
  have hp6 := hn.2.1.2.2.2.1.1
  have hr6 := hn.2.1.2.2.2.2.2.2.1
  have hs7 := lw_lt hh6
  have ws7 := lw_lt hw6
  refine ⟨mf_M_addRow, Nat.le_of_ble_eq_true rfl, ?_⟩
  refine R_aload_n rfl rfl ?_
  refine R_iload_n rfl rfl ?_
  refine R_cV (as := [.int (nI a)]) rfl rfl iv_M_isRow (isRow_1 (n := a) hv (by omega)) (by omega) rfl rfl rfl (by decide) rfl rfl (Nat.le_of_ble_eq_true rfl) (fun _ q => ?_)
  obtain rfl := q.symm
  refine R_if_eq rfl rfl (fun z => absurd z (by decide)) (fun _ => ?_)
  refine R_aload_n rfl rfl ?_
  refine R_iload_n rfl rfl ?_
  refine R_cV (as := [.int (nI b)]) rfl rfl iv_M_isRow (isRow_1 (n := b) hv (by omega)) (by omega) rfl rfl rfl (by decide) rfl rfl (Nat.le_of_ble_eq_true rfl) (fun _ q => ?_)
  obtain rfl := q.symm
  refine R_if_eq rfl rfl (fun z => absurd z (by decide)) (fun _ => ?_)
  refine R_iconst (v := 1) rfl rfl ?_
  refine R_goto rfl rfl ?_
  refine R_istore rfl (by decide) ?_
  refine R_iload_n rfl rfl ?_
  refine R_iload_n rfl rfl ?_
  refine R_nicmp_eq (x := a) (y := b) rfl rfl (by omega) (by omega) (fun z => by omega) (fun g1 => ?_)
  refine R_iload_n rfl rfl ?_
  refine R_i2l rfl ?_
  refine R_ldc2 (v := -9) rfl (by decide) ?_
  refine R_ldc2 (v := 9) rfl (by decide) ?_
  refine R_cS (as := [.long x.toInt64, .long (-9), .long 9]) rfl rfl iv_M_in (in_1 (x := x) (a := -9) (b := 9) hrg rfl rfl) (by omega) rfl rfl rfl rfl (Nat.le_of_ble_eq_true rfl) (fun _ q => ?_)
  obtain rfl := q.symm
  refine R_if_eq rfl rfl (fun z => absurd z (by decide)) (fun _ => ?_)
  refine R_iconst (v := 1) rfl rfl ?_
  refine R_goto rfl rfl ?_
  refine R_istore rfl (by decide) ?_
  refine R_aload_n rfl rfl ?_
  refine R_iload rfl rfl ?_
  refine R_iload rfl rfl ?_
  refine R_iload rfl rfl ?_
  refine R_if_eq rfl rfl (fun z => absurd z (by decide)) (fun _ => ?_)
  refine R_iload rfl rfl ?_
  refine R_if_eq rfl rfl (fun z => absurd z (by decide)) (fun _ => ?_)
  refine R_aload_n rfl rfl ?_
  refine R_iload_n rfl rfl ?_
  refine R_iload_n rfl rfl ?_
  refine R_iload_n rfl rfl ?_
  refine R_cV (as := [.int (nI a), .int (nI b), .int x]) rfl rfl iv_M_canAdd ((by have z := sp_canAdd hn a_h b_h hrg; rw [zP_t hroom] at z; exact z)) (by omega) rfl rfl rfl (by decide) rfl rfl (Nat.le_of_ble_eq_true rfl) (fun _ q => ?_)
  obtain rfl := q.symm
  refine R_if_eq rfl rfl (fun z => absurd z (by decide)) (fun _ => ?_)
  refine R_iconst (v := 1) rfl rfl ?_
  refine R_goto rfl rfl ?_
  refine R_cV (as := [.int 1, .int 1, .int 1]) rfl rfl iv_M_passes3 (pass3_111) (by omega) rfl rfl rfl (by decide) rfl rfl (Nat.le_of_ble_eq_true rfl) (fun _ q => ?_)
  obtain rfl := q.symm
  refine R_if_ne rfl rfl (fun _ => ?_) (fun z => absurd z (by decide))
  refine R_aload_n rfl rfl ?_
  refine R_cV (as := []) rfl rfl iv_M_remember (sp_remember (hn.fr (smP_sI (p := pQ) (k := 120) (j := 0) (x := 0) (by unfold pQ; omega)) (fun b => by unfold pQ; omega) (by unfold pQ; omega)) (hH.fr (smP_sI (p := pQ) (k := 120) (j := 0) (x := 0) (by unfold pQ; omega)) (by unfold pQ; omega) (fun b => by unfold pQ; omega))) (by omega) rfl rfl rfl (by decide) rfl rfl (Nat.le_of_ble_eq_true rfl) (fun ρ hρ => ?_)
  obtain ⟨hρ, hρH⟩ := hρ
  exact ((ch_addRow (pR_f hρ (hn.fr (smP_sI (p := pQ) (k := 120) (j := 0) (x := 0) (by unfold pQ; omega)) (fun b => by unfold pQ; omega) (by unfold pQ; omega))) a_h b_h hrg hab hroom ((hρ.i (by unfold pR; omega)).trans sI_s) (by omega)).mono (am_Ok.mono (fun τ e => ⟨(ch_end (smP_sI (p := pQ) (k := 120) (j := 0) (x := 0) (by unfold pQ; omega)) hρ hρH e.1).1, e.2.1, e.2.2, (ch_end (smP_sI (p := pQ) (k := 120) (j := 0) (x := 0) (by unfold pQ; omega)) hρ hρH e.1).2⟩))).weak ⟨rfl, rfl, rfl, rfl, trivial⟩
set_option maxRecDepth 100000 in
set_option maxHeartbeats 4000000 in
theorem sp_M_addRow_r {σ : am_G} {h w rh pn : Nat} {f v rl : am_Gr} {I : Nat → Int32} {a : Nat} {b : Nat} {x : Int32} (hn : nV σ h w f v rh rl pn I) (a_h : a < h) (b_h : b < h) (hrg : -9 ≤ x ∧ x ≤ 9) (hab : ¬ a = b) (hroom : ¬ (∀ j, j < w → absL (f a j + x.toInt64 * f b j) ≤ 20)) : am_Call am_TX 14 0 c_M_addRow [.ref 120, .int (nI a), .int (nI b), .int x] (mm σ) (am_Ok (some (.int 0)) (fun σ1 => smP pQ σ σ1 ∧ σ1.1 120 0 = 3)) := by
  have hv := hn.toV
  have hs := hn.2.1.2.1
  have hh1 := hv.1.1.1
  have hh6 := hv.1.1.2
  have hw1 := hv.1.2.1
  have hw6 := hv.1.2.2
  have hp6 := hn.2.1.2.2.2.1.1
  have hr6 := hn.2.1.2.2.2.2.2.2.1
  have hs7 := lw_lt hh6
  have ws7 := lw_lt hw6
  refine ⟨mf_M_addRow, Nat.le_of_ble_eq_true rfl, ?_⟩
  refine R_aload_n rfl rfl ?_
  refine R_iload_n rfl rfl ?_
  refine R_cV (as := [.int (nI a)]) rfl rfl iv_M_isRow (isRow_1 (n := a) hv (by omega)) (by omega) rfl rfl rfl (by decide) rfl rfl (Nat.le_of_ble_eq_true rfl) (fun _ q => ?_)
  obtain rfl := q.symm
  refine R_if_eq rfl rfl (fun z => absurd z (by decide)) (fun _ => ?_)
  refine R_aload_n rfl rfl ?_
  refine R_iload_n rfl rfl ?_
  refine R_cV (as := [.int (nI b)]) rfl rfl iv_M_isRow (isRow_1 (n := b) hv (by omega)) (by omega) rfl rfl rfl (by decide) rfl rfl (Nat.le_of_ble_eq_true rfl) (fun _ q => ?_)
  obtain rfl := q.symm
  refine R_if_eq rfl rfl (fun z => absurd z (by decide)) (fun _ => ?_)
  refine R_iconst (v := 1) rfl rfl ?_
  refine R_goto rfl rfl ?_
  refine R_istore rfl (by decide) ?_
  refine R_iload_n rfl rfl ?_
  refine R_iload_n rfl rfl ?_
  refine R_nicmp_eq (x := a) (y := b) rfl rfl (by omega) (by omega) (fun z => by omega) (fun g1 => ?_)
  refine R_iload_n rfl rfl ?_
  refine R_i2l rfl ?_
  refine R_ldc2 (v := -9) rfl (by decide) ?_
  refine R_ldc2 (v := 9) rfl (by decide) ?_
  refine R_cS (as := [.long x.toInt64, .long (-9), .long 9]) rfl rfl iv_M_in (in_1 (x := x) (a := -9) (b := 9) hrg rfl rfl) (by omega) rfl rfl rfl rfl (Nat.le_of_ble_eq_true rfl) (fun _ q => ?_)
  obtain rfl := q.symm
  refine R_if_eq rfl rfl (fun z => absurd z (by decide)) (fun _ => ?_)
  refine R_iconst (v := 1) rfl rfl ?_
  refine R_goto rfl rfl ?_
  refine R_istore rfl (by decide) ?_
  refine R_aload_n rfl rfl ?_
  refine R_iload rfl rfl ?_
  refine R_iload rfl rfl ?_
  refine R_iload rfl rfl ?_
  refine R_if_eq rfl rfl (fun z => absurd z (by decide)) (fun _ => ?_)
  refine R_iload rfl rfl ?_
  refine R_if_eq rfl rfl (fun z => absurd z (by decide)) (fun _ => ?_)
  refine R_aload_n rfl rfl ?_
  refine R_iload_n rfl rfl ?_
  refine R_iload_n rfl rfl ?_
  refine R_iload_n rfl rfl ?_
  refine R_cV (as := [.int (nI a), .int (nI b), .int x]) rfl rfl iv_M_canAdd ((by have z := sp_canAdd hn a_h b_h hrg; rw [zP_f hroom] at z; exact z)) (by omega) rfl rfl rfl (by decide) rfl rfl (Nat.le_of_ble_eq_true rfl) (fun _ q => ?_)
  obtain rfl := q.symm
  refine R_if_eq rfl rfl (fun _ => ?_) (fun z => absurd z (by decide))
  refine R_iconst (v := 0) rfl rfl ?_
  refine R_cV (as := [.int 1, .int 1, .int 0]) rfl rfl iv_M_passes3 (pass3_110) (by omega) rfl rfl rfl (by decide) rfl rfl (Nat.le_of_ble_eq_true rfl) (fun _ q => ?_)
  obtain rfl := q.symm
  refine R_if_ne rfl rfl (fun z => absurd z (by decide)) (fun _ => ?_)
  refine R_iconst (v := 0) rfl rfl ?_
  exact T_ireturn rfl rfl (am_oki rfl ⟨(smP_sI (p := pQ) (k := 120) (j := 0) (x := 3) (by unfold pQ; omega)), sI_s⟩)
set_option maxRecDepth 100000 in
set_option maxHeartbeats 4000000 in
theorem sp_M_addRow_e {σ : am_G} {h w rh pn : Nat} {f v rl : am_Gr} {I : Nat → Int32} {a : Nat} {b : Nat} {x : Int32} (hn : nV σ h w f v rh rl pn I) (a_h : a < h) (b_h : b < h) (hrg : -9 ≤ x ∧ x ≤ 9) (hab : a = b) : am_Call am_TX 14 0 c_M_addRow [.ref 120, .int (nI a), .int (nI b), .int x] (mm σ) (am_Ok (some (.int 0)) (fun σ1 => smP pQ σ σ1 ∧ σ1.1 120 0 = 2)) := by
  have hv := hn.toV
  have hs := hn.2.1.2.1
  have hh1 := hv.1.1.1
  have hh6 := hv.1.1.2
  have hw1 := hv.1.2.1
  have hw6 := hv.1.2.2
  have hp6 := hn.2.1.2.2.2.1.1
  have hr6 := hn.2.1.2.2.2.2.2.2.1
  have hs7 := lw_lt hh6
  have ws7 := lw_lt hw6
  refine ⟨mf_M_addRow, Nat.le_of_ble_eq_true rfl, ?_⟩
  refine R_aload_n rfl rfl ?_
  refine R_iload_n rfl rfl ?_
  refine R_cV (as := [.int (nI a)]) rfl rfl iv_M_isRow (isRow_1 (n := a) hv (by omega)) (by omega) rfl rfl rfl (by decide) rfl rfl (Nat.le_of_ble_eq_true rfl) (fun _ q => ?_)
  obtain rfl := q.symm
  refine R_if_eq rfl rfl (fun z => absurd z (by decide)) (fun _ => ?_)
  refine R_aload_n rfl rfl ?_
  refine R_iload_n rfl rfl ?_
  refine R_cV (as := [.int (nI b)]) rfl rfl iv_M_isRow (isRow_1 (n := b) hv (by omega)) (by omega) rfl rfl rfl (by decide) rfl rfl (Nat.le_of_ble_eq_true rfl) (fun _ q => ?_)
  obtain rfl := q.symm
  refine R_if_eq rfl rfl (fun z => absurd z (by decide)) (fun _ => ?_)
  refine R_iconst (v := 1) rfl rfl ?_
  refine R_goto rfl rfl ?_
  refine R_istore rfl (by decide) ?_
  refine R_iload_n rfl rfl ?_
  refine R_iload_n rfl rfl ?_
  refine R_nicmp_eq (x := a) (y := b) rfl rfl (by omega) (by omega) (fun g1 => ?_) (fun z => by omega)
  refine R_iconst (v := 0) rfl rfl ?_
  refine R_istore rfl (by decide) ?_
  refine R_aload_n rfl rfl ?_
  refine R_iload rfl rfl ?_
  refine R_iload rfl rfl ?_
  refine R_iload rfl rfl ?_
  refine R_if_eq rfl rfl (fun z => absurd z (by decide)) (fun _ => ?_)
  refine R_iload rfl rfl ?_
  refine R_if_eq rfl rfl (fun _ => ?_) (fun z => absurd z (by decide))
  refine R_iconst (v := 0) rfl rfl ?_
  refine R_cV (as := [.int 1, .int 0, .int 0]) rfl rfl iv_M_passes3 (pass3_100) (by omega) rfl rfl rfl (by decide) rfl rfl (Nat.le_of_ble_eq_true rfl) (fun _ q => ?_)
  obtain rfl := q.symm
  refine R_if_ne rfl rfl (fun z => absurd z (by decide)) (fun _ => ?_)
  refine R_iconst (v := 0) rfl rfl ?_
  exact T_ireturn rfl rfl (am_oki rfl ⟨(smP_sI (p := pQ) (k := 120) (j := 0) (x := 2) (by unfold pQ; omega)), sI_s⟩)
set_option maxRecDepth 100000 in
set_option maxHeartbeats 4000000 in
theorem sp_M_addRow_x0 {σ : am_G} {h w rh pn : Nat} {f v rl : am_Gr} {I : Nat → Int32} {b_ : Int32} {x_ : Int32} {x : Int32} (hn : nV σ h w f v rh rl pn I) (hb : ¬ (0 ≤ x ∧ x < nI h)) : am_Call am_TX 14 0 c_M_addRow [.ref 120, .int x, .int b_, .int x_] (mm σ) (am_Ok (some (.int 0)) (fun σ1 => smP pQ σ σ1 ∧ σ1.1 120 0 = 1)) := by
  have hv := hn.toV
  have hs := hn.2.1.2.1
  have hh1 := hv.1.1.1
  have hh6 := hv.1.1.2
  have hw1 := hv.1.2.1
  have hw6 := hv.1.2.2
  have hp6 := hn.2.1.2.2.2.1.1
  have hr6 := hn.2.1.2.2.2.2.2.2.1
  have hs7 := lw_lt hh6
  have ws7 := lw_lt hw6
  refine ⟨mf_M_addRow, Nat.le_of_ble_eq_true rfl, ?_⟩
  refine R_aload_n rfl rfl ?_
  refine R_iload_n rfl rfl ?_
  refine R_cV (as := [.int x]) rfl rfl iv_M_isRow (isRow_0 hv hb) (by omega) rfl rfl rfl (by decide) rfl rfl (Nat.le_of_ble_eq_true rfl) (fun _ q => ?_)
  obtain rfl := q.symm
  refine R_if_eq rfl rfl (fun _ => ?_) (fun z => absurd z (by decide))
  refine R_iconst (v := 0) rfl rfl ?_
  refine R_istore rfl (by decide) ?_
  refine R_iload_n rfl rfl ?_
  refine R_iload_n rfl rfl ?_
  refine R_icmp_eq rfl rfl (fun g1 => ?_) (fun g1 => ?_)
  · refine R_iconst (v := 0) rfl rfl ?_
    refine R_istore rfl (by decide) ?_
    refine R_aload_n rfl rfl ?_
    refine R_iload rfl rfl ?_
    refine R_iload rfl rfl ?_
    refine R_iload rfl rfl ?_
    refine R_if_eq rfl rfl (fun _ => ?_) (fun z => absurd z (by decide))
    refine R_iconst (v := 0) rfl rfl ?_
    refine R_cV (as := [.int 0, .int 0, .int 0]) rfl rfl iv_M_passes3 (pass3_000) (by omega) rfl rfl rfl (by decide) rfl rfl (Nat.le_of_ble_eq_true rfl) (fun _ q => ?_)
    obtain rfl := q.symm
    refine R_if_ne rfl rfl (fun z => absurd z (by decide)) (fun _ => ?_)
    refine R_iconst (v := 0) rfl rfl ?_
    exact T_ireturn rfl rfl (am_oki rfl ⟨(smP_sI (p := pQ) (k := 120) (j := 0) (x := 1) (by unfold pQ; omega)), sI_s⟩)
  · refine R_iload_n rfl rfl ?_
    refine R_i2l rfl ?_
    refine R_ldc2 (v := -9) rfl (by decide) ?_
    refine R_ldc2 (v := 9) rfl (by decide) ?_
    refine R_cS (as := [.long x_.toInt64, .long (-9), .long 9]) rfl rfl iv_M_in (sp_in (v := x_.toInt64) (lo := (-9)) (hi := 9)) (by omega) rfl rfl rfl rfl (Nat.le_of_ble_eq_true rfl) (fun _ q => ?_)
    obtain rfl := q.symm
    refine R_zif_eq rfl rfl (fun g2 => ?_) (fun g2 => ?_)
    · refine R_iconst (v := 0) rfl rfl ?_
      refine R_istore rfl (by decide) ?_
      refine R_aload_n rfl rfl ?_
      refine R_iload rfl rfl ?_
      refine R_iload rfl rfl ?_
      refine R_iload rfl rfl ?_
      refine R_if_eq rfl rfl (fun _ => ?_) (fun z => absurd z (by decide))
      refine R_iconst (v := 0) rfl rfl ?_
      refine R_cV (as := [.int 0, .int 0, .int 0]) rfl rfl iv_M_passes3 (pass3_000) (by omega) rfl rfl rfl (by decide) rfl rfl (Nat.le_of_ble_eq_true rfl) (fun _ q => ?_)
      obtain rfl := q.symm
      refine R_if_ne rfl rfl (fun z => absurd z (by decide)) (fun _ => ?_)
      refine R_iconst (v := 0) rfl rfl ?_
      exact T_ireturn rfl rfl (am_oki rfl ⟨(smP_sI (p := pQ) (k := 120) (j := 0) (x := 1) (by unfold pQ; omega)), sI_s⟩)
    · refine R_iconst (v := 1) rfl rfl ?_
      refine R_goto rfl rfl ?_
      refine R_istore rfl (by decide) ?_
      refine R_aload_n rfl rfl ?_
      refine R_iload rfl rfl ?_
      refine R_iload rfl rfl ?_
      refine R_iload rfl rfl ?_
      refine R_if_eq rfl rfl (fun _ => ?_) (fun z => absurd z (by decide))
      refine R_iconst (v := 0) rfl rfl ?_
      refine R_cV (as := [.int 0, .int 1, .int 0]) rfl rfl iv_M_passes3 (pass3_010) (by omega) rfl rfl rfl (by decide) rfl rfl (Nat.le_of_ble_eq_true rfl) (fun _ q => ?_)
      obtain rfl := q.symm
      refine R_if_ne rfl rfl (fun z => absurd z (by decide)) (fun _ => ?_)
      refine R_iconst (v := 0) rfl rfl ?_
      exact T_ireturn rfl rfl (am_oki rfl ⟨(smP_sI (p := pQ) (k := 120) (j := 0) (x := 1) (by unfold pQ; omega)), sI_s⟩)
set_option maxRecDepth 100000 in
set_option maxHeartbeats 4000000 in
theorem sp_M_addRow_x1 {σ : am_G} {h w rh pn : Nat} {f v rl : am_Gr} {I : Nat → Int32} {a : Nat} {x_ : Int32} {x : Int32} (hn : nV σ h w f v rh rl pn I) (a_h : a < h) (hb : ¬ (0 ≤ x ∧ x < nI h)) : am_Call am_TX 14 0 c_M_addRow [.ref 120, .int (nI a), .int x, .int x_] (mm σ) (am_Ok (some (.int 0)) (fun σ1 => smP pQ σ σ1 ∧ σ1.1 120 0 = 1)) := by
  have hv := hn.toV
  have hs := hn.2.1.2.1
  have hh1 := hv.1.1.1
  have hh6 := hv.1.1.2
  have hw1 := hv.1.2.1
  have hw6 := hv.1.2.2
  have hp6 := hn.2.1.2.2.2.1.1
  have hr6 := hn.2.1.2.2.2.2.2.2.1
  have hs7 := lw_lt hh6
  have ws7 := lw_lt hw6
  refine ⟨mf_M_addRow, Nat.le_of_ble_eq_true rfl, ?_⟩
  refine R_aload_n rfl rfl ?_
  refine R_iload_n rfl rfl ?_
  refine R_cV (as := [.int (nI a)]) rfl rfl iv_M_isRow (isRow_1 (n := a) hv (by omega)) (by omega) rfl rfl rfl (by decide) rfl rfl (Nat.le_of_ble_eq_true rfl) (fun _ q => ?_)
  obtain rfl := q.symm
  refine R_if_eq rfl rfl (fun z => absurd z (by decide)) (fun _ => ?_)
  refine R_aload_n rfl rfl ?_
  refine R_iload_n rfl rfl ?_
  refine R_cV (as := [.int x]) rfl rfl iv_M_isRow (isRow_0 hv hb) (by omega) rfl rfl rfl (by decide) rfl rfl (Nat.le_of_ble_eq_true rfl) (fun _ q => ?_)
  obtain rfl := q.symm
  refine R_if_eq rfl rfl (fun _ => ?_) (fun z => absurd z (by decide))
  refine R_iconst (v := 0) rfl rfl ?_
  refine R_istore rfl (by decide) ?_
  refine R_iload_n rfl rfl ?_
  refine R_iload_n rfl rfl ?_
  refine R_icmp_eq rfl rfl (fun g1 => ?_) (fun g1 => ?_)
  · refine R_iconst (v := 0) rfl rfl ?_
    refine R_istore rfl (by decide) ?_
    refine R_aload_n rfl rfl ?_
    refine R_iload rfl rfl ?_
    refine R_iload rfl rfl ?_
    refine R_iload rfl rfl ?_
    refine R_if_eq rfl rfl (fun _ => ?_) (fun z => absurd z (by decide))
    refine R_iconst (v := 0) rfl rfl ?_
    refine R_cV (as := [.int 0, .int 0, .int 0]) rfl rfl iv_M_passes3 (pass3_000) (by omega) rfl rfl rfl (by decide) rfl rfl (Nat.le_of_ble_eq_true rfl) (fun _ q => ?_)
    obtain rfl := q.symm
    refine R_if_ne rfl rfl (fun z => absurd z (by decide)) (fun _ => ?_)
    refine R_iconst (v := 0) rfl rfl ?_
    exact T_ireturn rfl rfl (am_oki rfl ⟨(smP_sI (p := pQ) (k := 120) (j := 0) (x := 1) (by unfold pQ; omega)), sI_s⟩)
  · refine R_iload_n rfl rfl ?_
    refine R_i2l rfl ?_
    refine R_ldc2 (v := -9) rfl (by decide) ?_
    refine R_ldc2 (v := 9) rfl (by decide) ?_
    refine R_cS (as := [.long x_.toInt64, .long (-9), .long 9]) rfl rfl iv_M_in (sp_in (v := x_.toInt64) (lo := (-9)) (hi := 9)) (by omega) rfl rfl rfl rfl (Nat.le_of_ble_eq_true rfl) (fun _ q => ?_)
    obtain rfl := q.symm
    refine R_zif_eq rfl rfl (fun g2 => ?_) (fun g2 => ?_)
    · refine R_iconst (v := 0) rfl rfl ?_
      refine R_istore rfl (by decide) ?_
      refine R_aload_n rfl rfl ?_
      refine R_iload rfl rfl ?_
      refine R_iload rfl rfl ?_
      refine R_iload rfl rfl ?_
      refine R_if_eq rfl rfl (fun _ => ?_) (fun z => absurd z (by decide))
      refine R_iconst (v := 0) rfl rfl ?_
      refine R_cV (as := [.int 0, .int 0, .int 0]) rfl rfl iv_M_passes3 (pass3_000) (by omega) rfl rfl rfl (by decide) rfl rfl (Nat.le_of_ble_eq_true rfl) (fun _ q => ?_)
      obtain rfl := q.symm
      refine R_if_ne rfl rfl (fun z => absurd z (by decide)) (fun _ => ?_)
      refine R_iconst (v := 0) rfl rfl ?_
      exact T_ireturn rfl rfl (am_oki rfl ⟨(smP_sI (p := pQ) (k := 120) (j := 0) (x := 1) (by unfold pQ; omega)), sI_s⟩)
    · refine R_iconst (v := 1) rfl rfl ?_
      refine R_goto rfl rfl ?_
      refine R_istore rfl (by decide) ?_
      refine R_aload_n rfl rfl ?_
      refine R_iload rfl rfl ?_
      refine R_iload rfl rfl ?_
      refine R_iload rfl rfl ?_
      refine R_if_eq rfl rfl (fun _ => ?_) (fun z => absurd z (by decide))
      refine R_iconst (v := 0) rfl rfl ?_
      refine R_cV (as := [.int 0, .int 1, .int 0]) rfl rfl iv_M_passes3 (pass3_010) (by omega) rfl rfl rfl (by decide) rfl rfl (Nat.le_of_ble_eq_true rfl) (fun _ q => ?_)
      obtain rfl := q.symm
      refine R_if_ne rfl rfl (fun z => absurd z (by decide)) (fun _ => ?_)
      refine R_iconst (v := 0) rfl rfl ?_
      exact T_ireturn rfl rfl (am_oki rfl ⟨(smP_sI (p := pQ) (k := 120) (j := 0) (x := 1) (by unfold pQ; omega)), sI_s⟩)
set_option maxRecDepth 100000 in
set_option maxHeartbeats 4000000 in
theorem sp_M_addRow_x2 {σ : am_G} {h w rh pn : Nat} {f v rl : am_Gr} {I : Nat → Int32} {a : Nat} {b : Nat} {x : Int32} (hn : nV σ h w f v rh rl pn I) (a_h : a < h) (b_h : b < h) (hb : ¬ (-9 ≤ x ∧ x ≤ 9)) : am_Call am_TX 14 0 c_M_addRow [.ref 120, .int (nI a), .int (nI b), .int x] (mm σ) (am_Ok (some (.int 0)) (fun σ1 => smP pQ σ σ1 ∧ σ1.1 120 0 = 2)) := by
  have hv := hn.toV
  have hs := hn.2.1.2.1
  have hh1 := hv.1.1.1
  have hh6 := hv.1.1.2
  have hw1 := hv.1.2.1
  have hw6 := hv.1.2.2
  have hp6 := hn.2.1.2.2.2.1.1
  have hr6 := hn.2.1.2.2.2.2.2.2.1
  have hs7 := lw_lt hh6
  have ws7 := lw_lt hw6
  refine ⟨mf_M_addRow, Nat.le_of_ble_eq_true rfl, ?_⟩
  refine R_aload_n rfl rfl ?_
  refine R_iload_n rfl rfl ?_
  refine R_cV (as := [.int (nI a)]) rfl rfl iv_M_isRow (isRow_1 (n := a) hv (by omega)) (by omega) rfl rfl rfl (by decide) rfl rfl (Nat.le_of_ble_eq_true rfl) (fun _ q => ?_)
  obtain rfl := q.symm
  refine R_if_eq rfl rfl (fun z => absurd z (by decide)) (fun _ => ?_)
  refine R_aload_n rfl rfl ?_
  refine R_iload_n rfl rfl ?_
  refine R_cV (as := [.int (nI b)]) rfl rfl iv_M_isRow (isRow_1 (n := b) hv (by omega)) (by omega) rfl rfl rfl (by decide) rfl rfl (Nat.le_of_ble_eq_true rfl) (fun _ q => ?_)
  obtain rfl := q.symm
  refine R_if_eq rfl rfl (fun z => absurd z (by decide)) (fun _ => ?_)
  refine R_iconst (v := 1) rfl rfl ?_
  refine R_goto rfl rfl ?_
  refine R_istore rfl (by decide) ?_
  refine R_iload_n rfl rfl ?_
  refine R_iload_n rfl rfl ?_
  refine R_nicmp_eq (x := a) (y := b) rfl rfl (by omega) (by omega) (fun g1 => ?_) (fun g1 => ?_)
  · refine R_iconst (v := 0) rfl rfl ?_
    refine R_istore rfl (by decide) ?_
    refine R_aload_n rfl rfl ?_
    refine R_iload rfl rfl ?_
    refine R_iload rfl rfl ?_
    refine R_iload rfl rfl ?_
    refine R_if_eq rfl rfl (fun z => absurd z (by decide)) (fun _ => ?_)
    refine R_iload rfl rfl ?_
    refine R_if_eq rfl rfl (fun _ => ?_) (fun z => absurd z (by decide))
    refine R_iconst (v := 0) rfl rfl ?_
    refine R_cV (as := [.int 1, .int 0, .int 0]) rfl rfl iv_M_passes3 (pass3_100) (by omega) rfl rfl rfl (by decide) rfl rfl (Nat.le_of_ble_eq_true rfl) (fun _ q => ?_)
    obtain rfl := q.symm
    refine R_if_ne rfl rfl (fun z => absurd z (by decide)) (fun _ => ?_)
    refine R_iconst (v := 0) rfl rfl ?_
    exact T_ireturn rfl rfl (am_oki rfl ⟨(smP_sI (p := pQ) (k := 120) (j := 0) (x := 2) (by unfold pQ; omega)), sI_s⟩)
  · refine R_iload_n rfl rfl ?_
    refine R_i2l rfl ?_
    refine R_ldc2 (v := -9) rfl (by decide) ?_
    refine R_ldc2 (v := 9) rfl (by decide) ?_
    refine R_cS (as := [.long x.toInt64, .long (-9), .long 9]) rfl rfl iv_M_in (in_0 (x := x) (a := -9) (b := 9) hb rfl rfl) (by omega) rfl rfl rfl rfl (Nat.le_of_ble_eq_true rfl) (fun _ q => ?_)
    obtain rfl := q.symm
    refine R_if_eq rfl rfl (fun _ => ?_) (fun z => absurd z (by decide))
    refine R_iconst (v := 0) rfl rfl ?_
    refine R_istore rfl (by decide) ?_
    refine R_aload_n rfl rfl ?_
    refine R_iload rfl rfl ?_
    refine R_iload rfl rfl ?_
    refine R_iload rfl rfl ?_
    refine R_if_eq rfl rfl (fun z => absurd z (by decide)) (fun _ => ?_)
    refine R_iload rfl rfl ?_
    refine R_if_eq rfl rfl (fun _ => ?_) (fun z => absurd z (by decide))
    refine R_iconst (v := 0) rfl rfl ?_
    refine R_cV (as := [.int 1, .int 0, .int 0]) rfl rfl iv_M_passes3 (pass3_100) (by omega) rfl rfl rfl (by decide) rfl rfl (Nat.le_of_ble_eq_true rfl) (fun _ q => ?_)
    obtain rfl := q.symm
    refine R_if_ne rfl rfl (fun z => absurd z (by decide)) (fun _ => ?_)
    refine R_iconst (v := 0) rfl rfl ?_
    exact T_ireturn rfl rfl (am_oki rfl ⟨(smP_sI (p := pQ) (k := 120) (j := 0) (x := 2) (by unfold pQ; omega)), sI_s⟩)
