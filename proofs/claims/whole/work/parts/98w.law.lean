/-! ===== the law's cases ===== -/
theorem tk_120 : Sh[120]? = some (0, 11) := by decide +kernel
def lwQ : am_Res → Prop := fun r => ∃ σ : am_G, r = (.inl (some (.int 1)), mm σ)
def lwL (a : Nat) (o5 o6 o7 : Option Value) : List (Option Value) := [some (.ref 3000), some (.ref 0), some (.ref 120), some (.ref 132), some (.int (nI a)), o5, o6, o7]
theorem lw_iS {σ σ1 : am_G} (q : smP pLw σ σ1) : σ1.1 3000 = σ.1 3000 := funext fun z => q.i (fun y => by unfold pLw at y; omega)
theorem lw_iN {σ σ1 : am_G} (q : smP pLw σ σ1) : σ1.1 3001 0 = σ.1 3001 0 := q.i (fun y => by unfold pLw at y; omega)
theorem mo_iN {σ σ1 : am_G} (q : smP pMo σ σ1) : σ1.1 3001 0 = σ.1 3001 0 := q.i (fun y => by unfold pMo at y; omega)
theorem mo_out {σ σ1 : am_G} (q : smP pMo σ σ1) : σ1.2.1 132 0 = σ.2.1 132 0 := q.l (fun y => by unfold pMo at y; omega)
theorem TC.mo {σ σ1 : am_G} {d : Dk} (h : TC σ d) (q : smP pMo σ σ1) : TC σ1 d := h.fr q (fun a b h1 h2 => by unfold pMo at h2; omega)
/-- what the loop's rest gives -/
def lwN (L a k : Nat) : Prop := ∀ (σ : am_G) (d : Dk) (o5 o6 o7 : Option Value), TC σ d → TM σ d → σ.1 3001 0 = nI L → am_R am_TX 20 k c_law 3709 (lwL a o5 o6 o7) [] (mm σ) lwQ
theorem lc_0 {L a k : Nat} {σ : am_G} {d : Dk} {o5 o6 o7 : Option Value} (hL : L ≤ 3072) (ha : a + 6 ≤ L) (T : TC σ d) (M : TM σ d) (hs : σ.1 3001 0 = nI L) (nx : lwN L a k) : am_R am_TX 20 (1 + k) c_law 312 (lwL a o5 o6 o7) [] (mm σ) lwQ := by
  show am_R _ _ _ _ 312 [some (.ref 3000), some (.ref 0), some (.ref 120), some (.ref 132), some (.int (nI a)), o5, o6, o7] [] _ _
  obtain ⟨kk, hk⟩ := op_append T M (σ.1 3000 (a + 1)) (σ.1 3000 (a + 2)) (σ.1 3000 (a + 3)) (σ.1 3000 (a + 4)) (σ.1 3000 (a + 5))
  refine R_aload_n rfl rfl ?_
  refine R_aload_n rfl rfl ?_
  refine R_iload rfl rfl ?_
  refine R_iconst (v := 1) rfl rfl ?_
  refine R_iaddN (x := a) (y := 1) rfl ?_
  refine R_sld (L := L) (j := a + 1) rfl hs hL rfl (by omega) ?_
  refine R_aload_n rfl rfl ?_
  refine R_iload rfl rfl ?_
  refine R_iconst (v := 2) rfl rfl ?_
  refine R_iaddN (x := a) (y := 2) rfl ?_
  refine R_sld (L := L) (j := a + 2) rfl hs hL rfl (by omega) ?_
  refine R_aload_n rfl rfl ?_
  refine R_iload rfl rfl ?_
  refine R_iconst (v := 3) rfl rfl ?_
  refine R_iaddN (x := a) (y := 3) rfl ?_
  refine R_sld (L := L) (j := a + 3) rfl hs hL rfl (by omega) ?_
  refine R_aload_n rfl rfl ?_
  refine R_iload rfl rfl ?_
  refine R_iconst (v := 4) rfl rfl ?_
  refine R_iaddN (x := a) (y := 4) rfl ?_
  refine R_sld (L := L) (j := a + 4) rfl hs hL rfl (by omega) ?_
  refine R_aload_n rfl rfl ?_
  refine R_iload rfl rfl ?_
  refine R_iconst (v := 5) rfl rfl ?_
  refine R_iaddN (x := a) (y := 5) rfl ?_
  refine R_sld (L := L) (j := a + 5) rfl hs hL rfl (by omega) ?_
  refine R_aload_n rfl rfl ?_
  refine R_cH (k := k) (as := [.ref 0, .int (σ.1 3000 (a + 1)), .int (σ.1 3000 (a + 2)), .int (σ.1 3000 (a + 3)), .int (σ.1 3000 (a + 4)), .int (σ.1 3000 (a + 5)), .ref 132]) rfl rfl iv_L_append hk (by decide) rfl rfl rfl rfl (Nat.le_of_ble_eq_true rfl) (fun σ1 q => ?_)
  obtain ⟨q1, b, d2, T2, hout, hM⟩ := q
  rw [← lw_iS q1] at hM
  have hs1 : σ1.1 3001 0 = nI L := (lw_iN q1).trans hs
  refine R_istore rfl (by decide) ?_
  refine R_aload_n rfl rfl ?_
  refine R_aload_n rfl rfl ?_
  refine R_iload rfl rfl ?_
  refine R_iconst (v := 1) rfl rfl ?_
  refine R_iaddN (x := a) (y := 1) rfl ?_
  refine R_sld (L := L) (j := a + 1) rfl hs1 hL rfl (by omega) ?_
  refine R_aload_n rfl rfl ?_
  refine R_iload rfl rfl ?_
  refine R_iconst (v := 2) rfl rfl ?_
  refine R_iaddN (x := a) (y := 2) rfl ?_
  refine R_sld (L := L) (j := a + 2) rfl hs1 hL rfl (by omega) ?_
  refine R_aload_n rfl rfl ?_
  refine R_iload rfl rfl ?_
  refine R_iconst (v := 3) rfl rfl ?_
  refine R_iaddN (x := a) (y := 3) rfl ?_
  refine R_sld (L := L) (j := a + 3) rfl hs1 hL rfl (by omega) ?_
  refine R_aload_n rfl rfl ?_
  refine R_iload rfl rfl ?_
  refine R_iconst (v := 4) rfl rfl ?_
  refine R_iaddN (x := a) (y := 4) rfl ?_
  refine R_sld (L := L) (j := a + 4) rfl hs1 hL rfl (by omega) ?_
  refine R_aload_n rfl rfl ?_
  refine R_iload rfl rfl ?_
  refine R_iconst (v := 5) rfl rfl ?_
  refine R_iaddN (x := a) (y := 5) rfl ?_
  refine R_sld (L := L) (j := a + 5) rfl hs1 hL rfl (by omega) ?_
  refine R_cV (as := [.int (σ1.1 3000 (a + 1)), .int (σ1.1 3000 (a + 2)), .int (σ1.1 3000 (a + 3)), .int (σ1.1 3000 (a + 4)), .int (σ1.1 3000 (a + 5))]) rfl rfl iv_M_append hM (by decide) rfl rfl tk_120 (by decide) rfl rfl (Nat.le_of_ble_eq_true rfl) (fun σ2 r => ?_)
  obtain ⟨r1, M3, rk⟩ := r
  refine R_istore rfl (by decide) ?_
  refine R_aload_n rfl rfl ?_
  refine R_cV (as := []) rfl rfl iv_M_thrown sp_thrown (by decide) rfl rfl tk_120 (by decide) rfl rfl (Nat.le_of_ble_eq_true rfl) (fun _ e => ?_)
  obtain rfl := e.symm
  refine R_iload rfl rfl ?_
  refine R_icmp_eq rfl rfl (fun _ => ?_) (fun hz => absurd rk hz)
  refine R_iload rfl rfl ?_
  refine R_if_ne rfl rfl (fun hk0 => ?_) (fun hk0 => ?_)
  · refine R_goto rfl rfl ?_
    exact nx σ2 d2 _ _ _ (T2.mo r1) M3 ((mo_iN r1).trans hs1)
  refine R_aload_n rfl rfl ?_
  refine R_iconst (v := 0) rfl rfl ?_
  refine R_xL (j := 0) rfl tk_132 rfl (by decide) (by decide) ?_
  have hv : σ2.2.1 132 0 = _ := (mo_out r1).trans (hout hk0)
  refine R_iload rfl rfl ?_
  refine R_i2l rfl ?_
  refine R_l_eq rfl rfl rfl (fun _ => ?_) (fun hz => absurd hv hz)
  refine R_goto rfl rfl ?_
  exact nx σ2 d2 _ _ _ (T2.mo r1) M3 ((mo_iN r1).trans hs1)
theorem lc_1 {L a k : Nat} {σ : am_G} {d : Dk} {o5 o6 o7 : Option Value} (hL : L ≤ 3072) (ha : a + 6 ≤ L) (T : TC σ d) (M : TM σ d) (hs : σ.1 3001 0 = nI L) (nx : lwN L a k) : am_R am_TX 20 (1 + k) c_law 416 (lwL a o5 o6 o7) [] (mm σ) lwQ := by
  show am_R _ _ _ _ 416 [some (.ref 3000), some (.ref 0), some (.ref 120), some (.ref 132), some (.int (nI a)), o5, o6, o7] [] _ _
  obtain ⟨kk, hk⟩ := op_truncate T M (σ.1 3000 (a + 1))
  refine R_aload_n rfl rfl ?_
  refine R_aload_n rfl rfl ?_
  refine R_iload rfl rfl ?_
  refine R_iconst (v := 1) rfl rfl ?_
  refine R_iaddN (x := a) (y := 1) rfl ?_
  refine R_sld (L := L) (j := a + 1) rfl hs hL rfl (by omega) ?_
  refine R_cH (k := k) (as := [.ref 0, .int (σ.1 3000 (a + 1))]) rfl rfl iv_L_truncate hk (by decide) rfl rfl rfl rfl (Nat.le_of_ble_eq_true rfl) (fun σ1 q => ?_)
  obtain ⟨q1, d2, T2, hM⟩ := q
  rw [← lw_iS q1] at hM
  have hs1 : σ1.1 3001 0 = nI L := (lw_iN q1).trans hs
  refine R_istore rfl (by decide) ?_
  refine R_aload_n rfl rfl ?_
  refine R_aload_n rfl rfl ?_
  refine R_iload rfl rfl ?_
  refine R_iconst (v := 1) rfl rfl ?_
  refine R_iaddN (x := a) (y := 1) rfl ?_
  refine R_sld (L := L) (j := a + 1) rfl hs1 hL rfl (by omega) ?_
  refine R_cV (as := [.int (σ1.1 3000 (a + 1))]) rfl rfl iv_M_truncate hM (by decide) rfl rfl tk_120 (by decide) rfl rfl (Nat.le_of_ble_eq_true rfl) (fun σ2 r => ?_)
  obtain ⟨r1, M3, rk⟩ := r
  refine R_aload_n rfl rfl ?_
  refine R_cV (as := []) rfl rfl iv_M_thrown sp_thrown (by decide) rfl rfl tk_120 (by decide) rfl rfl (Nat.le_of_ble_eq_true rfl) (fun _ e => ?_)
  obtain rfl := e.symm
  refine R_iload rfl rfl ?_
  refine R_icmp_eq rfl rfl (fun _ => ?_) (fun hz => absurd rk hz)
  refine R_goto rfl rfl ?_
  exact nx σ2 d2 _ _ _ (T2.mo r1) M3 ((mo_iN r1).trans hs1)
theorem lc_2 {L a k : Nat} {σ : am_G} {d : Dk} {o5 o6 o7 : Option Value} (hL : L ≤ 3072) (ha : a + 6 ≤ L) (T : TC σ d) (M : TM σ d) (hs : σ.1 3001 0 = nI L) (nx : lwN L a k) : am_R am_TX 20 (1 + k) c_law 452 (lwL a o5 o6 o7) [] (mm σ) lwQ := by
  show am_R _ _ _ _ 452 [some (.ref 3000), some (.ref 0), some (.ref 120), some (.ref 132), some (.int (nI a)), o5, o6, o7] [] _ _
  obtain ⟨b, hD⟩ := op_load T M
  refine R_aload_n rfl rfl ?_
  refine R_cV (as := []) rfl rfl iv_D_load hD (by decide) rfl rfl tk_0 (by decide) rfl rfl (Nat.le_of_ble_eq_true rfl) (fun σ1 q => ?_)
  obtain ⟨q1, d2, T2, hM⟩ := q
  refine R_aload_n rfl rfl ?_
  refine R_cV (as := []) rfl rfl iv_M_load hM (by decide) rfl rfl tk_120 (by decide) rfl rfl (Nat.le_of_ble_eq_true rfl) (fun σ2 r => ?_)
  obtain ⟨r1, M3⟩ := r
  refine R_icmp_eq rfl rfl (fun _ => ?_) (fun hz => absurd rfl hz)
  exact (nx σ2 d2 _ _ _ (T2.mo r1) M3 ((mo_iN r1).trans ((lw_iN q1).trans hs))).room (Nat.le_refl _) (Nat.le_add_left _ _)
theorem lc_3 {L a k : Nat} {σ : am_G} {d : Dk} {o5 o6 o7 : Option Value} (hL : L ≤ 3072) (ha : a + 6 ≤ L) (T : TC σ d) (M : TM σ d) (hs : σ.1 3001 0 = nI L) (nx : lwN L a k) : am_R am_TX 20 (1 + k) c_law 465 (lwL a o5 o6 o7) [] (mm σ) lwQ := by
  show am_R _ _ _ _ 465 [some (.ref 3000), some (.ref 0), some (.ref 120), some (.ref 132), some (.int (nI a)), o5, o6, o7] [] _ _
  obtain ⟨b, hD⟩ := op_errorCode T M
  refine R_aload_n rfl rfl ?_
  refine R_cV (as := []) rfl rfl iv_D_errorCode hD (by decide) rfl rfl tk_0 (by decide) rfl rfl (Nat.le_of_ble_eq_true rfl) (fun σ1 q => ?_)
  obtain ⟨q1, d2, T2, hM⟩ := q
  refine R_aload_n rfl rfl ?_
  refine R_cV (as := []) rfl rfl iv_M_errorCode hM (by decide) rfl rfl tk_120 (by decide) rfl rfl (Nat.le_of_ble_eq_true rfl) (fun σ2 r => ?_)
  obtain ⟨r1, M3⟩ := r
  refine R_icmp_eq rfl rfl (fun _ => ?_) (fun hz => absurd rfl hz)
  exact (nx σ2 d2 _ _ _ (T2.mo r1) M3 ((mo_iN r1).trans ((lw_iN q1).trans hs))).room (Nat.le_refl _) (Nat.le_add_left _ _)
theorem lc_4 {L a k : Nat} {σ : am_G} {d : Dk} {o5 o6 o7 : Option Value} (hL : L ≤ 3072) (ha : a + 6 ≤ L) (T : TC σ d) (M : TM σ d) (hs : σ.1 3001 0 = nI L) (nx : lwN L a k) : am_R am_TX 20 (1 + k) c_law 478 (lwL a o5 o6 o7) [] (mm σ) lwQ := by
  show am_R _ _ _ _ 478 [some (.ref 3000), some (.ref 0), some (.ref 120), some (.ref 132), some (.int (nI a)), o5, o6, o7] [] _ _
  obtain ⟨b, hD⟩ := op_errorPosition T M
  refine R_aload_n rfl rfl ?_
  refine R_cV (as := []) rfl rfl iv_D_errorPosition hD (by decide) rfl rfl tk_0 (by decide) rfl rfl (Nat.le_of_ble_eq_true rfl) (fun σ1 q => ?_)
  obtain ⟨q1, d2, T2, hM⟩ := q
  refine R_aload_n rfl rfl ?_
  refine R_cV (as := []) rfl rfl iv_M_errorPosition hM (by decide) rfl rfl tk_120 (by decide) rfl rfl (Nat.le_of_ble_eq_true rfl) (fun σ2 r => ?_)
  obtain ⟨r1, M3⟩ := r
  refine R_icmp_eq rfl rfl (fun _ => ?_) (fun hz => absurd rfl hz)
  exact (nx σ2 d2 _ _ _ (T2.mo r1) M3 ((mo_iN r1).trans ((lw_iN q1).trans hs))).room (Nat.le_refl _) (Nat.le_add_left _ _)
theorem lc_5 {L a k : Nat} {σ : am_G} {d : Dk} {o5 o6 o7 : Option Value} (hL : L ≤ 3072) (ha : a + 6 ≤ L) (T : TC σ d) (M : TM σ d) (hs : σ.1 3001 0 = nI L) (nx : lwN L a k) : am_R am_TX 20 (1 + k) c_law 491 (lwL a o5 o6 o7) [] (mm σ) lwQ := by
  show am_R _ _ _ _ 491 [some (.ref 3000), some (.ref 0), some (.ref 120), some (.ref 132), some (.int (nI a)), o5, o6, o7] [] _ _
  obtain ⟨kk, hk⟩ := op_count T M (σ.1 3000 (a + 1))
  refine R_aload_n rfl rfl ?_
  refine R_aload_n rfl rfl ?_
  refine R_iload rfl rfl ?_
  refine R_iconst (v := 1) rfl rfl ?_
  refine R_iaddN (x := a) (y := 1) rfl ?_
  refine R_sld (L := L) (j := a + 1) rfl hs hL rfl (by omega) ?_
  refine R_aload_n rfl rfl ?_
  refine R_cH (k := k) (as := [.ref 0, .int (σ.1 3000 (a + 1)), .ref 132]) rfl rfl iv_L_count hk (by decide) rfl rfl rfl rfl (Nat.le_of_ble_eq_true rfl) (fun σ1 q => ?_)
  obtain ⟨q1, b, d2, T2, hout, hM⟩ := q
  rw [← lw_iS q1] at hM
  have hs1 : σ1.1 3001 0 = nI L := (lw_iN q1).trans hs
  refine R_istore rfl (by decide) ?_
  refine R_aload_n rfl rfl ?_
  refine R_aload_n rfl rfl ?_
  refine R_iload rfl rfl ?_
  refine R_iconst (v := 1) rfl rfl ?_
  refine R_iaddN (x := a) (y := 1) rfl ?_
  refine R_sld (L := L) (j := a + 1) rfl hs1 hL rfl (by omega) ?_
  refine R_cV (as := [.int (σ1.1 3000 (a + 1))]) rfl rfl iv_M_count hM (by decide) rfl rfl tk_120 (by decide) rfl rfl (Nat.le_of_ble_eq_true rfl) (fun σ2 r => ?_)
  obtain ⟨r1, M3, rk⟩ := r
  refine R_istore rfl (by decide) ?_
  refine R_aload_n rfl rfl ?_
  refine R_cV (as := []) rfl rfl iv_M_thrown sp_thrown (by decide) rfl rfl tk_120 (by decide) rfl rfl (Nat.le_of_ble_eq_true rfl) (fun _ e => ?_)
  obtain rfl := e.symm
  refine R_iload rfl rfl ?_
  refine R_icmp_eq rfl rfl (fun _ => ?_) (fun hz => absurd rk hz)
  refine R_iload rfl rfl ?_
  refine R_if_ne rfl rfl (fun hk0 => ?_) (fun hk0 => ?_)
  · refine R_goto rfl rfl ?_
    exact nx σ2 d2 _ _ _ (T2.mo r1) M3 ((mo_iN r1).trans hs1)
  refine R_aload_n rfl rfl ?_
  refine R_iconst (v := 0) rfl rfl ?_
  refine R_xL (j := 0) rfl tk_132 rfl (by decide) (by decide) ?_
  have hv : σ2.2.1 132 0 = _ := (mo_out r1).trans (hout hk0)
  refine R_iload rfl rfl ?_
  refine R_i2l rfl ?_
  refine R_l_eq rfl rfl rfl (fun _ => ?_) (fun hz => absurd hv hz)
  refine R_goto rfl rfl ?_
  exact nx σ2 d2 _ _ _ (T2.mo r1) M3 ((mo_iN r1).trans hs1)
theorem lc_6 {L a k : Nat} {σ : am_G} {d : Dk} {o5 o6 o7 : Option Value} (hL : L ≤ 3072) (ha : a + 6 ≤ L) (T : TC σ d) (M : TM σ d) (hs : σ.1 3001 0 = nI L) (nx : lwN L a k) : am_R am_TX 20 (1 + k) c_law 547 (lwL a o5 o6 o7) [] (mm σ) lwQ := by
  show am_R _ _ _ _ 547 [some (.ref 3000), some (.ref 0), some (.ref 120), some (.ref 132), some (.int (nI a)), o5, o6, o7] [] _ _
  obtain ⟨kk, hk⟩ := op_prime T M (σ.1 3000 (a + 1))
  refine R_aload_n rfl rfl ?_
  refine R_aload_n rfl rfl ?_
  refine R_iload rfl rfl ?_
  refine R_iconst (v := 1) rfl rfl ?_
  refine R_iaddN (x := a) (y := 1) rfl ?_
  refine R_sld (L := L) (j := a + 1) rfl hs hL rfl (by omega) ?_
  refine R_aload_n rfl rfl ?_
  refine R_cH (k := k) (as := [.ref 0, .int (σ.1 3000 (a + 1)), .ref 132]) rfl rfl iv_L_prime hk (by decide) rfl rfl rfl rfl (Nat.le_of_ble_eq_true rfl) (fun σ1 q => ?_)
  obtain ⟨q1, b, d2, T2, hout, hM⟩ := q
  rw [← lw_iS q1] at hM
  have hs1 : σ1.1 3001 0 = nI L := (lw_iN q1).trans hs
  refine R_istore rfl (by decide) ?_
  refine R_aload_n rfl rfl ?_
  refine R_aload_n rfl rfl ?_
  refine R_iload rfl rfl ?_
  refine R_iconst (v := 1) rfl rfl ?_
  refine R_iaddN (x := a) (y := 1) rfl ?_
  refine R_sld (L := L) (j := a + 1) rfl hs1 hL rfl (by omega) ?_
  refine R_cV (as := [.int (σ1.1 3000 (a + 1))]) rfl rfl iv_M_prime hM (by decide) rfl rfl tk_120 (by decide) rfl rfl (Nat.le_of_ble_eq_true rfl) (fun σ2 r => ?_)
  obtain ⟨r1, M3, rk⟩ := r
  refine R_istore rfl (by decide) ?_
  refine R_aload_n rfl rfl ?_
  refine R_cV (as := []) rfl rfl iv_M_thrown sp_thrown (by decide) rfl rfl tk_120 (by decide) rfl rfl (Nat.le_of_ble_eq_true rfl) (fun _ e => ?_)
  obtain rfl := e.symm
  refine R_iload rfl rfl ?_
  refine R_icmp_eq rfl rfl (fun _ => ?_) (fun hz => absurd rk hz)
  refine R_iload rfl rfl ?_
  refine R_if_ne rfl rfl (fun hk0 => ?_) (fun hk0 => ?_)
  · refine R_goto rfl rfl ?_
    exact nx σ2 d2 _ _ _ (T2.mo r1) M3 ((mo_iN r1).trans hs1)
  refine R_aload_n rfl rfl ?_
  refine R_iconst (v := 0) rfl rfl ?_
  refine R_xL (j := 0) rfl tk_132 rfl (by decide) (by decide) ?_
  have hv : σ2.2.1 132 0 = _ := (mo_out r1).trans (hout hk0)
  refine R_iload rfl rfl ?_
  refine R_i2l rfl ?_
  refine R_l_eq rfl rfl rfl (fun _ => ?_) (fun hz => absurd hv hz)
  refine R_goto rfl rfl ?_
  exact nx σ2 d2 _ _ _ (T2.mo r1) M3 ((mo_iN r1).trans hs1)
theorem lc_7 {L a k : Nat} {σ : am_G} {d : Dk} {o5 o6 o7 : Option Value} (hL : L ≤ 3072) (ha : a + 6 ≤ L) (T : TC σ d) (M : TM σ d) (hs : σ.1 3001 0 = nI L) (nx : lwN L a k) : am_R am_TX 20 (1 + k) c_law 603 (lwL a o5 o6 o7) [] (mm σ) lwQ := by
  show am_R _ _ _ _ 603 [some (.ref 3000), some (.ref 0), some (.ref 120), some (.ref 132), some (.int (nI a)), o5, o6, o7] [] _ _
  obtain ⟨kk, hk⟩ := op_entry T M (σ.1 3000 (a + 1)) (σ.1 3000 (a + 2))
  refine R_aload_n rfl rfl ?_
  refine R_aload_n rfl rfl ?_
  refine R_iload rfl rfl ?_
  refine R_iconst (v := 1) rfl rfl ?_
  refine R_iaddN (x := a) (y := 1) rfl ?_
  refine R_sld (L := L) (j := a + 1) rfl hs hL rfl (by omega) ?_
  refine R_aload_n rfl rfl ?_
  refine R_iload rfl rfl ?_
  refine R_iconst (v := 2) rfl rfl ?_
  refine R_iaddN (x := a) (y := 2) rfl ?_
  refine R_sld (L := L) (j := a + 2) rfl hs hL rfl (by omega) ?_
  refine R_aload_n rfl rfl ?_
  refine R_cH (k := k) (as := [.ref 0, .int (σ.1 3000 (a + 1)), .int (σ.1 3000 (a + 2)), .ref 132]) rfl rfl iv_L_entry hk (by decide) rfl rfl rfl rfl (Nat.le_of_ble_eq_true rfl) (fun σ1 q => ?_)
  obtain ⟨q1, b, d2, T2, hout, hM⟩ := q
  rw [← lw_iS q1] at hM
  have hs1 : σ1.1 3001 0 = nI L := (lw_iN q1).trans hs
  refine R_istore rfl (by decide) ?_
  refine R_aload_n rfl rfl ?_
  refine R_aload_n rfl rfl ?_
  refine R_iload rfl rfl ?_
  refine R_iconst (v := 1) rfl rfl ?_
  refine R_iaddN (x := a) (y := 1) rfl ?_
  refine R_sld (L := L) (j := a + 1) rfl hs1 hL rfl (by omega) ?_
  refine R_aload_n rfl rfl ?_
  refine R_iload rfl rfl ?_
  refine R_iconst (v := 2) rfl rfl ?_
  refine R_iaddN (x := a) (y := 2) rfl ?_
  refine R_sld (L := L) (j := a + 2) rfl hs1 hL rfl (by omega) ?_
  refine R_cV (as := [.int (σ1.1 3000 (a + 1)), .int (σ1.1 3000 (a + 2))]) rfl rfl iv_M_entry hM (by decide) rfl rfl tk_120 (by decide) rfl rfl (Nat.le_of_ble_eq_true rfl) (fun σ2 r => ?_)
  obtain ⟨r1, M3, rk⟩ := r
  refine R_istore rfl (by decide) ?_
  refine R_aload_n rfl rfl ?_
  refine R_cV (as := []) rfl rfl iv_M_thrown sp_thrown (by decide) rfl rfl tk_120 (by decide) rfl rfl (Nat.le_of_ble_eq_true rfl) (fun _ e => ?_)
  obtain rfl := e.symm
  refine R_iload rfl rfl ?_
  refine R_icmp_eq rfl rfl (fun _ => ?_) (fun hz => absurd rk hz)
  refine R_iload rfl rfl ?_
  refine R_if_ne rfl rfl (fun hk0 => ?_) (fun hk0 => ?_)
  · refine R_goto rfl rfl ?_
    exact nx σ2 d2 _ _ _ (T2.mo r1) M3 ((mo_iN r1).trans hs1)
  refine R_aload_n rfl rfl ?_
  refine R_iconst (v := 0) rfl rfl ?_
  refine R_xL (j := 0) rfl tk_132 rfl (by decide) (by decide) ?_
  have hv : σ2.2.1 132 0 = _ := (mo_out r1).trans (hout hk0)
  refine R_iload rfl rfl ?_
  refine R_i2l rfl ?_
  refine R_l_eq rfl rfl rfl (fun _ => ?_) (fun hz => absurd hv hz)
  refine R_goto rfl rfl ?_
  exact nx σ2 d2 _ _ _ (T2.mo r1) M3 ((mo_iN r1).trans hs1)
theorem lc_8 {L a k : Nat} {σ : am_G} {d : Dk} {o5 o6 o7 : Option Value} (hL : L ≤ 3072) (ha : a + 6 ≤ L) (T : TC σ d) (M : TM σ d) (hs : σ.1 3001 0 = nI L) (nx : lwN L a k) : am_R am_TX 20 (1 + k) c_law 671 (lwL a o5 o6 o7) [] (mm σ) lwQ := by
  show am_R _ _ _ _ 671 [some (.ref 3000), some (.ref 0), some (.ref 120), some (.ref 132), some (.int (nI a)), o5, o6, o7] [] _ _
  obtain ⟨kk, hk⟩ := op_rank T M (σ.1 3000 (a + 1))
  refine R_aload_n rfl rfl ?_
  refine R_aload_n rfl rfl ?_
  refine R_iload rfl rfl ?_
  refine R_iconst (v := 1) rfl rfl ?_
  refine R_iaddN (x := a) (y := 1) rfl ?_
  refine R_sld (L := L) (j := a + 1) rfl hs hL rfl (by omega) ?_
  refine R_aload_n rfl rfl ?_
  refine R_cH (k := k) (as := [.ref 0, .int (σ.1 3000 (a + 1)), .ref 132]) rfl rfl iv_L_rank hk (by decide) rfl rfl rfl rfl (Nat.le_of_ble_eq_true rfl) (fun σ1 q => ?_)
  obtain ⟨q1, b, d2, T2, hout, hM⟩ := q
  rw [← lw_iS q1] at hM
  have hs1 : σ1.1 3001 0 = nI L := (lw_iN q1).trans hs
  refine R_istore rfl (by decide) ?_
  refine R_aload_n rfl rfl ?_
  refine R_aload_n rfl rfl ?_
  refine R_iload rfl rfl ?_
  refine R_iconst (v := 1) rfl rfl ?_
  refine R_iaddN (x := a) (y := 1) rfl ?_
  refine R_sld (L := L) (j := a + 1) rfl hs1 hL rfl (by omega) ?_
  refine R_cV (as := [.int (σ1.1 3000 (a + 1))]) rfl rfl iv_M_rank hM (by decide) rfl rfl tk_120 (by decide) rfl rfl (Nat.le_of_ble_eq_true rfl) (fun σ2 r => ?_)
  obtain ⟨r1, M3, rk⟩ := r
  refine R_istore rfl (by decide) ?_
  refine R_aload_n rfl rfl ?_
  refine R_cV (as := []) rfl rfl iv_M_thrown sp_thrown (by decide) rfl rfl tk_120 (by decide) rfl rfl (Nat.le_of_ble_eq_true rfl) (fun _ e => ?_)
  obtain rfl := e.symm
  refine R_iload rfl rfl ?_
  refine R_icmp_eq rfl rfl (fun _ => ?_) (fun hz => absurd rk hz)
  refine R_iload rfl rfl ?_
  refine R_if_ne rfl rfl (fun hk0 => ?_) (fun hk0 => ?_)
  · refine R_goto rfl rfl ?_
    exact nx σ2 d2 _ _ _ (T2.mo r1) M3 ((mo_iN r1).trans hs1)
  refine R_aload_n rfl rfl ?_
  refine R_iconst (v := 0) rfl rfl ?_
  refine R_xL (j := 0) rfl tk_132 rfl (by decide) (by decide) ?_
  have hv : σ2.2.1 132 0 = _ := (mo_out r1).trans (hout hk0)
  refine R_iload rfl rfl ?_
  refine R_i2l rfl ?_
  refine R_l_eq rfl rfl rfl (fun _ => ?_) (fun hz => absurd hv hz)
  refine R_goto rfl rfl ?_
  exact nx σ2 d2 _ _ _ (T2.mo r1) M3 ((mo_iN r1).trans hs1)
theorem lc_9 {L a k : Nat} {σ : am_G} {d : Dk} {o5 o6 o7 : Option Value} (hL : L ≤ 3072) (ha : a + 6 ≤ L) (T : TC σ d) (M : TM σ d) (hs : σ.1 3001 0 = nI L) (nx : lwN L a k) : am_R am_TX 20 (1 + k) c_law 727 (lwL a o5 o6 o7) [] (mm σ) lwQ := by
  show am_R _ _ _ _ 727 [some (.ref 3000), some (.ref 0), some (.ref 120), some (.ref 132), some (.int (nI a)), o5, o6, o7] [] _ _
  obtain ⟨kk, hk⟩ := op_rankOf T M (σ.1 3000 (a + 1)) (σ.1 3000 (a + 2)) (σ.1 3000 (a + 3))
  refine R_aload_n rfl rfl ?_
  refine R_aload_n rfl rfl ?_
  refine R_iload rfl rfl ?_
  refine R_iconst (v := 1) rfl rfl ?_
  refine R_iaddN (x := a) (y := 1) rfl ?_
  refine R_sld (L := L) (j := a + 1) rfl hs hL rfl (by omega) ?_
  refine R_aload_n rfl rfl ?_
  refine R_iload rfl rfl ?_
  refine R_iconst (v := 2) rfl rfl ?_
  refine R_iaddN (x := a) (y := 2) rfl ?_
  refine R_sld (L := L) (j := a + 2) rfl hs hL rfl (by omega) ?_
  refine R_aload_n rfl rfl ?_
  refine R_iload rfl rfl ?_
  refine R_iconst (v := 3) rfl rfl ?_
  refine R_iaddN (x := a) (y := 3) rfl ?_
  refine R_sld (L := L) (j := a + 3) rfl hs hL rfl (by omega) ?_
  refine R_aload_n rfl rfl ?_
  refine R_cH (k := k) (as := [.ref 0, .int (σ.1 3000 (a + 1)), .int (σ.1 3000 (a + 2)), .int (σ.1 3000 (a + 3)), .ref 132]) rfl rfl iv_L_rankOf hk (by decide) rfl rfl rfl rfl (Nat.le_of_ble_eq_true rfl) (fun σ1 q => ?_)
  obtain ⟨q1, b, d2, T2, hout, hM⟩ := q
  rw [← lw_iS q1] at hM
  have hs1 : σ1.1 3001 0 = nI L := (lw_iN q1).trans hs
  refine R_istore rfl (by decide) ?_
  refine R_aload_n rfl rfl ?_
  refine R_aload_n rfl rfl ?_
  refine R_iload rfl rfl ?_
  refine R_iconst (v := 1) rfl rfl ?_
  refine R_iaddN (x := a) (y := 1) rfl ?_
  refine R_sld (L := L) (j := a + 1) rfl hs1 hL rfl (by omega) ?_
  refine R_aload_n rfl rfl ?_
  refine R_iload rfl rfl ?_
  refine R_iconst (v := 2) rfl rfl ?_
  refine R_iaddN (x := a) (y := 2) rfl ?_
  refine R_sld (L := L) (j := a + 2) rfl hs1 hL rfl (by omega) ?_
  refine R_aload_n rfl rfl ?_
  refine R_iload rfl rfl ?_
  refine R_iconst (v := 3) rfl rfl ?_
  refine R_iaddN (x := a) (y := 3) rfl ?_
  refine R_sld (L := L) (j := a + 3) rfl hs1 hL rfl (by omega) ?_
  refine R_cV (as := [.int (σ1.1 3000 (a + 1)), .int (σ1.1 3000 (a + 2)), .int (σ1.1 3000 (a + 3))]) rfl rfl iv_M_rankOf hM (by decide) rfl rfl tk_120 (by decide) rfl rfl (Nat.le_of_ble_eq_true rfl) (fun σ2 r => ?_)
  obtain ⟨r1, M3, rk⟩ := r
  refine R_istore rfl (by decide) ?_
  refine R_aload_n rfl rfl ?_
  refine R_cV (as := []) rfl rfl iv_M_thrown sp_thrown (by decide) rfl rfl tk_120 (by decide) rfl rfl (Nat.le_of_ble_eq_true rfl) (fun _ e => ?_)
  obtain rfl := e.symm
  refine R_iload rfl rfl ?_
  refine R_icmp_eq rfl rfl (fun _ => ?_) (fun hz => absurd rk hz)
  refine R_iload rfl rfl ?_
  refine R_if_ne rfl rfl (fun hk0 => ?_) (fun hk0 => ?_)
  · refine R_goto rfl rfl ?_
    exact nx σ2 d2 _ _ _ (T2.mo r1) M3 ((mo_iN r1).trans hs1)
  refine R_aload_n rfl rfl ?_
  refine R_iconst (v := 0) rfl rfl ?_
  refine R_xL (j := 0) rfl tk_132 rfl (by decide) (by decide) ?_
  have hv : σ2.2.1 132 0 = _ := (mo_out r1).trans (hout hk0)
  refine R_iload rfl rfl ?_
  refine R_i2l rfl ?_
  refine R_l_eq rfl rfl rfl (fun _ => ?_) (fun hz => absurd hv hz)
  refine R_goto rfl rfl ?_
  exact nx σ2 d2 _ _ _ (T2.mo r1) M3 ((mo_iN r1).trans hs1)
theorem lc_10 {L a k : Nat} {σ : am_G} {d : Dk} {o5 o6 o7 : Option Value} (hL : L ≤ 3072) (ha : a + 6 ≤ L) (T : TC σ d) (M : TM σ d) (hs : σ.1 3001 0 = nI L) (nx : lwN L a k) : am_R am_TX 20 (1 + k) c_law 807 (lwL a o5 o6 o7) [] (mm σ) lwQ := by
  show am_R _ _ _ _ 807 [some (.ref 3000), some (.ref 0), some (.ref 120), some (.ref 132), some (.int (nI a)), o5, o6, o7] [] _ _
  obtain ⟨kk, hk⟩ := op_minor T M (σ.1 3000 (a + 1)) (σ.1 3000 (a + 2))
  refine R_aload_n rfl rfl ?_
  refine R_aload_n rfl rfl ?_
  refine R_iload rfl rfl ?_
  refine R_iconst (v := 1) rfl rfl ?_
  refine R_iaddN (x := a) (y := 1) rfl ?_
  refine R_sld (L := L) (j := a + 1) rfl hs hL rfl (by omega) ?_
  refine R_aload_n rfl rfl ?_
  refine R_iload rfl rfl ?_
  refine R_iconst (v := 2) rfl rfl ?_
  refine R_iaddN (x := a) (y := 2) rfl ?_
  refine R_sld (L := L) (j := a + 2) rfl hs hL rfl (by omega) ?_
  refine R_aload_n rfl rfl ?_
  refine R_cH (k := k) (as := [.ref 0, .int (σ.1 3000 (a + 1)), .int (σ.1 3000 (a + 2)), .ref 132]) rfl rfl iv_L_minor hk (by decide) rfl rfl rfl rfl (Nat.le_of_ble_eq_true rfl) (fun σ1 q => ?_)
  obtain ⟨q1, b, d2, T2, hout, hM⟩ := q
  rw [← lw_iS q1] at hM
  have hs1 : σ1.1 3001 0 = nI L := (lw_iN q1).trans hs
  refine R_istore rfl (by decide) ?_
  refine R_aload_n rfl rfl ?_
  refine R_aload_n rfl rfl ?_
  refine R_iload rfl rfl ?_
  refine R_iconst (v := 1) rfl rfl ?_
  refine R_iaddN (x := a) (y := 1) rfl ?_
  refine R_sld (L := L) (j := a + 1) rfl hs1 hL rfl (by omega) ?_
  refine R_aload_n rfl rfl ?_
  refine R_iload rfl rfl ?_
  refine R_iconst (v := 2) rfl rfl ?_
  refine R_iaddN (x := a) (y := 2) rfl ?_
  refine R_sld (L := L) (j := a + 2) rfl hs1 hL rfl (by omega) ?_
  refine R_cV (as := [.int (σ1.1 3000 (a + 1)), .int (σ1.1 3000 (a + 2))]) rfl rfl iv_M_minor hM (by decide) rfl rfl tk_120 (by decide) rfl rfl (Nat.le_of_ble_eq_true rfl) (fun σ2 r => ?_)
  obtain ⟨r1, M3, rk⟩ := r
  refine R_lstore rfl (by decide) ?_
  refine R_aload_n rfl rfl ?_
  refine R_cV (as := []) rfl rfl iv_M_thrown sp_thrown (by decide) rfl rfl tk_120 (by decide) rfl rfl (Nat.le_of_ble_eq_true rfl) (fun _ e => ?_)
  obtain rfl := e.symm
  refine R_iload rfl rfl ?_
  refine R_icmp_eq rfl rfl (fun _ => ?_) (fun hz => absurd rk hz)
  refine R_iload rfl rfl ?_
  refine R_if_ne rfl rfl (fun hk0 => ?_) (fun hk0 => ?_)
  · refine R_goto rfl rfl ?_
    exact nx σ2 d2 _ _ _ (T2.mo r1) M3 ((mo_iN r1).trans hs1)
  refine R_aload_n rfl rfl ?_
  refine R_iconst (v := 0) rfl rfl ?_
  refine R_xL (j := 0) rfl tk_132 rfl (by decide) (by decide) ?_
  have hv : σ2.2.1 132 0 = _ := (mo_out r1).trans (hout hk0)
  refine R_lload rfl rfl ?_
  refine R_l_eq rfl rfl rfl (fun _ => ?_) (fun hz => absurd hv hz)
  refine R_goto rfl rfl ?_
  exact nx σ2 d2 _ _ _ (T2.mo r1) M3 ((mo_iN r1).trans hs1)
theorem lc_11 {L a k : Nat} {σ : am_G} {d : Dk} {o5 o6 o7 : Option Value} (hL : L ≤ 3072) (ha : a + 6 ≤ L) (T : TC σ d) (M : TM σ d) (hs : σ.1 3001 0 = nI L) (nx : lwN L a k) : am_R am_TX 20 (1 + k) c_law 874 (lwL a o5 o6 o7) [] (mm σ) lwQ := by
  show am_R _ _ _ _ 874 [some (.ref 3000), some (.ref 0), some (.ref 120), some (.ref 132), some (.int (nI a)), o5, o6, o7] [] _ _
  obtain ⟨kk, hk⟩ := op_rowProfile T M (σ.1 3000 (a + 1))
  refine R_aload_n rfl rfl ?_
  refine R_aload_n rfl rfl ?_
  refine R_iload rfl rfl ?_
  refine R_iconst (v := 1) rfl rfl ?_
  refine R_iaddN (x := a) (y := 1) rfl ?_
  refine R_sld (L := L) (j := a + 1) rfl hs hL rfl (by omega) ?_
  refine R_aload_n rfl rfl ?_
  refine R_cH (k := k) (as := [.ref 0, .int (σ.1 3000 (a + 1)), .ref 132]) rfl rfl iv_L_rowProfile hk (by decide) rfl rfl rfl rfl (Nat.le_of_ble_eq_true rfl) (fun σ1 q => ?_)
  obtain ⟨q1, b, d2, T2, hout, hM⟩ := q
  rw [← lw_iS q1] at hM
  have hs1 : σ1.1 3001 0 = nI L := (lw_iN q1).trans hs
  refine R_istore rfl (by decide) ?_
  refine R_aload_n rfl rfl ?_
  refine R_aload_n rfl rfl ?_
  refine R_iload rfl rfl ?_
  refine R_iconst (v := 1) rfl rfl ?_
  refine R_iaddN (x := a) (y := 1) rfl ?_
  refine R_sld (L := L) (j := a + 1) rfl hs1 hL rfl (by omega) ?_
  refine R_cV (as := [.int (σ1.1 3000 (a + 1))]) rfl rfl iv_M_rowProfile hM (by decide) rfl rfl tk_120 (by decide) rfl rfl (Nat.le_of_ble_eq_true rfl) (fun σ2 r => ?_)
  obtain ⟨r1, M3, rk⟩ := r
  refine R_istore rfl (by decide) ?_
  refine R_aload_n rfl rfl ?_
  refine R_cV (as := []) rfl rfl iv_M_thrown sp_thrown (by decide) rfl rfl tk_120 (by decide) rfl rfl (Nat.le_of_ble_eq_true rfl) (fun _ e => ?_)
  obtain rfl := e.symm
  refine R_iload rfl rfl ?_
  refine R_icmp_eq rfl rfl (fun _ => ?_) (fun hz => absurd rk hz)
  refine R_iload rfl rfl ?_
  refine R_if_ne rfl rfl (fun hk0 => ?_) (fun hk0 => ?_)
  · refine R_goto rfl rfl ?_
    exact nx σ2 d2 _ _ _ (T2.mo r1) M3 ((mo_iN r1).trans hs1)
  refine R_aload_n rfl rfl ?_
  refine R_iconst (v := 0) rfl rfl ?_
  refine R_xL (j := 0) rfl tk_132 rfl (by decide) (by decide) ?_
  have hv : σ2.2.1 132 0 = _ := (mo_out r1).trans (hout hk0)
  refine R_iload rfl rfl ?_
  refine R_i2l rfl ?_
  refine R_l_eq rfl rfl rfl (fun _ => ?_) (fun hz => absurd hv hz)
  refine R_goto rfl rfl ?_
  exact nx σ2 d2 _ _ _ (T2.mo r1) M3 ((mo_iN r1).trans hs1)
theorem lc_12 {L a k : Nat} {σ : am_G} {d : Dk} {o5 o6 o7 : Option Value} (hL : L ≤ 3072) (ha : a + 6 ≤ L) (T : TC σ d) (M : TM σ d) (hs : σ.1 3001 0 = nI L) (nx : lwN L a k) : am_R am_TX 20 (1 + k) c_law 930 (lwL a o5 o6 o7) [] (mm σ) lwQ := by
  show am_R _ _ _ _ 930 [some (.ref 3000), some (.ref 0), some (.ref 120), some (.ref 132), some (.int (nI a)), o5, o6, o7] [] _ _
  obtain ⟨kk, hk⟩ := op_columnProfile T M (σ.1 3000 (a + 1))
  refine R_aload_n rfl rfl ?_
  refine R_aload_n rfl rfl ?_
  refine R_iload rfl rfl ?_
  refine R_iconst (v := 1) rfl rfl ?_
  refine R_iaddN (x := a) (y := 1) rfl ?_
  refine R_sld (L := L) (j := a + 1) rfl hs hL rfl (by omega) ?_
  refine R_aload_n rfl rfl ?_
  refine R_cH (k := k) (as := [.ref 0, .int (σ.1 3000 (a + 1)), .ref 132]) rfl rfl iv_L_columnProfile hk (by decide) rfl rfl rfl rfl (Nat.le_of_ble_eq_true rfl) (fun σ1 q => ?_)
  obtain ⟨q1, b, d2, T2, hout, hM⟩ := q
  rw [← lw_iS q1] at hM
  have hs1 : σ1.1 3001 0 = nI L := (lw_iN q1).trans hs
  refine R_istore rfl (by decide) ?_
  refine R_aload_n rfl rfl ?_
  refine R_aload_n rfl rfl ?_
  refine R_iload rfl rfl ?_
  refine R_iconst (v := 1) rfl rfl ?_
  refine R_iaddN (x := a) (y := 1) rfl ?_
  refine R_sld (L := L) (j := a + 1) rfl hs1 hL rfl (by omega) ?_
  refine R_cV (as := [.int (σ1.1 3000 (a + 1))]) rfl rfl iv_M_columnProfile hM (by decide) rfl rfl tk_120 (by decide) rfl rfl (Nat.le_of_ble_eq_true rfl) (fun σ2 r => ?_)
  obtain ⟨r1, M3, rk⟩ := r
  refine R_istore rfl (by decide) ?_
  refine R_aload_n rfl rfl ?_
  refine R_cV (as := []) rfl rfl iv_M_thrown sp_thrown (by decide) rfl rfl tk_120 (by decide) rfl rfl (Nat.le_of_ble_eq_true rfl) (fun _ e => ?_)
  obtain rfl := e.symm
  refine R_iload rfl rfl ?_
  refine R_icmp_eq rfl rfl (fun _ => ?_) (fun hz => absurd rk hz)
  refine R_iload rfl rfl ?_
  refine R_if_ne rfl rfl (fun hk0 => ?_) (fun hk0 => ?_)
  · refine R_goto rfl rfl ?_
    exact nx σ2 d2 _ _ _ (T2.mo r1) M3 ((mo_iN r1).trans hs1)
  refine R_aload_n rfl rfl ?_
  refine R_iconst (v := 0) rfl rfl ?_
  refine R_xL (j := 0) rfl tk_132 rfl (by decide) (by decide) ?_
  have hv : σ2.2.1 132 0 = _ := (mo_out r1).trans (hout hk0)
  refine R_iload rfl rfl ?_
  refine R_i2l rfl ?_
  refine R_l_eq rfl rfl rfl (fun _ => ?_) (fun hz => absurd hv hz)
  refine R_goto rfl rfl ?_
  exact nx σ2 d2 _ _ _ (T2.mo r1) M3 ((mo_iN r1).trans hs1)
theorem lc_13 {L a k : Nat} {σ : am_G} {d : Dk} {o5 o6 o7 : Option Value} (hL : L ≤ 3072) (ha : a + 6 ≤ L) (T : TC σ d) (M : TM σ d) (hs : σ.1 3001 0 = nI L) (nx : lwN L a k) : am_R am_TX 20 (1 + k) c_law 986 (lwL a o5 o6 o7) [] (mm σ) lwQ := by
  show am_R _ _ _ _ 986 [some (.ref 3000), some (.ref 0), some (.ref 120), some (.ref 132), some (.int (nI a)), o5, o6, o7] [] _ _
  obtain ⟨kk, hk⟩ := op_pivot T M (σ.1 3000 (a + 1)) (σ.1 3000 (a + 2))
  refine R_aload_n rfl rfl ?_
  refine R_aload_n rfl rfl ?_
  refine R_iload rfl rfl ?_
  refine R_iconst (v := 1) rfl rfl ?_
  refine R_iaddN (x := a) (y := 1) rfl ?_
  refine R_sld (L := L) (j := a + 1) rfl hs hL rfl (by omega) ?_
  refine R_aload_n rfl rfl ?_
  refine R_iload rfl rfl ?_
  refine R_iconst (v := 2) rfl rfl ?_
  refine R_iaddN (x := a) (y := 2) rfl ?_
  refine R_sld (L := L) (j := a + 2) rfl hs hL rfl (by omega) ?_
  refine R_aload_n rfl rfl ?_
  refine R_cH (k := k) (as := [.ref 0, .int (σ.1 3000 (a + 1)), .int (σ.1 3000 (a + 2)), .ref 132]) rfl rfl iv_L_pivot hk (by decide) rfl rfl rfl rfl (Nat.le_of_ble_eq_true rfl) (fun σ1 q => ?_)
  obtain ⟨q1, b, d2, T2, hout, hM⟩ := q
  rw [← lw_iS q1] at hM
  have hs1 : σ1.1 3001 0 = nI L := (lw_iN q1).trans hs
  refine R_istore rfl (by decide) ?_
  refine R_aload_n rfl rfl ?_
  refine R_aload_n rfl rfl ?_
  refine R_iload rfl rfl ?_
  refine R_iconst (v := 1) rfl rfl ?_
  refine R_iaddN (x := a) (y := 1) rfl ?_
  refine R_sld (L := L) (j := a + 1) rfl hs1 hL rfl (by omega) ?_
  refine R_aload_n rfl rfl ?_
  refine R_iload rfl rfl ?_
  refine R_iconst (v := 2) rfl rfl ?_
  refine R_iaddN (x := a) (y := 2) rfl ?_
  refine R_sld (L := L) (j := a + 2) rfl hs1 hL rfl (by omega) ?_
  refine R_cV (as := [.int (σ1.1 3000 (a + 1)), .int (σ1.1 3000 (a + 2))]) rfl rfl iv_M_pivot hM (by decide) rfl rfl tk_120 (by decide) rfl rfl (Nat.le_of_ble_eq_true rfl) (fun σ2 r => ?_)
  obtain ⟨r1, M3, rk⟩ := r
  refine R_istore rfl (by decide) ?_
  refine R_aload_n rfl rfl ?_
  refine R_cV (as := []) rfl rfl iv_M_thrown sp_thrown (by decide) rfl rfl tk_120 (by decide) rfl rfl (Nat.le_of_ble_eq_true rfl) (fun _ e => ?_)
  obtain rfl := e.symm
  refine R_iload rfl rfl ?_
  refine R_icmp_eq rfl rfl (fun _ => ?_) (fun hz => absurd rk hz)
  refine R_iload rfl rfl ?_
  refine R_if_ne rfl rfl (fun hk0 => ?_) (fun hk0 => ?_)
  · refine R_goto rfl rfl ?_
    exact nx σ2 d2 _ _ _ (T2.mo r1) M3 ((mo_iN r1).trans hs1)
  refine R_aload_n rfl rfl ?_
  refine R_iconst (v := 0) rfl rfl ?_
  refine R_xL (j := 0) rfl tk_132 rfl (by decide) (by decide) ?_
  have hv : σ2.2.1 132 0 = _ := (mo_out r1).trans (hout hk0)
  refine R_iload rfl rfl ?_
  refine R_i2l rfl ?_
  refine R_l_eq rfl rfl rfl (fun _ => ?_) (fun hz => absurd hv hz)
  refine R_goto rfl rfl ?_
  exact nx σ2 d2 _ _ _ (T2.mo r1) M3 ((mo_iN r1).trans hs1)
theorem lc_14 {L a k : Nat} {σ : am_G} {d : Dk} {o5 o6 o7 : Option Value} (hL : L ≤ 3072) (ha : a + 6 ≤ L) (T : TC σ d) (M : TM σ d) (hs : σ.1 3001 0 = nI L) (nx : lwN L a k) : am_R am_TX 20 (1 + k) c_law 1054 (lwL a o5 o6 o7) [] (mm σ) lwQ := by
  show am_R _ _ _ _ 1054 [some (.ref 3000), some (.ref 0), some (.ref 120), some (.ref 132), some (.int (nI a)), o5, o6, o7] [] _ _
  obtain ⟨kk, hk⟩ := op_divisor T M (σ.1 3000 (a + 1))
  refine R_aload_n rfl rfl ?_
  refine R_aload_n rfl rfl ?_
  refine R_iload rfl rfl ?_
  refine R_iconst (v := 1) rfl rfl ?_
  refine R_iaddN (x := a) (y := 1) rfl ?_
  refine R_sld (L := L) (j := a + 1) rfl hs hL rfl (by omega) ?_
  refine R_aload_n rfl rfl ?_
  refine R_cH (k := k) (as := [.ref 0, .int (σ.1 3000 (a + 1)), .ref 132]) rfl rfl iv_L_divisor hk (by decide) rfl rfl rfl rfl (Nat.le_of_ble_eq_true rfl) (fun σ1 q => ?_)
  obtain ⟨q1, b, d2, T2, hout, hM⟩ := q
  rw [← lw_iS q1] at hM
  have hs1 : σ1.1 3001 0 = nI L := (lw_iN q1).trans hs
  refine R_istore rfl (by decide) ?_
  refine R_aload_n rfl rfl ?_
  refine R_aload_n rfl rfl ?_
  refine R_iload rfl rfl ?_
  refine R_iconst (v := 1) rfl rfl ?_
  refine R_iaddN (x := a) (y := 1) rfl ?_
  refine R_sld (L := L) (j := a + 1) rfl hs1 hL rfl (by omega) ?_
  refine R_cV (as := [.int (σ1.1 3000 (a + 1))]) rfl rfl iv_M_divisor hM (by decide) rfl rfl tk_120 (by decide) rfl rfl (Nat.le_of_ble_eq_true rfl) (fun σ2 r => ?_)
  obtain ⟨r1, M3, rk⟩ := r
  refine R_lstore rfl (by decide) ?_
  refine R_aload_n rfl rfl ?_
  refine R_cV (as := []) rfl rfl iv_M_thrown sp_thrown (by decide) rfl rfl tk_120 (by decide) rfl rfl (Nat.le_of_ble_eq_true rfl) (fun _ e => ?_)
  obtain rfl := e.symm
  refine R_iload rfl rfl ?_
  refine R_icmp_eq rfl rfl (fun _ => ?_) (fun hz => absurd rk hz)
  refine R_iload rfl rfl ?_
  refine R_if_ne rfl rfl (fun hk0 => ?_) (fun hk0 => ?_)
  · refine R_goto rfl rfl ?_
    exact nx σ2 d2 _ _ _ (T2.mo r1) M3 ((mo_iN r1).trans hs1)
  refine R_aload_n rfl rfl ?_
  refine R_iconst (v := 0) rfl rfl ?_
  refine R_xL (j := 0) rfl tk_132 rfl (by decide) (by decide) ?_
  have hv : σ2.2.1 132 0 = _ := (mo_out r1).trans (hout hk0)
  refine R_lload rfl rfl ?_
  refine R_l_eq rfl rfl rfl (fun _ => ?_) (fun hz => absurd hv hz)
  refine R_goto rfl rfl ?_
  exact nx σ2 d2 _ _ _ (T2.mo r1) M3 ((mo_iN r1).trans hs1)
theorem lc_15 {L a k : Nat} {σ : am_G} {d : Dk} {o5 o6 o7 : Option Value} (hL : L ≤ 3072) (ha : a + 6 ≤ L) (T : TC σ d) (M : TM σ d) (hs : σ.1 3001 0 = nI L) (nx : lwN L a k) : am_R am_TX 20 (1 + k) c_law 1109 (lwL a o5 o6 o7) [] (mm σ) lwQ := by
  show am_R _ _ _ _ 1109 [some (.ref 3000), some (.ref 0), some (.ref 120), some (.ref 132), some (.int (nI a)), o5, o6, o7] [] _ _
  obtain ⟨b, hD⟩ := op_unlucky T M
  refine R_aload_n rfl rfl ?_
  refine R_cV (as := []) rfl rfl iv_D_unlucky hD (by decide) rfl rfl tk_0 (by decide) rfl rfl (Nat.le_of_ble_eq_true rfl) (fun σ1 q => ?_)
  obtain ⟨q1, d2, T2, hM⟩ := q
  refine R_aload_n rfl rfl ?_
  refine R_cV (as := []) rfl rfl iv_M_unlucky hM (by decide) rfl rfl tk_120 (by decide) rfl rfl (Nat.le_of_ble_eq_true rfl) (fun σ2 r => ?_)
  obtain ⟨r1, M3⟩ := r
  refine R_icmp_eq rfl rfl (fun _ => ?_) (fun hz => absurd rfl hz)
  exact (nx σ2 d2 _ _ _ (T2.mo r1) M3 ((mo_iN r1).trans ((lw_iN q1).trans hs))).room (Nat.le_refl _) (Nat.le_add_left _ _)
theorem lc_16 {L a k : Nat} {σ : am_G} {d : Dk} {o5 o6 o7 : Option Value} (hL : L ≤ 3072) (ha : a + 6 ≤ L) (T : TC σ d) (M : TM σ d) (hs : σ.1 3001 0 = nI L) (nx : lwN L a k) : am_R am_TX 20 (1 + k) c_law 1122 (lwL a o5 o6 o7) [] (mm σ) lwQ := by
  show am_R _ _ _ _ 1122 [some (.ref 3000), some (.ref 0), some (.ref 120), some (.ref 132), some (.int (nI a)), o5, o6, o7] [] _ _
  obtain ⟨kk, hk⟩ := op_nextUnlucky T M (σ.1 3000 (a + 1))
  refine R_aload_n rfl rfl ?_
  refine R_aload_n rfl rfl ?_
  refine R_iload rfl rfl ?_
  refine R_iconst (v := 1) rfl rfl ?_
  refine R_iaddN (x := a) (y := 1) rfl ?_
  refine R_sld (L := L) (j := a + 1) rfl hs hL rfl (by omega) ?_
  refine R_aload_n rfl rfl ?_
  refine R_cH (k := k) (as := [.ref 0, .int (σ.1 3000 (a + 1)), .ref 132]) rfl rfl iv_L_nextUnlucky hk (by decide) rfl rfl rfl rfl (Nat.le_of_ble_eq_true rfl) (fun σ1 q => ?_)
  obtain ⟨q1, b, d2, T2, hout, hM⟩ := q
  rw [← lw_iS q1] at hM
  have hs1 : σ1.1 3001 0 = nI L := (lw_iN q1).trans hs
  refine R_istore rfl (by decide) ?_
  refine R_aload_n rfl rfl ?_
  refine R_aload_n rfl rfl ?_
  refine R_iload rfl rfl ?_
  refine R_iconst (v := 1) rfl rfl ?_
  refine R_iaddN (x := a) (y := 1) rfl ?_
  refine R_sld (L := L) (j := a + 1) rfl hs1 hL rfl (by omega) ?_
  refine R_cV (as := [.int (σ1.1 3000 (a + 1))]) rfl rfl iv_M_nextUnlucky hM (by decide) rfl rfl tk_120 (by decide) rfl rfl (Nat.le_of_ble_eq_true rfl) (fun σ2 r => ?_)
  obtain ⟨r1, M3, rk⟩ := r
  refine R_istore rfl (by decide) ?_
  refine R_aload_n rfl rfl ?_
  refine R_cV (as := []) rfl rfl iv_M_thrown sp_thrown (by decide) rfl rfl tk_120 (by decide) rfl rfl (Nat.le_of_ble_eq_true rfl) (fun _ e => ?_)
  obtain rfl := e.symm
  refine R_iload rfl rfl ?_
  refine R_icmp_eq rfl rfl (fun _ => ?_) (fun hz => absurd rk hz)
  refine R_iload rfl rfl ?_
  refine R_if_ne rfl rfl (fun hk0 => ?_) (fun hk0 => ?_)
  · refine R_goto rfl rfl ?_
    exact nx σ2 d2 _ _ _ (T2.mo r1) M3 ((mo_iN r1).trans hs1)
  refine R_aload_n rfl rfl ?_
  refine R_iconst (v := 0) rfl rfl ?_
  refine R_xL (j := 0) rfl tk_132 rfl (by decide) (by decide) ?_
  have hv : σ2.2.1 132 0 = _ := (mo_out r1).trans (hout hk0)
  refine R_iload rfl rfl ?_
  refine R_i2l rfl ?_
  refine R_l_eq rfl rfl rfl (fun _ => ?_) (fun hz => absurd hv hz)
  refine R_goto rfl rfl ?_
  exact nx σ2 d2 _ _ _ (T2.mo r1) M3 ((mo_iN r1).trans hs1)
theorem lc_17 {L a k : Nat} {σ : am_G} {d : Dk} {o5 o6 o7 : Option Value} (hL : L ≤ 3072) (ha : a + 6 ≤ L) (T : TC σ d) (M : TM σ d) (hs : σ.1 3001 0 = nI L) (nx : lwN L a k) : am_R am_TX 20 (1 + k) c_law 1178 (lwL a o5 o6 o7) [] (mm σ) lwQ := by
  show am_R _ _ _ _ 1178 [some (.ref 3000), some (.ref 0), some (.ref 120), some (.ref 132), some (.int (nI a)), o5, o6, o7] [] _ _
  obtain ⟨kk, hk⟩ := op_relation T M (σ.1 3000 (a + 1)) (σ.1 3000 (a + 2))
  refine R_aload_n rfl rfl ?_
  refine R_aload_n rfl rfl ?_
  refine R_iload rfl rfl ?_
  refine R_iconst (v := 1) rfl rfl ?_
  refine R_iaddN (x := a) (y := 1) rfl ?_
  refine R_sld (L := L) (j := a + 1) rfl hs hL rfl (by omega) ?_
  refine R_aload_n rfl rfl ?_
  refine R_iload rfl rfl ?_
  refine R_iconst (v := 2) rfl rfl ?_
  refine R_iaddN (x := a) (y := 2) rfl ?_
  refine R_sld (L := L) (j := a + 2) rfl hs hL rfl (by omega) ?_
  refine R_aload_n rfl rfl ?_
  refine R_cH (k := k) (as := [.ref 0, .int (σ.1 3000 (a + 1)), .int (σ.1 3000 (a + 2)), .ref 132]) rfl rfl iv_L_relation hk (by decide) rfl rfl rfl rfl (Nat.le_of_ble_eq_true rfl) (fun σ1 q => ?_)
  obtain ⟨q1, b, d2, T2, hout, hM⟩ := q
  rw [← lw_iS q1] at hM
  have hs1 : σ1.1 3001 0 = nI L := (lw_iN q1).trans hs
  refine R_istore rfl (by decide) ?_
  refine R_aload_n rfl rfl ?_
  refine R_aload_n rfl rfl ?_
  refine R_iload rfl rfl ?_
  refine R_iconst (v := 1) rfl rfl ?_
  refine R_iaddN (x := a) (y := 1) rfl ?_
  refine R_sld (L := L) (j := a + 1) rfl hs1 hL rfl (by omega) ?_
  refine R_aload_n rfl rfl ?_
  refine R_iload rfl rfl ?_
  refine R_iconst (v := 2) rfl rfl ?_
  refine R_iaddN (x := a) (y := 2) rfl ?_
  refine R_sld (L := L) (j := a + 2) rfl hs1 hL rfl (by omega) ?_
  refine R_cV (as := [.int (σ1.1 3000 (a + 1)), .int (σ1.1 3000 (a + 2))]) rfl rfl iv_M_relation hM (by decide) rfl rfl tk_120 (by decide) rfl rfl (Nat.le_of_ble_eq_true rfl) (fun σ2 r => ?_)
  obtain ⟨r1, M3, rk⟩ := r
  refine R_lstore rfl (by decide) ?_
  refine R_aload_n rfl rfl ?_
  refine R_cV (as := []) rfl rfl iv_M_thrown sp_thrown (by decide) rfl rfl tk_120 (by decide) rfl rfl (Nat.le_of_ble_eq_true rfl) (fun _ e => ?_)
  obtain rfl := e.symm
  refine R_iload rfl rfl ?_
  refine R_icmp_eq rfl rfl (fun _ => ?_) (fun hz => absurd rk hz)
  refine R_iload rfl rfl ?_
  refine R_if_ne rfl rfl (fun hk0 => ?_) (fun hk0 => ?_)
  · refine R_goto rfl rfl ?_
    exact nx σ2 d2 _ _ _ (T2.mo r1) M3 ((mo_iN r1).trans hs1)
  refine R_aload_n rfl rfl ?_
  refine R_iconst (v := 0) rfl rfl ?_
  refine R_xL (j := 0) rfl tk_132 rfl (by decide) (by decide) ?_
  have hv : σ2.2.1 132 0 = _ := (mo_out r1).trans (hout hk0)
  refine R_lload rfl rfl ?_
  refine R_l_eq rfl rfl rfl (fun _ => ?_) (fun hz => absurd hv hz)
  refine R_goto rfl rfl ?_
  exact nx σ2 d2 _ _ _ (T2.mo r1) M3 ((mo_iN r1).trans hs1)
theorem lc_18 {L a k : Nat} {σ : am_G} {d : Dk} {o5 o6 o7 : Option Value} (hL : L ≤ 3072) (ha : a + 6 ≤ L) (T : TC σ d) (M : TM σ d) (hs : σ.1 3001 0 = nI L) (nx : lwN L a k) : am_R am_TX 20 (1 + k) c_law 1245 (lwL a o5 o6 o7) [] (mm σ) lwQ := by
  show am_R _ _ _ _ 1245 [some (.ref 3000), some (.ref 0), some (.ref 120), some (.ref 132), some (.int (nI a)), o5, o6, o7] [] _ _
  obtain ⟨kk, hk⟩ := op_columnRelation T M (σ.1 3000 (a + 1)) (σ.1 3000 (a + 2))
  refine R_aload_n rfl rfl ?_
  refine R_aload_n rfl rfl ?_
  refine R_iload rfl rfl ?_
  refine R_iconst (v := 1) rfl rfl ?_
  refine R_iaddN (x := a) (y := 1) rfl ?_
  refine R_sld (L := L) (j := a + 1) rfl hs hL rfl (by omega) ?_
  refine R_aload_n rfl rfl ?_
  refine R_iload rfl rfl ?_
  refine R_iconst (v := 2) rfl rfl ?_
  refine R_iaddN (x := a) (y := 2) rfl ?_
  refine R_sld (L := L) (j := a + 2) rfl hs hL rfl (by omega) ?_
  refine R_aload_n rfl rfl ?_
  refine R_cH (k := k) (as := [.ref 0, .int (σ.1 3000 (a + 1)), .int (σ.1 3000 (a + 2)), .ref 132]) rfl rfl iv_L_columnRelation hk (by decide) rfl rfl rfl rfl (Nat.le_of_ble_eq_true rfl) (fun σ1 q => ?_)
  obtain ⟨q1, b, d2, T2, hout, hM⟩ := q
  rw [← lw_iS q1] at hM
  have hs1 : σ1.1 3001 0 = nI L := (lw_iN q1).trans hs
  refine R_istore rfl (by decide) ?_
  refine R_aload_n rfl rfl ?_
  refine R_aload_n rfl rfl ?_
  refine R_iload rfl rfl ?_
  refine R_iconst (v := 1) rfl rfl ?_
  refine R_iaddN (x := a) (y := 1) rfl ?_
  refine R_sld (L := L) (j := a + 1) rfl hs1 hL rfl (by omega) ?_
  refine R_aload_n rfl rfl ?_
  refine R_iload rfl rfl ?_
  refine R_iconst (v := 2) rfl rfl ?_
  refine R_iaddN (x := a) (y := 2) rfl ?_
  refine R_sld (L := L) (j := a + 2) rfl hs1 hL rfl (by omega) ?_
  refine R_cV (as := [.int (σ1.1 3000 (a + 1)), .int (σ1.1 3000 (a + 2))]) rfl rfl iv_M_columnRelation hM (by decide) rfl rfl tk_120 (by decide) rfl rfl (Nat.le_of_ble_eq_true rfl) (fun σ2 r => ?_)
  obtain ⟨r1, M3, rk⟩ := r
  refine R_lstore rfl (by decide) ?_
  refine R_aload_n rfl rfl ?_
  refine R_cV (as := []) rfl rfl iv_M_thrown sp_thrown (by decide) rfl rfl tk_120 (by decide) rfl rfl (Nat.le_of_ble_eq_true rfl) (fun _ e => ?_)
  obtain rfl := e.symm
  refine R_iload rfl rfl ?_
  refine R_icmp_eq rfl rfl (fun _ => ?_) (fun hz => absurd rk hz)
  refine R_iload rfl rfl ?_
  refine R_if_ne rfl rfl (fun hk0 => ?_) (fun hk0 => ?_)
  · refine R_goto rfl rfl ?_
    exact nx σ2 d2 _ _ _ (T2.mo r1) M3 ((mo_iN r1).trans hs1)
  refine R_aload_n rfl rfl ?_
  refine R_iconst (v := 0) rfl rfl ?_
  refine R_xL (j := 0) rfl tk_132 rfl (by decide) (by decide) ?_
  have hv : σ2.2.1 132 0 = _ := (mo_out r1).trans (hout hk0)
  refine R_lload rfl rfl ?_
  refine R_l_eq rfl rfl rfl (fun _ => ?_) (fun hz => absurd hv hz)
  refine R_goto rfl rfl ?_
  exact nx σ2 d2 _ _ _ (T2.mo r1) M3 ((mo_iN r1).trans hs1)
theorem lc_19 {L a k : Nat} {σ : am_G} {d : Dk} {o5 o6 o7 : Option Value} (hL : L ≤ 3072) (ha : a + 6 ≤ L) (T : TC σ d) (M : TM σ d) (hs : σ.1 3001 0 = nI L) (nx : lwN L a k) : am_R am_TX 20 (1 + k) c_law 1312 (lwL a o5 o6 o7) [] (mm σ) lwQ := by
  show am_R _ _ _ _ 1312 [some (.ref 3000), some (.ref 0), some (.ref 120), some (.ref 132), some (.int (nI a)), o5, o6, o7] [] _ _
  obtain ⟨kk, hk⟩ := op_relationMod T M (σ.1 3000 (a + 1)) (σ.1 3000 (a + 2)) (σ.1 3000 (a + 3))
  refine R_aload_n rfl rfl ?_
  refine R_aload_n rfl rfl ?_
  refine R_iload rfl rfl ?_
  refine R_iconst (v := 1) rfl rfl ?_
  refine R_iaddN (x := a) (y := 1) rfl ?_
  refine R_sld (L := L) (j := a + 1) rfl hs hL rfl (by omega) ?_
  refine R_aload_n rfl rfl ?_
  refine R_iload rfl rfl ?_
  refine R_iconst (v := 2) rfl rfl ?_
  refine R_iaddN (x := a) (y := 2) rfl ?_
  refine R_sld (L := L) (j := a + 2) rfl hs hL rfl (by omega) ?_
  refine R_aload_n rfl rfl ?_
  refine R_iload rfl rfl ?_
  refine R_iconst (v := 3) rfl rfl ?_
  refine R_iaddN (x := a) (y := 3) rfl ?_
  refine R_sld (L := L) (j := a + 3) rfl hs hL rfl (by omega) ?_
  refine R_aload_n rfl rfl ?_
  refine R_cH (k := k) (as := [.ref 0, .int (σ.1 3000 (a + 1)), .int (σ.1 3000 (a + 2)), .int (σ.1 3000 (a + 3)), .ref 132]) rfl rfl iv_L_relationMod hk (by decide) rfl rfl rfl rfl (Nat.le_of_ble_eq_true rfl) (fun σ1 q => ?_)
  obtain ⟨q1, b, d2, T2, hout, hM⟩ := q
  rw [← lw_iS q1] at hM
  have hs1 : σ1.1 3001 0 = nI L := (lw_iN q1).trans hs
  refine R_istore rfl (by decide) ?_
  refine R_aload_n rfl rfl ?_
  refine R_aload_n rfl rfl ?_
  refine R_iload rfl rfl ?_
  refine R_iconst (v := 1) rfl rfl ?_
  refine R_iaddN (x := a) (y := 1) rfl ?_
  refine R_sld (L := L) (j := a + 1) rfl hs1 hL rfl (by omega) ?_
  refine R_aload_n rfl rfl ?_
  refine R_iload rfl rfl ?_
  refine R_iconst (v := 2) rfl rfl ?_
  refine R_iaddN (x := a) (y := 2) rfl ?_
  refine R_sld (L := L) (j := a + 2) rfl hs1 hL rfl (by omega) ?_
  refine R_aload_n rfl rfl ?_
  refine R_iload rfl rfl ?_
  refine R_iconst (v := 3) rfl rfl ?_
  refine R_iaddN (x := a) (y := 3) rfl ?_
  refine R_sld (L := L) (j := a + 3) rfl hs1 hL rfl (by omega) ?_
  refine R_cV (as := [.int (σ1.1 3000 (a + 1)), .int (σ1.1 3000 (a + 2)), .int (σ1.1 3000 (a + 3))]) rfl rfl iv_M_relationMod hM (by decide) rfl rfl tk_120 (by decide) rfl rfl (Nat.le_of_ble_eq_true rfl) (fun σ2 r => ?_)
  obtain ⟨r1, M3, rk⟩ := r
  refine R_istore rfl (by decide) ?_
  refine R_aload_n rfl rfl ?_
  refine R_cV (as := []) rfl rfl iv_M_thrown sp_thrown (by decide) rfl rfl tk_120 (by decide) rfl rfl (Nat.le_of_ble_eq_true rfl) (fun _ e => ?_)
  obtain rfl := e.symm
  refine R_iload rfl rfl ?_
  refine R_icmp_eq rfl rfl (fun _ => ?_) (fun hz => absurd rk hz)
  refine R_iload rfl rfl ?_
  refine R_if_ne rfl rfl (fun hk0 => ?_) (fun hk0 => ?_)
  · refine R_goto rfl rfl ?_
    exact nx σ2 d2 _ _ _ (T2.mo r1) M3 ((mo_iN r1).trans hs1)
  refine R_aload_n rfl rfl ?_
  refine R_iconst (v := 0) rfl rfl ?_
  refine R_xL (j := 0) rfl tk_132 rfl (by decide) (by decide) ?_
  have hv : σ2.2.1 132 0 = _ := (mo_out r1).trans (hout hk0)
  refine R_iload rfl rfl ?_
  refine R_i2l rfl ?_
  refine R_l_eq rfl rfl rfl (fun _ => ?_) (fun hz => absurd hv hz)
  refine R_goto rfl rfl ?_
  exact nx σ2 d2 _ _ _ (T2.mo r1) M3 ((mo_iN r1).trans hs1)
theorem lc_20 {L a k : Nat} {σ : am_G} {d : Dk} {o5 o6 o7 : Option Value} (hL : L ≤ 3072) (ha : a + 6 ≤ L) (T : TC σ d) (M : TM σ d) (hs : σ.1 3001 0 = nI L) (nx : lwN L a k) : am_R am_TX 20 (1 + k) c_law 1392 (lwL a o5 o6 o7) [] (mm σ) lwQ := by
  show am_R _ _ _ _ 1392 [some (.ref 3000), some (.ref 0), some (.ref 120), some (.ref 132), some (.int (nI a)), o5, o6, o7] [] _ _
  obtain ⟨kk, hk⟩ := op_weight T M (σ.1 3000 (a + 1))
  refine R_aload_n rfl rfl ?_
  refine R_aload_n rfl rfl ?_
  refine R_iload rfl rfl ?_
  refine R_iconst (v := 1) rfl rfl ?_
  refine R_iaddN (x := a) (y := 1) rfl ?_
  refine R_sld (L := L) (j := a + 1) rfl hs hL rfl (by omega) ?_
  refine R_aload_n rfl rfl ?_
  refine R_cH (k := k) (as := [.ref 0, .int (σ.1 3000 (a + 1)), .ref 132]) rfl rfl iv_L_weight hk (by decide) rfl rfl rfl rfl (Nat.le_of_ble_eq_true rfl) (fun σ1 q => ?_)
  obtain ⟨q1, b, d2, T2, hout, hM⟩ := q
  rw [← lw_iS q1] at hM
  have hs1 : σ1.1 3001 0 = nI L := (lw_iN q1).trans hs
  refine R_istore rfl (by decide) ?_
  refine R_aload_n rfl rfl ?_
  refine R_aload_n rfl rfl ?_
  refine R_iload rfl rfl ?_
  refine R_iconst (v := 1) rfl rfl ?_
  refine R_iaddN (x := a) (y := 1) rfl ?_
  refine R_sld (L := L) (j := a + 1) rfl hs1 hL rfl (by omega) ?_
  refine R_cV (as := [.int (σ1.1 3000 (a + 1))]) rfl rfl iv_M_weight hM (by decide) rfl rfl tk_120 (by decide) rfl rfl (Nat.le_of_ble_eq_true rfl) (fun σ2 r => ?_)
  obtain ⟨r1, M3, rk⟩ := r
  refine R_lstore rfl (by decide) ?_
  refine R_aload_n rfl rfl ?_
  refine R_cV (as := []) rfl rfl iv_M_thrown sp_thrown (by decide) rfl rfl tk_120 (by decide) rfl rfl (Nat.le_of_ble_eq_true rfl) (fun _ e => ?_)
  obtain rfl := e.symm
  refine R_iload rfl rfl ?_
  refine R_icmp_eq rfl rfl (fun _ => ?_) (fun hz => absurd rk hz)
  refine R_iload rfl rfl ?_
  refine R_if_ne rfl rfl (fun hk0 => ?_) (fun hk0 => ?_)
  · refine R_goto rfl rfl ?_
    exact nx σ2 d2 _ _ _ (T2.mo r1) M3 ((mo_iN r1).trans hs1)
  refine R_aload_n rfl rfl ?_
  refine R_iconst (v := 0) rfl rfl ?_
  refine R_xL (j := 0) rfl tk_132 rfl (by decide) (by decide) ?_
  have hv : σ2.2.1 132 0 = _ := (mo_out r1).trans (hout hk0)
  refine R_lload rfl rfl ?_
  refine R_l_eq rfl rfl rfl (fun _ => ?_) (fun hz => absurd hv hz)
  refine R_goto rfl rfl ?_
  exact nx σ2 d2 _ _ _ (T2.mo r1) M3 ((mo_iN r1).trans hs1)
theorem lc_21 {L a k : Nat} {σ : am_G} {d : Dk} {o5 o6 o7 : Option Value} (hL : L ≤ 3072) (ha : a + 6 ≤ L) (T : TC σ d) (M : TM σ d) (hs : σ.1 3001 0 = nI L) (nx : lwN L a k) : am_R am_TX 20 (1 + k) c_law 1447 (lwL a o5 o6 o7) [] (mm σ) lwQ := by
  show am_R _ _ _ _ 1447 [some (.ref 3000), some (.ref 0), some (.ref 120), some (.ref 132), some (.int (nI a)), o5, o6, o7] [] _ _
  obtain ⟨kk, hk⟩ := op_nullity T M (σ.1 3000 (a + 1))
  refine R_aload_n rfl rfl ?_
  refine R_aload_n rfl rfl ?_
  refine R_iload rfl rfl ?_
  refine R_iconst (v := 1) rfl rfl ?_
  refine R_iaddN (x := a) (y := 1) rfl ?_
  refine R_sld (L := L) (j := a + 1) rfl hs hL rfl (by omega) ?_
  refine R_aload_n rfl rfl ?_
  refine R_cH (k := k) (as := [.ref 0, .int (σ.1 3000 (a + 1)), .ref 132]) rfl rfl iv_L_nullity hk (by decide) rfl rfl rfl rfl (Nat.le_of_ble_eq_true rfl) (fun σ1 q => ?_)
  obtain ⟨q1, b, d2, T2, hout, hM⟩ := q
  rw [← lw_iS q1] at hM
  have hs1 : σ1.1 3001 0 = nI L := (lw_iN q1).trans hs
  refine R_istore rfl (by decide) ?_
  refine R_aload_n rfl rfl ?_
  refine R_aload_n rfl rfl ?_
  refine R_iload rfl rfl ?_
  refine R_iconst (v := 1) rfl rfl ?_
  refine R_iaddN (x := a) (y := 1) rfl ?_
  refine R_sld (L := L) (j := a + 1) rfl hs1 hL rfl (by omega) ?_
  refine R_cV (as := [.int (σ1.1 3000 (a + 1))]) rfl rfl iv_M_nullity hM (by decide) rfl rfl tk_120 (by decide) rfl rfl (Nat.le_of_ble_eq_true rfl) (fun σ2 r => ?_)
  obtain ⟨r1, M3, rk⟩ := r
  refine R_istore rfl (by decide) ?_
  refine R_aload_n rfl rfl ?_
  refine R_cV (as := []) rfl rfl iv_M_thrown sp_thrown (by decide) rfl rfl tk_120 (by decide) rfl rfl (Nat.le_of_ble_eq_true rfl) (fun _ e => ?_)
  obtain rfl := e.symm
  refine R_iload rfl rfl ?_
  refine R_icmp_eq rfl rfl (fun _ => ?_) (fun hz => absurd rk hz)
  refine R_iload rfl rfl ?_
  refine R_if_ne rfl rfl (fun hk0 => ?_) (fun hk0 => ?_)
  · refine R_goto rfl rfl ?_
    exact nx σ2 d2 _ _ _ (T2.mo r1) M3 ((mo_iN r1).trans hs1)
  refine R_aload_n rfl rfl ?_
  refine R_iconst (v := 0) rfl rfl ?_
  refine R_xL (j := 0) rfl tk_132 rfl (by decide) (by decide) ?_
  have hv : σ2.2.1 132 0 = _ := (mo_out r1).trans (hout hk0)
  refine R_iload rfl rfl ?_
  refine R_i2l rfl ?_
  refine R_l_eq rfl rfl rfl (fun _ => ?_) (fun hz => absurd hv hz)
  refine R_goto rfl rfl ?_
  exact nx σ2 d2 _ _ _ (T2.mo r1) M3 ((mo_iN r1).trans hs1)
theorem lc_22 {L a k : Nat} {σ : am_G} {d : Dk} {o5 o6 o7 : Option Value} (hL : L ≤ 3072) (ha : a + 6 ≤ L) (T : TC σ d) (M : TM σ d) (hs : σ.1 3001 0 = nI L) (nx : lwN L a k) : am_R am_TX 20 (1 + k) c_law 1503 (lwL a o5 o6 o7) [] (mm σ) lwQ := by
  show am_R _ _ _ _ 1503 [some (.ref 3000), some (.ref 0), some (.ref 120), some (.ref 132), some (.int (nI a)), o5, o6, o7] [] _ _
  obtain ⟨kk, hk⟩ := op_isNeeded T M (σ.1 3000 (a + 1)) (σ.1 3000 (a + 2))
  refine R_aload_n rfl rfl ?_
  refine R_aload_n rfl rfl ?_
  refine R_iload rfl rfl ?_
  refine R_iconst (v := 1) rfl rfl ?_
  refine R_iaddN (x := a) (y := 1) rfl ?_
  refine R_sld (L := L) (j := a + 1) rfl hs hL rfl (by omega) ?_
  refine R_aload_n rfl rfl ?_
  refine R_iload rfl rfl ?_
  refine R_iconst (v := 2) rfl rfl ?_
  refine R_iaddN (x := a) (y := 2) rfl ?_
  refine R_sld (L := L) (j := a + 2) rfl hs hL rfl (by omega) ?_
  refine R_aload_n rfl rfl ?_
  refine R_cH (k := k) (as := [.ref 0, .int (σ.1 3000 (a + 1)), .int (σ.1 3000 (a + 2)), .ref 132]) rfl rfl iv_L_isNeeded hk (by decide) rfl rfl rfl rfl (Nat.le_of_ble_eq_true rfl) (fun σ1 q => ?_)
  obtain ⟨q1, b, d2, T2, hout, hM⟩ := q
  rw [← lw_iS q1] at hM
  have hs1 : σ1.1 3001 0 = nI L := (lw_iN q1).trans hs
  refine R_istore rfl (by decide) ?_
  refine R_aload_n rfl rfl ?_
  refine R_aload_n rfl rfl ?_
  refine R_iload rfl rfl ?_
  refine R_iconst (v := 1) rfl rfl ?_
  refine R_iaddN (x := a) (y := 1) rfl ?_
  refine R_sld (L := L) (j := a + 1) rfl hs1 hL rfl (by omega) ?_
  refine R_aload_n rfl rfl ?_
  refine R_iload rfl rfl ?_
  refine R_iconst (v := 2) rfl rfl ?_
  refine R_iaddN (x := a) (y := 2) rfl ?_
  refine R_sld (L := L) (j := a + 2) rfl hs1 hL rfl (by omega) ?_
  refine R_cV (as := [.int (σ1.1 3000 (a + 1)), .int (σ1.1 3000 (a + 2))]) rfl rfl iv_M_isNeeded hM (by decide) rfl rfl tk_120 (by decide) rfl rfl (Nat.le_of_ble_eq_true rfl) (fun σ2 r => ?_)
  obtain ⟨r1, M3, rk⟩ := r
  refine R_istore rfl (by decide) ?_
  refine R_aload_n rfl rfl ?_
  refine R_cV (as := []) rfl rfl iv_M_thrown sp_thrown (by decide) rfl rfl tk_120 (by decide) rfl rfl (Nat.le_of_ble_eq_true rfl) (fun _ e => ?_)
  obtain rfl := e.symm
  refine R_iload rfl rfl ?_
  refine R_icmp_eq rfl rfl (fun _ => ?_) (fun hz => absurd rk hz)
  refine R_iload rfl rfl ?_
  refine R_if_ne rfl rfl (fun hk0 => ?_) (fun hk0 => ?_)
  · refine R_goto rfl rfl ?_
    exact nx σ2 d2 _ _ _ (T2.mo r1) M3 ((mo_iN r1).trans hs1)
  refine R_aload_n rfl rfl ?_
  refine R_iconst (v := 0) rfl rfl ?_
  refine R_xL (j := 0) rfl tk_132 rfl (by decide) (by decide) ?_
  have hv : σ2.2.1 132 0 = _ := (mo_out r1).trans (hout hk0)
  refine R_iload rfl rfl ?_
  refine R_if_eq rfl rfl (fun hb => ?_) (fun hb => ?_)
  · refine R_lconst (v := 0) rfl rfl ?_
    refine R_l_eq rfl rfl rfl (fun _ => ?_) (fun hz => absurd (hv.trans (if_pos hb)) hz)
    refine R_goto rfl rfl ?_
    exact nx σ2 d2 _ _ _ (T2.mo r1) M3 ((mo_iN r1).trans hs1)
  · refine R_lconst (v := 1) rfl rfl ?_
    refine R_goto rfl rfl ?_
    refine R_l_eq rfl rfl rfl (fun _ => ?_) (fun hz => absurd (hv.trans (if_neg hb)) hz)
    refine R_goto rfl rfl ?_
    exact nx σ2 d2 _ _ _ (T2.mo r1) M3 ((mo_iN r1).trans hs1)
theorem lc_23 {L a k : Nat} {σ : am_G} {d : Dk} {o5 o6 o7 : Option Value} (hL : L ≤ 3072) (ha : a + 6 ≤ L) (T : TC σ d) (M : TM σ d) (hs : σ.1 3001 0 = nI L) (nx : lwN L a k) : am_R am_TX 20 (1 + k) c_law 1578 (lwL a o5 o6 o7) [] (mm σ) lwQ := by
  show am_R _ _ _ _ 1578 [some (.ref 3000), some (.ref 0), some (.ref 120), some (.ref 132), some (.int (nI a)), o5, o6, o7] [] _ _
  obtain ⟨kk, hk⟩ := op_areIndependent T M (σ.1 3000 (a + 1)) (σ.1 3000 (a + 2))
  refine R_aload_n rfl rfl ?_
  refine R_aload_n rfl rfl ?_
  refine R_iload rfl rfl ?_
  refine R_iconst (v := 1) rfl rfl ?_
  refine R_iaddN (x := a) (y := 1) rfl ?_
  refine R_sld (L := L) (j := a + 1) rfl hs hL rfl (by omega) ?_
  refine R_aload_n rfl rfl ?_
  refine R_iload rfl rfl ?_
  refine R_iconst (v := 2) rfl rfl ?_
  refine R_iaddN (x := a) (y := 2) rfl ?_
  refine R_sld (L := L) (j := a + 2) rfl hs hL rfl (by omega) ?_
  refine R_aload_n rfl rfl ?_
  refine R_cH (k := k) (as := [.ref 0, .int (σ.1 3000 (a + 1)), .int (σ.1 3000 (a + 2)), .ref 132]) rfl rfl iv_L_areIndependent hk (by decide) rfl rfl rfl rfl (Nat.le_of_ble_eq_true rfl) (fun σ1 q => ?_)
  obtain ⟨q1, b, d2, T2, hout, hM⟩ := q
  rw [← lw_iS q1] at hM
  have hs1 : σ1.1 3001 0 = nI L := (lw_iN q1).trans hs
  refine R_istore rfl (by decide) ?_
  refine R_aload_n rfl rfl ?_
  refine R_aload_n rfl rfl ?_
  refine R_iload rfl rfl ?_
  refine R_iconst (v := 1) rfl rfl ?_
  refine R_iaddN (x := a) (y := 1) rfl ?_
  refine R_sld (L := L) (j := a + 1) rfl hs1 hL rfl (by omega) ?_
  refine R_aload_n rfl rfl ?_
  refine R_iload rfl rfl ?_
  refine R_iconst (v := 2) rfl rfl ?_
  refine R_iaddN (x := a) (y := 2) rfl ?_
  refine R_sld (L := L) (j := a + 2) rfl hs1 hL rfl (by omega) ?_
  refine R_cV (as := [.int (σ1.1 3000 (a + 1)), .int (σ1.1 3000 (a + 2))]) rfl rfl iv_M_areIndependent hM (by decide) rfl rfl tk_120 (by decide) rfl rfl (Nat.le_of_ble_eq_true rfl) (fun σ2 r => ?_)
  obtain ⟨r1, M3, rk⟩ := r
  refine R_istore rfl (by decide) ?_
  refine R_aload_n rfl rfl ?_
  refine R_cV (as := []) rfl rfl iv_M_thrown sp_thrown (by decide) rfl rfl tk_120 (by decide) rfl rfl (Nat.le_of_ble_eq_true rfl) (fun _ e => ?_)
  obtain rfl := e.symm
  refine R_iload rfl rfl ?_
  refine R_icmp_eq rfl rfl (fun _ => ?_) (fun hz => absurd rk hz)
  refine R_iload rfl rfl ?_
  refine R_if_ne rfl rfl (fun hk0 => ?_) (fun hk0 => ?_)
  · refine R_goto rfl rfl ?_
    exact nx σ2 d2 _ _ _ (T2.mo r1) M3 ((mo_iN r1).trans hs1)
  refine R_aload_n rfl rfl ?_
  refine R_iconst (v := 0) rfl rfl ?_
  refine R_xL (j := 0) rfl tk_132 rfl (by decide) (by decide) ?_
  have hv : σ2.2.1 132 0 = _ := (mo_out r1).trans (hout hk0)
  refine R_iload rfl rfl ?_
  refine R_if_eq rfl rfl (fun hb => ?_) (fun hb => ?_)
  · refine R_lconst (v := 0) rfl rfl ?_
    refine R_l_eq rfl rfl rfl (fun _ => ?_) (fun hz => absurd (hv.trans (if_pos hb)) hz)
    refine R_goto rfl rfl ?_
    exact nx σ2 d2 _ _ _ (T2.mo r1) M3 ((mo_iN r1).trans hs1)
  · refine R_lconst (v := 1) rfl rfl ?_
    refine R_goto rfl rfl ?_
    refine R_l_eq rfl rfl rfl (fun _ => ?_) (fun hz => absurd (hv.trans (if_neg hb)) hz)
    refine R_goto rfl rfl ?_
    exact nx σ2 d2 _ _ _ (T2.mo r1) M3 ((mo_iN r1).trans hs1)
theorem lc_24 {L a k : Nat} {σ : am_G} {d : Dk} {o5 o6 o7 : Option Value} (hL : L ≤ 3072) (ha : a + 6 ≤ L) (T : TC σ d) (M : TM σ d) (hs : σ.1 3001 0 = nI L) (nx : lwN L a k) : am_R am_TX 20 (1 + k) c_law 1653 (lwL a o5 o6 o7) [] (mm σ) lwQ := by
  show am_R _ _ _ _ 1653 [some (.ref 3000), some (.ref 0), some (.ref 120), some (.ref 132), some (.int (nI a)), o5, o6, o7] [] _ _
  obtain ⟨kk, hk⟩ := op_bases T M (σ.1 3000 (a + 1))
  refine R_aload_n rfl rfl ?_
  refine R_aload_n rfl rfl ?_
  refine R_iload rfl rfl ?_
  refine R_iconst (v := 1) rfl rfl ?_
  refine R_iaddN (x := a) (y := 1) rfl ?_
  refine R_sld (L := L) (j := a + 1) rfl hs hL rfl (by omega) ?_
  refine R_aload_n rfl rfl ?_
  refine R_cH (k := k) (as := [.ref 0, .int (σ.1 3000 (a + 1)), .ref 132]) rfl rfl iv_L_bases hk (by decide) rfl rfl rfl rfl (Nat.le_of_ble_eq_true rfl) (fun σ1 q => ?_)
  obtain ⟨q1, b, d2, T2, hout, hM⟩ := q
  rw [← lw_iS q1] at hM
  have hs1 : σ1.1 3001 0 = nI L := (lw_iN q1).trans hs
  refine R_istore rfl (by decide) ?_
  refine R_aload_n rfl rfl ?_
  refine R_aload_n rfl rfl ?_
  refine R_iload rfl rfl ?_
  refine R_iconst (v := 1) rfl rfl ?_
  refine R_iaddN (x := a) (y := 1) rfl ?_
  refine R_sld (L := L) (j := a + 1) rfl hs1 hL rfl (by omega) ?_
  refine R_cV (as := [.int (σ1.1 3000 (a + 1))]) rfl rfl iv_M_bases hM (by decide) rfl rfl tk_120 (by decide) rfl rfl (Nat.le_of_ble_eq_true rfl) (fun σ2 r => ?_)
  obtain ⟨r1, M3, rk⟩ := r
  refine R_istore rfl (by decide) ?_
  refine R_aload_n rfl rfl ?_
  refine R_cV (as := []) rfl rfl iv_M_thrown sp_thrown (by decide) rfl rfl tk_120 (by decide) rfl rfl (Nat.le_of_ble_eq_true rfl) (fun _ e => ?_)
  obtain rfl := e.symm
  refine R_iload rfl rfl ?_
  refine R_icmp_eq rfl rfl (fun _ => ?_) (fun hz => absurd rk hz)
  refine R_iload rfl rfl ?_
  refine R_if_ne rfl rfl (fun hk0 => ?_) (fun hk0 => ?_)
  · refine R_goto rfl rfl ?_
    exact nx σ2 d2 _ _ _ (T2.mo r1) M3 ((mo_iN r1).trans hs1)
  refine R_aload_n rfl rfl ?_
  refine R_iconst (v := 0) rfl rfl ?_
  refine R_xL (j := 0) rfl tk_132 rfl (by decide) (by decide) ?_
  have hv : σ2.2.1 132 0 = _ := (mo_out r1).trans (hout hk0)
  refine R_iload rfl rfl ?_
  refine R_i2l rfl ?_
  refine R_l_eq rfl rfl rfl (fun _ => ?_) (fun hz => absurd hv hz)
  refine R_goto rfl rfl ?_
  exact nx σ2 d2 _ _ _ (T2.mo r1) M3 ((mo_iN r1).trans hs1)
theorem lc_25 {L a k : Nat} {σ : am_G} {d : Dk} {o5 o6 o7 : Option Value} (hL : L ≤ 3072) (ha : a + 6 ≤ L) (T : TC σ d) (M : TM σ d) (hs : σ.1 3001 0 = nI L) (nx : lwN L a k) : am_R am_TX 20 (1 + k) c_law 1709 (lwL a o5 o6 o7) [] (mm σ) lwQ := by
  show am_R _ _ _ _ 1709 [some (.ref 3000), some (.ref 0), some (.ref 120), some (.ref 132), some (.int (nI a)), o5, o6, o7] [] _ _
  obtain ⟨kk, hk⟩ := op_extensions T M (σ.1 3000 (a + 1)) (σ.1 3000 (a + 2))
  refine R_aload_n rfl rfl ?_
  refine R_aload_n rfl rfl ?_
  refine R_iload rfl rfl ?_
  refine R_iconst (v := 1) rfl rfl ?_
  refine R_iaddN (x := a) (y := 1) rfl ?_
  refine R_sld (L := L) (j := a + 1) rfl hs hL rfl (by omega) ?_
  refine R_aload_n rfl rfl ?_
  refine R_iload rfl rfl ?_
  refine R_iconst (v := 2) rfl rfl ?_
  refine R_iaddN (x := a) (y := 2) rfl ?_
  refine R_sld (L := L) (j := a + 2) rfl hs hL rfl (by omega) ?_
  refine R_aload_n rfl rfl ?_
  refine R_cH (k := k) (as := [.ref 0, .int (σ.1 3000 (a + 1)), .int (σ.1 3000 (a + 2)), .ref 132]) rfl rfl iv_L_extensions hk (by decide) rfl rfl rfl rfl (Nat.le_of_ble_eq_true rfl) (fun σ1 q => ?_)
  obtain ⟨q1, b, d2, T2, hout, hM⟩ := q
  rw [← lw_iS q1] at hM
  have hs1 : σ1.1 3001 0 = nI L := (lw_iN q1).trans hs
  refine R_istore rfl (by decide) ?_
  refine R_aload_n rfl rfl ?_
  refine R_aload_n rfl rfl ?_
  refine R_iload rfl rfl ?_
  refine R_iconst (v := 1) rfl rfl ?_
  refine R_iaddN (x := a) (y := 1) rfl ?_
  refine R_sld (L := L) (j := a + 1) rfl hs1 hL rfl (by omega) ?_
  refine R_aload_n rfl rfl ?_
  refine R_iload rfl rfl ?_
  refine R_iconst (v := 2) rfl rfl ?_
  refine R_iaddN (x := a) (y := 2) rfl ?_
  refine R_sld (L := L) (j := a + 2) rfl hs1 hL rfl (by omega) ?_
  refine R_cV (as := [.int (σ1.1 3000 (a + 1)), .int (σ1.1 3000 (a + 2))]) rfl rfl iv_M_extensions hM (by decide) rfl rfl tk_120 (by decide) rfl rfl (Nat.le_of_ble_eq_true rfl) (fun σ2 r => ?_)
  obtain ⟨r1, M3, rk⟩ := r
  refine R_istore rfl (by decide) ?_
  refine R_aload_n rfl rfl ?_
  refine R_cV (as := []) rfl rfl iv_M_thrown sp_thrown (by decide) rfl rfl tk_120 (by decide) rfl rfl (Nat.le_of_ble_eq_true rfl) (fun _ e => ?_)
  obtain rfl := e.symm
  refine R_iload rfl rfl ?_
  refine R_icmp_eq rfl rfl (fun _ => ?_) (fun hz => absurd rk hz)
  refine R_iload rfl rfl ?_
  refine R_if_ne rfl rfl (fun hk0 => ?_) (fun hk0 => ?_)
  · refine R_goto rfl rfl ?_
    exact nx σ2 d2 _ _ _ (T2.mo r1) M3 ((mo_iN r1).trans hs1)
  refine R_aload_n rfl rfl ?_
  refine R_iconst (v := 0) rfl rfl ?_
  refine R_xL (j := 0) rfl tk_132 rfl (by decide) (by decide) ?_
  have hv : σ2.2.1 132 0 = _ := (mo_out r1).trans (hout hk0)
  refine R_iload rfl rfl ?_
  refine R_i2l rfl ?_
  refine R_l_eq rfl rfl rfl (fun _ => ?_) (fun hz => absurd hv hz)
  refine R_goto rfl rfl ?_
  exact nx σ2 d2 _ _ _ (T2.mo r1) M3 ((mo_iN r1).trans hs1)
theorem lc_26 {L a k : Nat} {σ : am_G} {d : Dk} {o5 o6 o7 : Option Value} (hL : L ≤ 3072) (ha : a + 6 ≤ L) (T : TC σ d) (M : TM σ d) (hs : σ.1 3001 0 = nI L) (nx : lwN L a k) : am_R am_TX 20 (1 + k) c_law 1777 (lwL a o5 o6 o7) [] (mm σ) lwQ := by
  show am_R _ _ _ _ 1777 [some (.ref 3000), some (.ref 0), some (.ref 120), some (.ref 132), some (.int (nI a)), o5, o6, o7] [] _ _
  obtain ⟨kk, hk⟩ := op_closure T M (σ.1 3000 (a + 1)) (σ.1 3000 (a + 2))
  refine R_aload_n rfl rfl ?_
  refine R_aload_n rfl rfl ?_
  refine R_iload rfl rfl ?_
  refine R_iconst (v := 1) rfl rfl ?_
  refine R_iaddN (x := a) (y := 1) rfl ?_
  refine R_sld (L := L) (j := a + 1) rfl hs hL rfl (by omega) ?_
  refine R_aload_n rfl rfl ?_
  refine R_iload rfl rfl ?_
  refine R_iconst (v := 2) rfl rfl ?_
  refine R_iaddN (x := a) (y := 2) rfl ?_
  refine R_sld (L := L) (j := a + 2) rfl hs hL rfl (by omega) ?_
  refine R_aload_n rfl rfl ?_
  refine R_cH (k := k) (as := [.ref 0, .int (σ.1 3000 (a + 1)), .int (σ.1 3000 (a + 2)), .ref 132]) rfl rfl iv_L_closure hk (by decide) rfl rfl rfl rfl (Nat.le_of_ble_eq_true rfl) (fun σ1 q => ?_)
  obtain ⟨q1, b, d2, T2, hout, hM⟩ := q
  rw [← lw_iS q1] at hM
  have hs1 : σ1.1 3001 0 = nI L := (lw_iN q1).trans hs
  refine R_istore rfl (by decide) ?_
  refine R_aload_n rfl rfl ?_
  refine R_aload_n rfl rfl ?_
  refine R_iload rfl rfl ?_
  refine R_iconst (v := 1) rfl rfl ?_
  refine R_iaddN (x := a) (y := 1) rfl ?_
  refine R_sld (L := L) (j := a + 1) rfl hs1 hL rfl (by omega) ?_
  refine R_aload_n rfl rfl ?_
  refine R_iload rfl rfl ?_
  refine R_iconst (v := 2) rfl rfl ?_
  refine R_iaddN (x := a) (y := 2) rfl ?_
  refine R_sld (L := L) (j := a + 2) rfl hs1 hL rfl (by omega) ?_
  refine R_cV (as := [.int (σ1.1 3000 (a + 1)), .int (σ1.1 3000 (a + 2))]) rfl rfl iv_M_closure hM (by decide) rfl rfl tk_120 (by decide) rfl rfl (Nat.le_of_ble_eq_true rfl) (fun σ2 r => ?_)
  obtain ⟨r1, M3, rk⟩ := r
  refine R_istore rfl (by decide) ?_
  refine R_aload_n rfl rfl ?_
  refine R_cV (as := []) rfl rfl iv_M_thrown sp_thrown (by decide) rfl rfl tk_120 (by decide) rfl rfl (Nat.le_of_ble_eq_true rfl) (fun _ e => ?_)
  obtain rfl := e.symm
  refine R_iload rfl rfl ?_
  refine R_icmp_eq rfl rfl (fun _ => ?_) (fun hz => absurd rk hz)
  refine R_iload rfl rfl ?_
  refine R_if_ne rfl rfl (fun hk0 => ?_) (fun hk0 => ?_)
  · refine R_goto rfl rfl ?_
    exact nx σ2 d2 _ _ _ (T2.mo r1) M3 ((mo_iN r1).trans hs1)
  refine R_aload_n rfl rfl ?_
  refine R_iconst (v := 0) rfl rfl ?_
  refine R_xL (j := 0) rfl tk_132 rfl (by decide) (by decide) ?_
  have hv : σ2.2.1 132 0 = _ := (mo_out r1).trans (hout hk0)
  refine R_iload rfl rfl ?_
  refine R_i2l rfl ?_
  refine R_l_eq rfl rfl rfl (fun _ => ?_) (fun hz => absurd hv hz)
  refine R_goto rfl rfl ?_
  exact nx σ2 d2 _ _ _ (T2.mo r1) M3 ((mo_iN r1).trans hs1)
theorem lc_27 {L a k : Nat} {σ : am_G} {d : Dk} {o5 o6 o7 : Option Value} (hL : L ≤ 3072) (ha : a + 6 ≤ L) (T : TC σ d) (M : TM σ d) (hs : σ.1 3001 0 = nI L) (nx : lwN L a k) : am_R am_TX 20 (1 + k) c_law 1845 (lwL a o5 o6 o7) [] (mm σ) lwQ := by
  show am_R _ _ _ _ 1845 [some (.ref 3000), some (.ref 0), some (.ref 120), some (.ref 132), some (.int (nI a)), o5, o6, o7] [] _ _
  obtain ⟨kk, hk⟩ := op_invariant T M (σ.1 3000 (a + 1))
  refine R_aload_n rfl rfl ?_
  refine R_aload_n rfl rfl ?_
  refine R_iload rfl rfl ?_
  refine R_iconst (v := 1) rfl rfl ?_
  refine R_iaddN (x := a) (y := 1) rfl ?_
  refine R_sld (L := L) (j := a + 1) rfl hs hL rfl (by omega) ?_
  refine R_aload_n rfl rfl ?_
  refine R_cH (k := k) (as := [.ref 0, .int (σ.1 3000 (a + 1)), .ref 132]) rfl rfl iv_L_invariant hk (by decide) rfl rfl rfl rfl (Nat.le_of_ble_eq_true rfl) (fun σ1 q => ?_)
  obtain ⟨q1, b, d2, T2, hout, hM⟩ := q
  rw [← lw_iS q1] at hM
  have hs1 : σ1.1 3001 0 = nI L := (lw_iN q1).trans hs
  refine R_istore rfl (by decide) ?_
  refine R_aload_n rfl rfl ?_
  refine R_aload_n rfl rfl ?_
  refine R_iload rfl rfl ?_
  refine R_iconst (v := 1) rfl rfl ?_
  refine R_iaddN (x := a) (y := 1) rfl ?_
  refine R_sld (L := L) (j := a + 1) rfl hs1 hL rfl (by omega) ?_
  refine R_cV (as := [.int (σ1.1 3000 (a + 1))]) rfl rfl iv_M_invariant hM (by decide) rfl rfl tk_120 (by decide) rfl rfl (Nat.le_of_ble_eq_true rfl) (fun σ2 r => ?_)
  obtain ⟨r1, M3, rk⟩ := r
  refine R_lstore rfl (by decide) ?_
  refine R_aload_n rfl rfl ?_
  refine R_cV (as := []) rfl rfl iv_M_thrown sp_thrown (by decide) rfl rfl tk_120 (by decide) rfl rfl (Nat.le_of_ble_eq_true rfl) (fun _ e => ?_)
  obtain rfl := e.symm
  refine R_iload rfl rfl ?_
  refine R_icmp_eq rfl rfl (fun _ => ?_) (fun hz => absurd rk hz)
  refine R_iload rfl rfl ?_
  refine R_if_ne rfl rfl (fun hk0 => ?_) (fun hk0 => ?_)
  · refine R_goto rfl rfl ?_
    exact nx σ2 d2 _ _ _ (T2.mo r1) M3 ((mo_iN r1).trans hs1)
  refine R_aload_n rfl rfl ?_
  refine R_iconst (v := 0) rfl rfl ?_
  refine R_xL (j := 0) rfl tk_132 rfl (by decide) (by decide) ?_
  have hv : σ2.2.1 132 0 = _ := (mo_out r1).trans (hout hk0)
  refine R_lload rfl rfl ?_
  refine R_l_eq rfl rfl rfl (fun _ => ?_) (fun hz => absurd hv hz)
  refine R_goto rfl rfl ?_
  exact nx σ2 d2 _ _ _ (T2.mo r1) M3 ((mo_iN r1).trans hs1)
theorem lc_28 {L a k : Nat} {σ : am_G} {d : Dk} {o5 o6 o7 : Option Value} (hL : L ≤ 3072) (ha : a + 6 ≤ L) (T : TC σ d) (M : TM σ d) (hs : σ.1 3001 0 = nI L) (nx : lwN L a k) : am_R am_TX 20 (1 + k) c_law 1900 (lwL a o5 o6 o7) [] (mm σ) lwQ := by
  show am_R _ _ _ _ 1900 [some (.ref 3000), some (.ref 0), some (.ref 120), some (.ref 132), some (.int (nI a)), o5, o6, o7] [] _ _
  obtain ⟨kk, hk⟩ := op_circuits T M (σ.1 3000 (a + 1))
  refine R_aload_n rfl rfl ?_
  refine R_aload_n rfl rfl ?_
  refine R_iload rfl rfl ?_
  refine R_iconst (v := 1) rfl rfl ?_
  refine R_iaddN (x := a) (y := 1) rfl ?_
  refine R_sld (L := L) (j := a + 1) rfl hs hL rfl (by omega) ?_
  refine R_aload_n rfl rfl ?_
  refine R_cH (k := k) (as := [.ref 0, .int (σ.1 3000 (a + 1)), .ref 132]) rfl rfl iv_L_circuits hk (by decide) rfl rfl rfl rfl (Nat.le_of_ble_eq_true rfl) (fun σ1 q => ?_)
  obtain ⟨q1, b, d2, T2, hout, hM⟩ := q
  rw [← lw_iS q1] at hM
  have hs1 : σ1.1 3001 0 = nI L := (lw_iN q1).trans hs
  refine R_istore rfl (by decide) ?_
  refine R_aload_n rfl rfl ?_
  refine R_aload_n rfl rfl ?_
  refine R_iload rfl rfl ?_
  refine R_iconst (v := 1) rfl rfl ?_
  refine R_iaddN (x := a) (y := 1) rfl ?_
  refine R_sld (L := L) (j := a + 1) rfl hs1 hL rfl (by omega) ?_
  refine R_cV (as := [.int (σ1.1 3000 (a + 1))]) rfl rfl iv_M_circuits hM (by decide) rfl rfl tk_120 (by decide) rfl rfl (Nat.le_of_ble_eq_true rfl) (fun σ2 r => ?_)
  obtain ⟨r1, M3, rk⟩ := r
  refine R_istore rfl (by decide) ?_
  refine R_aload_n rfl rfl ?_
  refine R_cV (as := []) rfl rfl iv_M_thrown sp_thrown (by decide) rfl rfl tk_120 (by decide) rfl rfl (Nat.le_of_ble_eq_true rfl) (fun _ e => ?_)
  obtain rfl := e.symm
  refine R_iload rfl rfl ?_
  refine R_icmp_eq rfl rfl (fun _ => ?_) (fun hz => absurd rk hz)
  refine R_iload rfl rfl ?_
  refine R_if_ne rfl rfl (fun hk0 => ?_) (fun hk0 => ?_)
  · refine R_goto rfl rfl ?_
    exact nx σ2 d2 _ _ _ (T2.mo r1) M3 ((mo_iN r1).trans hs1)
  refine R_aload_n rfl rfl ?_
  refine R_iconst (v := 0) rfl rfl ?_
  refine R_xL (j := 0) rfl tk_132 rfl (by decide) (by decide) ?_
  have hv : σ2.2.1 132 0 = _ := (mo_out r1).trans (hout hk0)
  refine R_iload rfl rfl ?_
  refine R_i2l rfl ?_
  refine R_l_eq rfl rfl rfl (fun _ => ?_) (fun hz => absurd hv hz)
  refine R_goto rfl rfl ?_
  exact nx σ2 d2 _ _ _ (T2.mo r1) M3 ((mo_iN r1).trans hs1)
theorem lc_29 {L a k : Nat} {σ : am_G} {d : Dk} {o5 o6 o7 : Option Value} (hL : L ≤ 3072) (ha : a + 6 ≤ L) (T : TC σ d) (M : TM σ d) (hs : σ.1 3001 0 = nI L) (nx : lwN L a k) : am_R am_TX 20 (1 + k) c_law 1956 (lwL a o5 o6 o7) [] (mm σ) lwQ := by
  show am_R _ _ _ _ 1956 [some (.ref 3000), some (.ref 0), some (.ref 120), some (.ref 132), some (.int (nI a)), o5, o6, o7] [] _ _
  obtain ⟨kk, hk⟩ := op_circuit T M (σ.1 3000 (a + 1)) (σ.1 3000 (a + 2))
  refine R_aload_n rfl rfl ?_
  refine R_aload_n rfl rfl ?_
  refine R_iload rfl rfl ?_
  refine R_iconst (v := 1) rfl rfl ?_
  refine R_iaddN (x := a) (y := 1) rfl ?_
  refine R_sld (L := L) (j := a + 1) rfl hs hL rfl (by omega) ?_
  refine R_aload_n rfl rfl ?_
  refine R_iload rfl rfl ?_
  refine R_iconst (v := 2) rfl rfl ?_
  refine R_iaddN (x := a) (y := 2) rfl ?_
  refine R_sld (L := L) (j := a + 2) rfl hs hL rfl (by omega) ?_
  refine R_aload_n rfl rfl ?_
  refine R_cH (k := k) (as := [.ref 0, .int (σ.1 3000 (a + 1)), .int (σ.1 3000 (a + 2)), .ref 132]) rfl rfl iv_L_circuit hk (by decide) rfl rfl rfl rfl (Nat.le_of_ble_eq_true rfl) (fun σ1 q => ?_)
  obtain ⟨q1, b, d2, T2, hout, hM⟩ := q
  rw [← lw_iS q1] at hM
  have hs1 : σ1.1 3001 0 = nI L := (lw_iN q1).trans hs
  refine R_istore rfl (by decide) ?_
  refine R_aload_n rfl rfl ?_
  refine R_aload_n rfl rfl ?_
  refine R_iload rfl rfl ?_
  refine R_iconst (v := 1) rfl rfl ?_
  refine R_iaddN (x := a) (y := 1) rfl ?_
  refine R_sld (L := L) (j := a + 1) rfl hs1 hL rfl (by omega) ?_
  refine R_aload_n rfl rfl ?_
  refine R_iload rfl rfl ?_
  refine R_iconst (v := 2) rfl rfl ?_
  refine R_iaddN (x := a) (y := 2) rfl ?_
  refine R_sld (L := L) (j := a + 2) rfl hs1 hL rfl (by omega) ?_
  refine R_cV (as := [.int (σ1.1 3000 (a + 1)), .int (σ1.1 3000 (a + 2))]) rfl rfl iv_M_circuit hM (by decide) rfl rfl tk_120 (by decide) rfl rfl (Nat.le_of_ble_eq_true rfl) (fun σ2 r => ?_)
  obtain ⟨r1, M3, rk⟩ := r
  refine R_istore rfl (by decide) ?_
  refine R_aload_n rfl rfl ?_
  refine R_cV (as := []) rfl rfl iv_M_thrown sp_thrown (by decide) rfl rfl tk_120 (by decide) rfl rfl (Nat.le_of_ble_eq_true rfl) (fun _ e => ?_)
  obtain rfl := e.symm
  refine R_iload rfl rfl ?_
  refine R_icmp_eq rfl rfl (fun _ => ?_) (fun hz => absurd rk hz)
  refine R_iload rfl rfl ?_
  refine R_if_ne rfl rfl (fun hk0 => ?_) (fun hk0 => ?_)
  · refine R_goto rfl rfl ?_
    exact nx σ2 d2 _ _ _ (T2.mo r1) M3 ((mo_iN r1).trans hs1)
  refine R_aload_n rfl rfl ?_
  refine R_iconst (v := 0) rfl rfl ?_
  refine R_xL (j := 0) rfl tk_132 rfl (by decide) (by decide) ?_
  have hv : σ2.2.1 132 0 = _ := (mo_out r1).trans (hout hk0)
  refine R_iload rfl rfl ?_
  refine R_i2l rfl ?_
  refine R_l_eq rfl rfl rfl (fun _ => ?_) (fun hz => absurd hv hz)
  refine R_goto rfl rfl ?_
  exact nx σ2 d2 _ _ _ (T2.mo r1) M3 ((mo_iN r1).trans hs1)
theorem lc_30 {L a k : Nat} {σ : am_G} {d : Dk} {o5 o6 o7 : Option Value} (hL : L ≤ 3072) (ha : a + 6 ≤ L) (T : TC σ d) (M : TM σ d) (hs : σ.1 3001 0 = nI L) (nx : lwN L a k) : am_R am_TX 20 (1 + k) c_law 2024 (lwL a o5 o6 o7) [] (mm σ) lwQ := by
  show am_R _ _ _ _ 2024 [some (.ref 3000), some (.ref 0), some (.ref 120), some (.ref 132), some (.int (nI a)), o5, o6, o7] [] _ _
  obtain ⟨kk, hk⟩ := op_spoils T M (σ.1 3000 (a + 1)) (σ.1 3000 (a + 2))
  refine R_aload_n rfl rfl ?_
  refine R_aload_n rfl rfl ?_
  refine R_iload rfl rfl ?_
  refine R_iconst (v := 1) rfl rfl ?_
  refine R_iaddN (x := a) (y := 1) rfl ?_
  refine R_sld (L := L) (j := a + 1) rfl hs hL rfl (by omega) ?_
  refine R_aload_n rfl rfl ?_
  refine R_iload rfl rfl ?_
  refine R_iconst (v := 2) rfl rfl ?_
  refine R_iaddN (x := a) (y := 2) rfl ?_
  refine R_sld (L := L) (j := a + 2) rfl hs hL rfl (by omega) ?_
  refine R_aload_n rfl rfl ?_
  refine R_cH (k := k) (as := [.ref 0, .int (σ.1 3000 (a + 1)), .int (σ.1 3000 (a + 2)), .ref 132]) rfl rfl iv_L_spoils hk (by decide) rfl rfl rfl rfl (Nat.le_of_ble_eq_true rfl) (fun σ1 q => ?_)
  obtain ⟨q1, b, d2, T2, hout, hM⟩ := q
  rw [← lw_iS q1] at hM
  have hs1 : σ1.1 3001 0 = nI L := (lw_iN q1).trans hs
  refine R_istore rfl (by decide) ?_
  refine R_aload_n rfl rfl ?_
  refine R_aload_n rfl rfl ?_
  refine R_iload rfl rfl ?_
  refine R_iconst (v := 1) rfl rfl ?_
  refine R_iaddN (x := a) (y := 1) rfl ?_
  refine R_sld (L := L) (j := a + 1) rfl hs1 hL rfl (by omega) ?_
  refine R_aload_n rfl rfl ?_
  refine R_iload rfl rfl ?_
  refine R_iconst (v := 2) rfl rfl ?_
  refine R_iaddN (x := a) (y := 2) rfl ?_
  refine R_sld (L := L) (j := a + 2) rfl hs1 hL rfl (by omega) ?_
  refine R_cV (as := [.int (σ1.1 3000 (a + 1)), .int (σ1.1 3000 (a + 2))]) rfl rfl iv_M_spoils hM (by decide) rfl rfl tk_120 (by decide) rfl rfl (Nat.le_of_ble_eq_true rfl) (fun σ2 r => ?_)
  obtain ⟨r1, M3, rk⟩ := r
  refine R_istore rfl (by decide) ?_
  refine R_aload_n rfl rfl ?_
  refine R_cV (as := []) rfl rfl iv_M_thrown sp_thrown (by decide) rfl rfl tk_120 (by decide) rfl rfl (Nat.le_of_ble_eq_true rfl) (fun _ e => ?_)
  obtain rfl := e.symm
  refine R_iload rfl rfl ?_
  refine R_icmp_eq rfl rfl (fun _ => ?_) (fun hz => absurd rk hz)
  refine R_iload rfl rfl ?_
  refine R_if_ne rfl rfl (fun hk0 => ?_) (fun hk0 => ?_)
  · refine R_goto rfl rfl ?_
    exact nx σ2 d2 _ _ _ (T2.mo r1) M3 ((mo_iN r1).trans hs1)
  refine R_aload_n rfl rfl ?_
  refine R_iconst (v := 0) rfl rfl ?_
  refine R_xL (j := 0) rfl tk_132 rfl (by decide) (by decide) ?_
  have hv : σ2.2.1 132 0 = _ := (mo_out r1).trans (hout hk0)
  refine R_iload rfl rfl ?_
  refine R_i2l rfl ?_
  refine R_l_eq rfl rfl rfl (fun _ => ?_) (fun hz => absurd hv hz)
  refine R_goto rfl rfl ?_
  exact nx σ2 d2 _ _ _ (T2.mo r1) M3 ((mo_iN r1).trans hs1)
theorem lc_31 {L a k : Nat} {σ : am_G} {d : Dk} {o5 o6 o7 : Option Value} (hL : L ≤ 3072) (ha : a + 6 ≤ L) (T : TC σ d) (M : TM σ d) (hs : σ.1 3001 0 = nI L) (nx : lwN L a k) : am_R am_TX 20 (1 + k) c_law 2092 (lwL a o5 o6 o7) [] (mm σ) lwQ := by
  show am_R _ _ _ _ 2092 [some (.ref 3000), some (.ref 0), some (.ref 120), some (.ref 132), some (.int (nI a)), o5, o6, o7] [] _ _
  obtain ⟨kk, hk⟩ := op_guessed T M (σ.1 3000 (a + 1)) (σ.1 3000 (a + 2)) (σ.1 3000 (a + 3))
  refine R_aload_n rfl rfl ?_
  refine R_aload_n rfl rfl ?_
  refine R_iload rfl rfl ?_
  refine R_iconst (v := 1) rfl rfl ?_
  refine R_iaddN (x := a) (y := 1) rfl ?_
  refine R_sld (L := L) (j := a + 1) rfl hs hL rfl (by omega) ?_
  refine R_aload_n rfl rfl ?_
  refine R_iload rfl rfl ?_
  refine R_iconst (v := 2) rfl rfl ?_
  refine R_iaddN (x := a) (y := 2) rfl ?_
  refine R_sld (L := L) (j := a + 2) rfl hs hL rfl (by omega) ?_
  refine R_aload_n rfl rfl ?_
  refine R_iload rfl rfl ?_
  refine R_iconst (v := 3) rfl rfl ?_
  refine R_iaddN (x := a) (y := 3) rfl ?_
  refine R_sld (L := L) (j := a + 3) rfl hs hL rfl (by omega) ?_
  refine R_aload_n rfl rfl ?_
  refine R_cH (k := k) (as := [.ref 0, .int (σ.1 3000 (a + 1)), .int (σ.1 3000 (a + 2)), .int (σ.1 3000 (a + 3)), .ref 132]) rfl rfl iv_L_guessed hk (by decide) rfl rfl rfl rfl (Nat.le_of_ble_eq_true rfl) (fun σ1 q => ?_)
  obtain ⟨q1, b, d2, T2, hout, hM⟩ := q
  rw [← lw_iS q1] at hM
  have hs1 : σ1.1 3001 0 = nI L := (lw_iN q1).trans hs
  refine R_istore rfl (by decide) ?_
  refine R_aload_n rfl rfl ?_
  refine R_aload_n rfl rfl ?_
  refine R_iload rfl rfl ?_
  refine R_iconst (v := 1) rfl rfl ?_
  refine R_iaddN (x := a) (y := 1) rfl ?_
  refine R_sld (L := L) (j := a + 1) rfl hs1 hL rfl (by omega) ?_
  refine R_aload_n rfl rfl ?_
  refine R_iload rfl rfl ?_
  refine R_iconst (v := 2) rfl rfl ?_
  refine R_iaddN (x := a) (y := 2) rfl ?_
  refine R_sld (L := L) (j := a + 2) rfl hs1 hL rfl (by omega) ?_
  refine R_aload_n rfl rfl ?_
  refine R_iload rfl rfl ?_
  refine R_iconst (v := 3) rfl rfl ?_
  refine R_iaddN (x := a) (y := 3) rfl ?_
  refine R_sld (L := L) (j := a + 3) rfl hs1 hL rfl (by omega) ?_
  refine R_cV (as := [.int (σ1.1 3000 (a + 1)), .int (σ1.1 3000 (a + 2)), .int (σ1.1 3000 (a + 3))]) rfl rfl iv_M_guessed hM (by decide) rfl rfl tk_120 (by decide) rfl rfl (Nat.le_of_ble_eq_true rfl) (fun σ2 r => ?_)
  obtain ⟨r1, M3, rk⟩ := r
  refine R_lstore rfl (by decide) ?_
  refine R_aload_n rfl rfl ?_
  refine R_cV (as := []) rfl rfl iv_M_thrown sp_thrown (by decide) rfl rfl tk_120 (by decide) rfl rfl (Nat.le_of_ble_eq_true rfl) (fun _ e => ?_)
  obtain rfl := e.symm
  refine R_iload rfl rfl ?_
  refine R_icmp_eq rfl rfl (fun _ => ?_) (fun hz => absurd rk hz)
  refine R_iload rfl rfl ?_
  refine R_if_ne rfl rfl (fun hk0 => ?_) (fun hk0 => ?_)
  · refine R_goto rfl rfl ?_
    exact nx σ2 d2 _ _ _ (T2.mo r1) M3 ((mo_iN r1).trans hs1)
  refine R_aload_n rfl rfl ?_
  refine R_iconst (v := 0) rfl rfl ?_
  refine R_xL (j := 0) rfl tk_132 rfl (by decide) (by decide) ?_
  have hv : σ2.2.1 132 0 = _ := (mo_out r1).trans (hout hk0)
  refine R_lload rfl rfl ?_
  refine R_l_eq rfl rfl rfl (fun _ => ?_) (fun hz => absurd hv hz)
  refine R_goto rfl rfl ?_
  exact nx σ2 d2 _ _ _ (T2.mo r1) M3 ((mo_iN r1).trans hs1)
theorem lc_32 {L a k : Nat} {σ : am_G} {d : Dk} {o5 o6 o7 : Option Value} (hL : L ≤ 3072) (ha : a + 6 ≤ L) (T : TC σ d) (M : TM σ d) (hs : σ.1 3001 0 = nI L) (nx : lwN L a k) : am_R am_TX 20 (1 + k) c_law 2171 (lwL a o5 o6 o7) [] (mm σ) lwQ := by
  show am_R _ _ _ _ 2171 [some (.ref 3000), some (.ref 0), some (.ref 120), some (.ref 132), some (.int (nI a)), o5, o6, o7] [] _ _
  obtain ⟨kk, hk⟩ := op_guess T M (σ.1 3000 (a + 1))
  refine R_aload_n rfl rfl ?_
  refine R_aload_n rfl rfl ?_
  refine R_iload rfl rfl ?_
  refine R_iconst (v := 1) rfl rfl ?_
  refine R_iaddN (x := a) (y := 1) rfl ?_
  refine R_sld (L := L) (j := a + 1) rfl hs hL rfl (by omega) ?_
  refine R_aload_n rfl rfl ?_
  refine R_cH (k := k) (as := [.ref 0, .int (σ.1 3000 (a + 1)), .ref 132]) rfl rfl iv_L_guess hk (by decide) rfl rfl rfl rfl (Nat.le_of_ble_eq_true rfl) (fun σ1 q => ?_)
  obtain ⟨q1, b, d2, T2, hout, hM⟩ := q
  rw [← lw_iS q1] at hM
  have hs1 : σ1.1 3001 0 = nI L := (lw_iN q1).trans hs
  refine R_istore rfl (by decide) ?_
  refine R_aload_n rfl rfl ?_
  refine R_aload_n rfl rfl ?_
  refine R_iload rfl rfl ?_
  refine R_iconst (v := 1) rfl rfl ?_
  refine R_iaddN (x := a) (y := 1) rfl ?_
  refine R_sld (L := L) (j := a + 1) rfl hs1 hL rfl (by omega) ?_
  refine R_cV (as := [.int (σ1.1 3000 (a + 1))]) rfl rfl iv_M_guess hM (by decide) rfl rfl tk_120 (by decide) rfl rfl (Nat.le_of_ble_eq_true rfl) (fun σ2 r => ?_)
  obtain ⟨r1, M3, rk⟩ := r
  refine R_istore rfl (by decide) ?_
  refine R_aload_n rfl rfl ?_
  refine R_cV (as := []) rfl rfl iv_M_thrown sp_thrown (by decide) rfl rfl tk_120 (by decide) rfl rfl (Nat.le_of_ble_eq_true rfl) (fun _ e => ?_)
  obtain rfl := e.symm
  refine R_iload rfl rfl ?_
  refine R_icmp_eq rfl rfl (fun _ => ?_) (fun hz => absurd rk hz)
  refine R_iload rfl rfl ?_
  refine R_if_ne rfl rfl (fun hk0 => ?_) (fun hk0 => ?_)
  · refine R_goto rfl rfl ?_
    exact nx σ2 d2 _ _ _ (T2.mo r1) M3 ((mo_iN r1).trans hs1)
  refine R_aload_n rfl rfl ?_
  refine R_iconst (v := 0) rfl rfl ?_
  refine R_xL (j := 0) rfl tk_132 rfl (by decide) (by decide) ?_
  have hv : σ2.2.1 132 0 = _ := (mo_out r1).trans (hout hk0)
  refine R_iload rfl rfl ?_
  refine R_i2l rfl ?_
  refine R_l_eq rfl rfl rfl (fun _ => ?_) (fun hz => absurd hv hz)
  refine R_goto rfl rfl ?_
  exact nx σ2 d2 _ _ _ (T2.mo r1) M3 ((mo_iN r1).trans hs1)
theorem lc_33 {L a k : Nat} {σ : am_G} {d : Dk} {o5 o6 o7 : Option Value} (hL : L ≤ 3072) (ha : a + 6 ≤ L) (T : TC σ d) (M : TM σ d) (hs : σ.1 3001 0 = nI L) (nx : lwN L a k) : am_R am_TX 20 (1 + k) c_law 2227 (lwL a o5 o6 o7) [] (mm σ) lwQ := by
  show am_R _ _ _ _ 2227 [some (.ref 3000), some (.ref 0), some (.ref 120), some (.ref 132), some (.int (nI a)), o5, o6, o7] [] _ _
  obtain ⟨kk, hk⟩ := op_vector T M (σ.1 3000 (a + 1))
  refine R_aload_n rfl rfl ?_
  refine R_aload_n rfl rfl ?_
  refine R_iload rfl rfl ?_
  refine R_iconst (v := 1) rfl rfl ?_
  refine R_iaddN (x := a) (y := 1) rfl ?_
  refine R_sld (L := L) (j := a + 1) rfl hs hL rfl (by omega) ?_
  refine R_aload_n rfl rfl ?_
  refine R_cH (k := k) (as := [.ref 0, .int (σ.1 3000 (a + 1)), .ref 132]) rfl rfl iv_L_vector hk (by decide) rfl rfl rfl rfl (Nat.le_of_ble_eq_true rfl) (fun σ1 q => ?_)
  obtain ⟨q1, b, d2, T2, hout, hM⟩ := q
  rw [← lw_iS q1] at hM
  have hs1 : σ1.1 3001 0 = nI L := (lw_iN q1).trans hs
  refine R_istore rfl (by decide) ?_
  refine R_aload_n rfl rfl ?_
  refine R_aload_n rfl rfl ?_
  refine R_iload rfl rfl ?_
  refine R_iconst (v := 1) rfl rfl ?_
  refine R_iaddN (x := a) (y := 1) rfl ?_
  refine R_sld (L := L) (j := a + 1) rfl hs1 hL rfl (by omega) ?_
  refine R_cV (as := [.int (σ1.1 3000 (a + 1))]) rfl rfl iv_M_vector hM (by decide) rfl rfl tk_120 (by decide) rfl rfl (Nat.le_of_ble_eq_true rfl) (fun σ2 r => ?_)
  obtain ⟨r1, M3, rk⟩ := r
  refine R_istore rfl (by decide) ?_
  refine R_aload_n rfl rfl ?_
  refine R_cV (as := []) rfl rfl iv_M_thrown sp_thrown (by decide) rfl rfl tk_120 (by decide) rfl rfl (Nat.le_of_ble_eq_true rfl) (fun _ e => ?_)
  obtain rfl := e.symm
  refine R_iload rfl rfl ?_
  refine R_icmp_eq rfl rfl (fun _ => ?_) (fun hz => absurd rk hz)
  refine R_iload rfl rfl ?_
  refine R_if_ne rfl rfl (fun hk0 => ?_) (fun hk0 => ?_)
  · refine R_goto rfl rfl ?_
    exact nx σ2 d2 _ _ _ (T2.mo r1) M3 ((mo_iN r1).trans hs1)
  refine R_aload_n rfl rfl ?_
  refine R_iconst (v := 0) rfl rfl ?_
  refine R_xL (j := 0) rfl tk_132 rfl (by decide) (by decide) ?_
  have hv : σ2.2.1 132 0 = _ := (mo_out r1).trans (hout hk0)
  refine R_iload rfl rfl ?_
  refine R_i2l rfl ?_
  refine R_l_eq rfl rfl rfl (fun _ => ?_) (fun hz => absurd hv hz)
  refine R_goto rfl rfl ?_
  exact nx σ2 d2 _ _ _ (T2.mo r1) M3 ((mo_iN r1).trans hs1)
theorem lc_34 {L a k : Nat} {σ : am_G} {d : Dk} {o5 o6 o7 : Option Value} (hL : L ≤ 3072) (ha : a + 6 ≤ L) (T : TC σ d) (M : TM σ d) (hs : σ.1 3001 0 = nI L) (nx : lwN L a k) : am_R am_TX 20 (1 + k) c_law 2283 (lwL a o5 o6 o7) [] (mm σ) lwQ := by
  show am_R _ _ _ _ 2283 [some (.ref 3000), some (.ref 0), some (.ref 120), some (.ref 132), some (.int (nI a)), o5, o6, o7] [] _ _
  obtain ⟨kk, hk⟩ := op_product T M (σ.1 3000 (a + 1))
  refine R_aload_n rfl rfl ?_
  refine R_aload_n rfl rfl ?_
  refine R_iload rfl rfl ?_
  refine R_iconst (v := 1) rfl rfl ?_
  refine R_iaddN (x := a) (y := 1) rfl ?_
  refine R_sld (L := L) (j := a + 1) rfl hs hL rfl (by omega) ?_
  refine R_aload_n rfl rfl ?_
  refine R_cH (k := k) (as := [.ref 0, .int (σ.1 3000 (a + 1)), .ref 132]) rfl rfl iv_L_product hk (by decide) rfl rfl rfl rfl (Nat.le_of_ble_eq_true rfl) (fun σ1 q => ?_)
  obtain ⟨q1, b, d2, T2, hout, hM⟩ := q
  rw [← lw_iS q1] at hM
  have hs1 : σ1.1 3001 0 = nI L := (lw_iN q1).trans hs
  refine R_istore rfl (by decide) ?_
  refine R_aload_n rfl rfl ?_
  refine R_aload_n rfl rfl ?_
  refine R_iload rfl rfl ?_
  refine R_iconst (v := 1) rfl rfl ?_
  refine R_iaddN (x := a) (y := 1) rfl ?_
  refine R_sld (L := L) (j := a + 1) rfl hs1 hL rfl (by omega) ?_
  refine R_cV (as := [.int (σ1.1 3000 (a + 1))]) rfl rfl iv_M_product hM (by decide) rfl rfl tk_120 (by decide) rfl rfl (Nat.le_of_ble_eq_true rfl) (fun σ2 r => ?_)
  obtain ⟨r1, M3, rk⟩ := r
  refine R_istore rfl (by decide) ?_
  refine R_aload_n rfl rfl ?_
  refine R_cV (as := []) rfl rfl iv_M_thrown sp_thrown (by decide) rfl rfl tk_120 (by decide) rfl rfl (Nat.le_of_ble_eq_true rfl) (fun _ e => ?_)
  obtain rfl := e.symm
  refine R_iload rfl rfl ?_
  refine R_icmp_eq rfl rfl (fun _ => ?_) (fun hz => absurd rk hz)
  refine R_iload rfl rfl ?_
  refine R_if_ne rfl rfl (fun hk0 => ?_) (fun hk0 => ?_)
  · refine R_goto rfl rfl ?_
    exact nx σ2 d2 _ _ _ (T2.mo r1) M3 ((mo_iN r1).trans hs1)
  refine R_aload_n rfl rfl ?_
  refine R_iconst (v := 0) rfl rfl ?_
  refine R_xL (j := 0) rfl tk_132 rfl (by decide) (by decide) ?_
  have hv : σ2.2.1 132 0 = _ := (mo_out r1).trans (hout hk0)
  refine R_iload rfl rfl ?_
  refine R_i2l rfl ?_
  refine R_l_eq rfl rfl rfl (fun _ => ?_) (fun hz => absurd hv hz)
  refine R_goto rfl rfl ?_
  exact nx σ2 d2 _ _ _ (T2.mo r1) M3 ((mo_iN r1).trans hs1)
theorem lc_35 {L a k : Nat} {σ : am_G} {d : Dk} {o5 o6 o7 : Option Value} (hL : L ≤ 3072) (ha : a + 6 ≤ L) (T : TC σ d) (M : TM σ d) (hs : σ.1 3001 0 = nI L) (nx : lwN L a k) : am_R am_TX 20 (1 + k) c_law 2339 (lwL a o5 o6 o7) [] (mm σ) lwQ := by
  show am_R _ _ _ _ 2339 [some (.ref 3000), some (.ref 0), some (.ref 120), some (.ref 132), some (.int (nI a)), o5, o6, o7] [] _ _
  obtain ⟨kk, hk⟩ := op_claimed T M (σ.1 3000 (a + 1))
  refine R_aload_n rfl rfl ?_
  refine R_aload_n rfl rfl ?_
  refine R_iload rfl rfl ?_
  refine R_iconst (v := 1) rfl rfl ?_
  refine R_iaddN (x := a) (y := 1) rfl ?_
  refine R_sld (L := L) (j := a + 1) rfl hs hL rfl (by omega) ?_
  refine R_aload_n rfl rfl ?_
  refine R_cH (k := k) (as := [.ref 0, .int (σ.1 3000 (a + 1)), .ref 132]) rfl rfl iv_L_claimed hk (by decide) rfl rfl rfl rfl (Nat.le_of_ble_eq_true rfl) (fun σ1 q => ?_)
  obtain ⟨q1, b, d2, T2, hout, hM⟩ := q
  rw [← lw_iS q1] at hM
  have hs1 : σ1.1 3001 0 = nI L := (lw_iN q1).trans hs
  refine R_istore rfl (by decide) ?_
  refine R_aload_n rfl rfl ?_
  refine R_aload_n rfl rfl ?_
  refine R_iload rfl rfl ?_
  refine R_iconst (v := 1) rfl rfl ?_
  refine R_iaddN (x := a) (y := 1) rfl ?_
  refine R_sld (L := L) (j := a + 1) rfl hs1 hL rfl (by omega) ?_
  refine R_cV (as := [.int (σ1.1 3000 (a + 1))]) rfl rfl iv_M_claimed hM (by decide) rfl rfl tk_120 (by decide) rfl rfl (Nat.le_of_ble_eq_true rfl) (fun σ2 r => ?_)
  obtain ⟨r1, M3, rk⟩ := r
  refine R_istore rfl (by decide) ?_
  refine R_aload_n rfl rfl ?_
  refine R_cV (as := []) rfl rfl iv_M_thrown sp_thrown (by decide) rfl rfl tk_120 (by decide) rfl rfl (Nat.le_of_ble_eq_true rfl) (fun _ e => ?_)
  obtain rfl := e.symm
  refine R_iload rfl rfl ?_
  refine R_icmp_eq rfl rfl (fun _ => ?_) (fun hz => absurd rk hz)
  refine R_iload rfl rfl ?_
  refine R_if_ne rfl rfl (fun hk0 => ?_) (fun hk0 => ?_)
  · refine R_goto rfl rfl ?_
    exact nx σ2 d2 _ _ _ (T2.mo r1) M3 ((mo_iN r1).trans hs1)
  refine R_aload_n rfl rfl ?_
  refine R_iconst (v := 0) rfl rfl ?_
  refine R_xL (j := 0) rfl tk_132 rfl (by decide) (by decide) ?_
  have hv : σ2.2.1 132 0 = _ := (mo_out r1).trans (hout hk0)
  refine R_iload rfl rfl ?_
  refine R_i2l rfl ?_
  refine R_l_eq rfl rfl rfl (fun _ => ?_) (fun hz => absurd hv hz)
  refine R_goto rfl rfl ?_
  exact nx σ2 d2 _ _ _ (T2.mo r1) M3 ((mo_iN r1).trans hs1)
theorem lc_36 {L a k : Nat} {σ : am_G} {d : Dk} {o5 o6 o7 : Option Value} (hL : L ≤ 3072) (ha : a + 6 ≤ L) (T : TC σ d) (M : TM σ d) (hs : σ.1 3001 0 = nI L) (nx : lwN L a k) : am_R am_TX 20 (1 + k) c_law 2395 (lwL a o5 o6 o7) [] (mm σ) lwQ := by
  show am_R _ _ _ _ 2395 [some (.ref 3000), some (.ref 0), some (.ref 120), some (.ref 132), some (.int (nI a)), o5, o6, o7] [] _ _
  obtain ⟨kk, hk⟩ := op_relationOf T M (σ.1 3000 (a + 1)) (σ.1 3000 (a + 2))
  refine R_aload_n rfl rfl ?_
  refine R_aload_n rfl rfl ?_
  refine R_iload rfl rfl ?_
  refine R_iconst (v := 1) rfl rfl ?_
  refine R_iaddN (x := a) (y := 1) rfl ?_
  refine R_sld (L := L) (j := a + 1) rfl hs hL rfl (by omega) ?_
  refine R_aload_n rfl rfl ?_
  refine R_iload rfl rfl ?_
  refine R_iconst (v := 2) rfl rfl ?_
  refine R_iaddN (x := a) (y := 2) rfl ?_
  refine R_sld (L := L) (j := a + 2) rfl hs hL rfl (by omega) ?_
  refine R_aload_n rfl rfl ?_
  refine R_cH (k := k) (as := [.ref 0, .int (σ.1 3000 (a + 1)), .int (σ.1 3000 (a + 2)), .ref 132]) rfl rfl iv_L_relationOf hk (by decide) rfl rfl rfl rfl (Nat.le_of_ble_eq_true rfl) (fun σ1 q => ?_)
  obtain ⟨q1, b, d2, T2, hout, hM⟩ := q
  rw [← lw_iS q1] at hM
  have hs1 : σ1.1 3001 0 = nI L := (lw_iN q1).trans hs
  refine R_istore rfl (by decide) ?_
  refine R_aload_n rfl rfl ?_
  refine R_aload_n rfl rfl ?_
  refine R_iload rfl rfl ?_
  refine R_iconst (v := 1) rfl rfl ?_
  refine R_iaddN (x := a) (y := 1) rfl ?_
  refine R_sld (L := L) (j := a + 1) rfl hs1 hL rfl (by omega) ?_
  refine R_aload_n rfl rfl ?_
  refine R_iload rfl rfl ?_
  refine R_iconst (v := 2) rfl rfl ?_
  refine R_iaddN (x := a) (y := 2) rfl ?_
  refine R_sld (L := L) (j := a + 2) rfl hs1 hL rfl (by omega) ?_
  refine R_cV (as := [.int (σ1.1 3000 (a + 1)), .int (σ1.1 3000 (a + 2))]) rfl rfl iv_M_relationOf hM (by decide) rfl rfl tk_120 (by decide) rfl rfl (Nat.le_of_ble_eq_true rfl) (fun σ2 r => ?_)
  obtain ⟨r1, M3, rk⟩ := r
  refine R_lstore rfl (by decide) ?_
  refine R_aload_n rfl rfl ?_
  refine R_cV (as := []) rfl rfl iv_M_thrown sp_thrown (by decide) rfl rfl tk_120 (by decide) rfl rfl (Nat.le_of_ble_eq_true rfl) (fun _ e => ?_)
  obtain rfl := e.symm
  refine R_iload rfl rfl ?_
  refine R_icmp_eq rfl rfl (fun _ => ?_) (fun hz => absurd rk hz)
  refine R_iload rfl rfl ?_
  refine R_if_ne rfl rfl (fun hk0 => ?_) (fun hk0 => ?_)
  · refine R_goto rfl rfl ?_
    exact nx σ2 d2 _ _ _ (T2.mo r1) M3 ((mo_iN r1).trans hs1)
  refine R_aload_n rfl rfl ?_
  refine R_iconst (v := 0) rfl rfl ?_
  refine R_xL (j := 0) rfl tk_132 rfl (by decide) (by decide) ?_
  have hv : σ2.2.1 132 0 = _ := (mo_out r1).trans (hout hk0)
  refine R_lload rfl rfl ?_
  refine R_l_eq rfl rfl rfl (fun _ => ?_) (fun hz => absurd hv hz)
  refine R_goto rfl rfl ?_
  exact nx σ2 d2 _ _ _ (T2.mo r1) M3 ((mo_iN r1).trans hs1)
theorem lc_37 {L a k : Nat} {σ : am_G} {d : Dk} {o5 o6 o7 : Option Value} (hL : L ≤ 3072) (ha : a + 6 ≤ L) (T : TC σ d) (M : TM σ d) (hs : σ.1 3001 0 = nI L) (nx : lwN L a k) : am_R am_TX 20 (1 + k) c_law 2462 (lwL a o5 o6 o7) [] (mm σ) lwQ := by
  show am_R _ _ _ _ 2462 [some (.ref 3000), some (.ref 0), some (.ref 120), some (.ref 132), some (.int (nI a)), o5, o6, o7] [] _ _
  obtain ⟨kk, hk⟩ := op_head T M (σ.1 3000 (a + 1))
  refine R_aload_n rfl rfl ?_
  refine R_aload_n rfl rfl ?_
  refine R_iload rfl rfl ?_
  refine R_iconst (v := 1) rfl rfl ?_
  refine R_iaddN (x := a) (y := 1) rfl ?_
  refine R_sld (L := L) (j := a + 1) rfl hs hL rfl (by omega) ?_
  refine R_aload_n rfl rfl ?_
  refine R_cH (k := k) (as := [.ref 0, .int (σ.1 3000 (a + 1)), .ref 132]) rfl rfl iv_L_head hk (by decide) rfl rfl rfl rfl (Nat.le_of_ble_eq_true rfl) (fun σ1 q => ?_)
  obtain ⟨q1, b, d2, T2, hout, hM⟩ := q
  rw [← lw_iS q1] at hM
  have hs1 : σ1.1 3001 0 = nI L := (lw_iN q1).trans hs
  refine R_istore rfl (by decide) ?_
  refine R_aload_n rfl rfl ?_
  refine R_aload_n rfl rfl ?_
  refine R_iload rfl rfl ?_
  refine R_iconst (v := 1) rfl rfl ?_
  refine R_iaddN (x := a) (y := 1) rfl ?_
  refine R_sld (L := L) (j := a + 1) rfl hs1 hL rfl (by omega) ?_
  refine R_cV (as := [.int (σ1.1 3000 (a + 1))]) rfl rfl iv_M_head hM (by decide) rfl rfl tk_120 (by decide) rfl rfl (Nat.le_of_ble_eq_true rfl) (fun σ2 r => ?_)
  obtain ⟨r1, M3, rk⟩ := r
  refine R_istore rfl (by decide) ?_
  refine R_aload_n rfl rfl ?_
  refine R_cV (as := []) rfl rfl iv_M_thrown sp_thrown (by decide) rfl rfl tk_120 (by decide) rfl rfl (Nat.le_of_ble_eq_true rfl) (fun _ e => ?_)
  obtain rfl := e.symm
  refine R_iload rfl rfl ?_
  refine R_icmp_eq rfl rfl (fun _ => ?_) (fun hz => absurd rk hz)
  refine R_iload rfl rfl ?_
  refine R_if_ne rfl rfl (fun hk0 => ?_) (fun hk0 => ?_)
  · refine R_goto rfl rfl ?_
    exact nx σ2 d2 _ _ _ (T2.mo r1) M3 ((mo_iN r1).trans hs1)
  refine R_aload_n rfl rfl ?_
  refine R_iconst (v := 0) rfl rfl ?_
  refine R_xL (j := 0) rfl tk_132 rfl (by decide) (by decide) ?_
  have hv : σ2.2.1 132 0 = _ := (mo_out r1).trans (hout hk0)
  refine R_iload rfl rfl ?_
  refine R_i2l rfl ?_
  refine R_l_eq rfl rfl rfl (fun _ => ?_) (fun hz => absurd hv hz)
  refine R_goto rfl rfl ?_
  exact nx σ2 d2 _ _ _ (T2.mo r1) M3 ((mo_iN r1).trans hs1)
theorem lc_38 {L a k : Nat} {σ : am_G} {d : Dk} {o5 o6 o7 : Option Value} (hL : L ≤ 3072) (ha : a + 6 ≤ L) (T : TC σ d) (M : TM σ d) (hs : σ.1 3001 0 = nI L) (nx : lwN L a k) : am_R am_TX 20 (1 + k) c_law 2518 (lwL a o5 o6 o7) [] (mm σ) lwQ := by
  show am_R _ _ _ _ 2518 [some (.ref 3000), some (.ref 0), some (.ref 120), some (.ref 132), some (.int (nI a)), o5, o6, o7] [] _ _
  obtain ⟨kk, hk⟩ := op_holds T M (σ.1 3000 (a + 1))
  refine R_aload_n rfl rfl ?_
  refine R_aload_n rfl rfl ?_
  refine R_iload rfl rfl ?_
  refine R_iconst (v := 1) rfl rfl ?_
  refine R_iaddN (x := a) (y := 1) rfl ?_
  refine R_sld (L := L) (j := a + 1) rfl hs hL rfl (by omega) ?_
  refine R_aload_n rfl rfl ?_
  refine R_cH (k := k) (as := [.ref 0, .int (σ.1 3000 (a + 1)), .ref 132]) rfl rfl iv_L_holds hk (by decide) rfl rfl rfl rfl (Nat.le_of_ble_eq_true rfl) (fun σ1 q => ?_)
  obtain ⟨q1, b, d2, T2, hout, hM⟩ := q
  rw [← lw_iS q1] at hM
  have hs1 : σ1.1 3001 0 = nI L := (lw_iN q1).trans hs
  refine R_istore rfl (by decide) ?_
  refine R_aload_n rfl rfl ?_
  refine R_aload_n rfl rfl ?_
  refine R_iload rfl rfl ?_
  refine R_iconst (v := 1) rfl rfl ?_
  refine R_iaddN (x := a) (y := 1) rfl ?_
  refine R_sld (L := L) (j := a + 1) rfl hs1 hL rfl (by omega) ?_
  refine R_cV (as := [.int (σ1.1 3000 (a + 1))]) rfl rfl iv_M_holds hM (by decide) rfl rfl tk_120 (by decide) rfl rfl (Nat.le_of_ble_eq_true rfl) (fun σ2 r => ?_)
  obtain ⟨r1, M3, rk⟩ := r
  refine R_istore rfl (by decide) ?_
  refine R_aload_n rfl rfl ?_
  refine R_cV (as := []) rfl rfl iv_M_thrown sp_thrown (by decide) rfl rfl tk_120 (by decide) rfl rfl (Nat.le_of_ble_eq_true rfl) (fun _ e => ?_)
  obtain rfl := e.symm
  refine R_iload rfl rfl ?_
  refine R_icmp_eq rfl rfl (fun _ => ?_) (fun hz => absurd rk hz)
  refine R_iload rfl rfl ?_
  refine R_if_ne rfl rfl (fun hk0 => ?_) (fun hk0 => ?_)
  · refine R_goto rfl rfl ?_
    exact nx σ2 d2 _ _ _ (T2.mo r1) M3 ((mo_iN r1).trans hs1)
  refine R_aload_n rfl rfl ?_
  refine R_iconst (v := 0) rfl rfl ?_
  refine R_xL (j := 0) rfl tk_132 rfl (by decide) (by decide) ?_
  have hv : σ2.2.1 132 0 = _ := (mo_out r1).trans (hout hk0)
  refine R_iload rfl rfl ?_
  refine R_if_eq rfl rfl (fun hb => ?_) (fun hb => ?_)
  · refine R_lconst (v := 0) rfl rfl ?_
    refine R_l_eq rfl rfl rfl (fun _ => ?_) (fun hz => absurd (hv.trans (if_pos hb)) hz)
    refine R_goto rfl rfl ?_
    exact nx σ2 d2 _ _ _ (T2.mo r1) M3 ((mo_iN r1).trans hs1)
  · refine R_lconst (v := 1) rfl rfl ?_
    refine R_goto rfl rfl ?_
    refine R_l_eq rfl rfl rfl (fun _ => ?_) (fun hz => absurd (hv.trans (if_neg hb)) hz)
    refine R_goto rfl rfl ?_
    exact nx σ2 d2 _ _ _ (T2.mo r1) M3 ((mo_iN r1).trans hs1)
theorem lc_39 {L a k : Nat} {σ : am_G} {d : Dk} {o5 o6 o7 : Option Value} (hL : L ≤ 3072) (ha : a + 6 ≤ L) (T : TC σ d) (M : TM σ d) (hs : σ.1 3001 0 = nI L) (nx : lwN L a k) : am_R am_TX 20 (1 + k) c_law 2581 (lwL a o5 o6 o7) [] (mm σ) lwQ := by
  show am_R _ _ _ _ 2581 [some (.ref 3000), some (.ref 0), some (.ref 120), some (.ref 132), some (.int (nI a)), o5, o6, o7] [] _ _
  obtain ⟨b, hD⟩ := op_flaw T M
  refine R_aload_n rfl rfl ?_
  refine R_cV (as := []) rfl rfl iv_D_flaw hD (by decide) rfl rfl tk_0 (by decide) rfl rfl (Nat.le_of_ble_eq_true rfl) (fun σ1 q => ?_)
  obtain ⟨q1, d2, T2, hM⟩ := q
  refine R_aload_n rfl rfl ?_
  refine R_cV (as := []) rfl rfl iv_M_flaw hM (by decide) rfl rfl tk_120 (by decide) rfl rfl (Nat.le_of_ble_eq_true rfl) (fun σ2 r => ?_)
  obtain ⟨r1, M3⟩ := r
  refine R_icmp_eq rfl rfl (fun _ => ?_) (fun hz => absurd rfl hz)
  exact (nx σ2 d2 _ _ _ (T2.mo r1) M3 ((mo_iN r1).trans ((lw_iN q1).trans hs))).room (Nat.le_refl _) (Nat.le_add_left _ _)
theorem lc_40 {L a k : Nat} {σ : am_G} {d : Dk} {o5 o6 o7 : Option Value} (hL : L ≤ 3072) (ha : a + 6 ≤ L) (T : TC σ d) (M : TM σ d) (hs : σ.1 3001 0 = nI L) (nx : lwN L a k) : am_R am_TX 20 (1 + k) c_law 2594 (lwL a o5 o6 o7) [] (mm σ) lwQ := by
  show am_R _ _ _ _ 2594 [some (.ref 3000), some (.ref 0), some (.ref 120), some (.ref 132), some (.int (nI a)), o5, o6, o7] [] _ _
  obtain ⟨kk, hk⟩ := op_setEntry T M (σ.1 3000 (a + 1)) (σ.1 3000 (a + 2)) (σ.1 3000 (a + 3))
  refine R_aload_n rfl rfl ?_
  refine R_aload_n rfl rfl ?_
  refine R_iload rfl rfl ?_
  refine R_iconst (v := 1) rfl rfl ?_
  refine R_iaddN (x := a) (y := 1) rfl ?_
  refine R_sld (L := L) (j := a + 1) rfl hs hL rfl (by omega) ?_
  refine R_aload_n rfl rfl ?_
  refine R_iload rfl rfl ?_
  refine R_iconst (v := 2) rfl rfl ?_
  refine R_iaddN (x := a) (y := 2) rfl ?_
  refine R_sld (L := L) (j := a + 2) rfl hs hL rfl (by omega) ?_
  refine R_aload_n rfl rfl ?_
  refine R_iload rfl rfl ?_
  refine R_iconst (v := 3) rfl rfl ?_
  refine R_iaddN (x := a) (y := 3) rfl ?_
  refine R_sld (L := L) (j := a + 3) rfl hs hL rfl (by omega) ?_
  refine R_aload_n rfl rfl ?_
  refine R_cH (k := k) (as := [.ref 0, .int (σ.1 3000 (a + 1)), .int (σ.1 3000 (a + 2)), .int (σ.1 3000 (a + 3)), .ref 132]) rfl rfl iv_L_setEntry hk (by decide) rfl rfl rfl rfl (Nat.le_of_ble_eq_true rfl) (fun σ1 q => ?_)
  obtain ⟨q1, b, d2, T2, hout, hM⟩ := q
  rw [← lw_iS q1] at hM
  have hs1 : σ1.1 3001 0 = nI L := (lw_iN q1).trans hs
  refine R_istore rfl (by decide) ?_
  refine R_aload_n rfl rfl ?_
  refine R_aload_n rfl rfl ?_
  refine R_iload rfl rfl ?_
  refine R_iconst (v := 1) rfl rfl ?_
  refine R_iaddN (x := a) (y := 1) rfl ?_
  refine R_sld (L := L) (j := a + 1) rfl hs1 hL rfl (by omega) ?_
  refine R_aload_n rfl rfl ?_
  refine R_iload rfl rfl ?_
  refine R_iconst (v := 2) rfl rfl ?_
  refine R_iaddN (x := a) (y := 2) rfl ?_
  refine R_sld (L := L) (j := a + 2) rfl hs1 hL rfl (by omega) ?_
  refine R_aload_n rfl rfl ?_
  refine R_iload rfl rfl ?_
  refine R_iconst (v := 3) rfl rfl ?_
  refine R_iaddN (x := a) (y := 3) rfl ?_
  refine R_sld (L := L) (j := a + 3) rfl hs1 hL rfl (by omega) ?_
  refine R_cV (as := [.int (σ1.1 3000 (a + 1)), .int (σ1.1 3000 (a + 2)), .int (σ1.1 3000 (a + 3))]) rfl rfl iv_M_setEntry hM (by decide) rfl rfl tk_120 (by decide) rfl rfl (Nat.le_of_ble_eq_true rfl) (fun σ2 r => ?_)
  obtain ⟨r1, M3, rk⟩ := r
  refine R_istore rfl (by decide) ?_
  refine R_aload_n rfl rfl ?_
  refine R_cV (as := []) rfl rfl iv_M_thrown sp_thrown (by decide) rfl rfl tk_120 (by decide) rfl rfl (Nat.le_of_ble_eq_true rfl) (fun _ e => ?_)
  obtain rfl := e.symm
  refine R_iload rfl rfl ?_
  refine R_icmp_eq rfl rfl (fun _ => ?_) (fun hz => absurd rk hz)
  refine R_iload rfl rfl ?_
  refine R_if_ne rfl rfl (fun hk0 => ?_) (fun hk0 => ?_)
  · refine R_goto rfl rfl ?_
    exact nx σ2 d2 _ _ _ (T2.mo r1) M3 ((mo_iN r1).trans hs1)
  refine R_aload_n rfl rfl ?_
  refine R_iconst (v := 0) rfl rfl ?_
  refine R_xL (j := 0) rfl tk_132 rfl (by decide) (by decide) ?_
  have hv : σ2.2.1 132 0 = _ := (mo_out r1).trans (hout hk0)
  refine R_iload rfl rfl ?_
  refine R_i2l rfl ?_
  refine R_l_eq rfl rfl rfl (fun _ => ?_) (fun hz => absurd hv hz)
  refine R_goto rfl rfl ?_
  exact nx σ2 d2 _ _ _ (T2.mo r1) M3 ((mo_iN r1).trans hs1)
theorem lc_41 {L a k : Nat} {σ : am_G} {d : Dk} {o5 o6 o7 : Option Value} (hL : L ≤ 3072) (ha : a + 6 ≤ L) (T : TC σ d) (M : TM σ d) (hs : σ.1 3001 0 = nI L) (nx : lwN L a k) : am_R am_TX 20 (1 + k) c_law 2674 (lwL a o5 o6 o7) [] (mm σ) lwQ := by
  show am_R _ _ _ _ 2674 [some (.ref 3000), some (.ref 0), some (.ref 120), some (.ref 132), some (.int (nI a)), o5, o6, o7] [] _ _
  obtain ⟨kk, hk⟩ := op_swapRows T M (σ.1 3000 (a + 1)) (σ.1 3000 (a + 2))
  refine R_aload_n rfl rfl ?_
  refine R_aload_n rfl rfl ?_
  refine R_iload rfl rfl ?_
  refine R_iconst (v := 1) rfl rfl ?_
  refine R_iaddN (x := a) (y := 1) rfl ?_
  refine R_sld (L := L) (j := a + 1) rfl hs hL rfl (by omega) ?_
  refine R_aload_n rfl rfl ?_
  refine R_iload rfl rfl ?_
  refine R_iconst (v := 2) rfl rfl ?_
  refine R_iaddN (x := a) (y := 2) rfl ?_
  refine R_sld (L := L) (j := a + 2) rfl hs hL rfl (by omega) ?_
  refine R_aload_n rfl rfl ?_
  refine R_cH (k := k) (as := [.ref 0, .int (σ.1 3000 (a + 1)), .int (σ.1 3000 (a + 2)), .ref 132]) rfl rfl iv_L_swapRows hk (by decide) rfl rfl rfl rfl (Nat.le_of_ble_eq_true rfl) (fun σ1 q => ?_)
  obtain ⟨q1, b, d2, T2, hout, hM⟩ := q
  rw [← lw_iS q1] at hM
  have hs1 : σ1.1 3001 0 = nI L := (lw_iN q1).trans hs
  refine R_istore rfl (by decide) ?_
  refine R_aload_n rfl rfl ?_
  refine R_aload_n rfl rfl ?_
  refine R_iload rfl rfl ?_
  refine R_iconst (v := 1) rfl rfl ?_
  refine R_iaddN (x := a) (y := 1) rfl ?_
  refine R_sld (L := L) (j := a + 1) rfl hs1 hL rfl (by omega) ?_
  refine R_aload_n rfl rfl ?_
  refine R_iload rfl rfl ?_
  refine R_iconst (v := 2) rfl rfl ?_
  refine R_iaddN (x := a) (y := 2) rfl ?_
  refine R_sld (L := L) (j := a + 2) rfl hs1 hL rfl (by omega) ?_
  refine R_cV (as := [.int (σ1.1 3000 (a + 1)), .int (σ1.1 3000 (a + 2))]) rfl rfl iv_M_swapRows hM (by decide) rfl rfl tk_120 (by decide) rfl rfl (Nat.le_of_ble_eq_true rfl) (fun σ2 r => ?_)
  obtain ⟨r1, M3, rk⟩ := r
  refine R_istore rfl (by decide) ?_
  refine R_aload_n rfl rfl ?_
  refine R_cV (as := []) rfl rfl iv_M_thrown sp_thrown (by decide) rfl rfl tk_120 (by decide) rfl rfl (Nat.le_of_ble_eq_true rfl) (fun _ e => ?_)
  obtain rfl := e.symm
  refine R_iload rfl rfl ?_
  refine R_icmp_eq rfl rfl (fun _ => ?_) (fun hz => absurd rk hz)
  refine R_iload rfl rfl ?_
  refine R_if_ne rfl rfl (fun hk0 => ?_) (fun hk0 => ?_)
  · refine R_goto rfl rfl ?_
    exact nx σ2 d2 _ _ _ (T2.mo r1) M3 ((mo_iN r1).trans hs1)
  refine R_aload_n rfl rfl ?_
  refine R_iconst (v := 0) rfl rfl ?_
  refine R_xL (j := 0) rfl tk_132 rfl (by decide) (by decide) ?_
  have hv : σ2.2.1 132 0 = _ := (mo_out r1).trans (hout hk0)
  refine R_iload rfl rfl ?_
  refine R_i2l rfl ?_
  refine R_l_eq rfl rfl rfl (fun _ => ?_) (fun hz => absurd hv hz)
  refine R_goto rfl rfl ?_
  exact nx σ2 d2 _ _ _ (T2.mo r1) M3 ((mo_iN r1).trans hs1)
theorem lc_42 {L a k : Nat} {σ : am_G} {d : Dk} {o5 o6 o7 : Option Value} (hL : L ≤ 3072) (ha : a + 6 ≤ L) (T : TC σ d) (M : TM σ d) (hs : σ.1 3001 0 = nI L) (nx : lwN L a k) : am_R am_TX 20 (1 + k) c_law 2742 (lwL a o5 o6 o7) [] (mm σ) lwQ := by
  show am_R _ _ _ _ 2742 [some (.ref 3000), some (.ref 0), some (.ref 120), some (.ref 132), some (.int (nI a)), o5, o6, o7] [] _ _
  obtain ⟨kk, hk⟩ := op_swapColumns T M (σ.1 3000 (a + 1)) (σ.1 3000 (a + 2))
  refine R_aload_n rfl rfl ?_
  refine R_aload_n rfl rfl ?_
  refine R_iload rfl rfl ?_
  refine R_iconst (v := 1) rfl rfl ?_
  refine R_iaddN (x := a) (y := 1) rfl ?_
  refine R_sld (L := L) (j := a + 1) rfl hs hL rfl (by omega) ?_
  refine R_aload_n rfl rfl ?_
  refine R_iload rfl rfl ?_
  refine R_iconst (v := 2) rfl rfl ?_
  refine R_iaddN (x := a) (y := 2) rfl ?_
  refine R_sld (L := L) (j := a + 2) rfl hs hL rfl (by omega) ?_
  refine R_aload_n rfl rfl ?_
  refine R_cH (k := k) (as := [.ref 0, .int (σ.1 3000 (a + 1)), .int (σ.1 3000 (a + 2)), .ref 132]) rfl rfl iv_L_swapColumns hk (by decide) rfl rfl rfl rfl (Nat.le_of_ble_eq_true rfl) (fun σ1 q => ?_)
  obtain ⟨q1, b, d2, T2, hout, hM⟩ := q
  rw [← lw_iS q1] at hM
  have hs1 : σ1.1 3001 0 = nI L := (lw_iN q1).trans hs
  refine R_istore rfl (by decide) ?_
  refine R_aload_n rfl rfl ?_
  refine R_aload_n rfl rfl ?_
  refine R_iload rfl rfl ?_
  refine R_iconst (v := 1) rfl rfl ?_
  refine R_iaddN (x := a) (y := 1) rfl ?_
  refine R_sld (L := L) (j := a + 1) rfl hs1 hL rfl (by omega) ?_
  refine R_aload_n rfl rfl ?_
  refine R_iload rfl rfl ?_
  refine R_iconst (v := 2) rfl rfl ?_
  refine R_iaddN (x := a) (y := 2) rfl ?_
  refine R_sld (L := L) (j := a + 2) rfl hs1 hL rfl (by omega) ?_
  refine R_cV (as := [.int (σ1.1 3000 (a + 1)), .int (σ1.1 3000 (a + 2))]) rfl rfl iv_M_swapColumns hM (by decide) rfl rfl tk_120 (by decide) rfl rfl (Nat.le_of_ble_eq_true rfl) (fun σ2 r => ?_)
  obtain ⟨r1, M3, rk⟩ := r
  refine R_istore rfl (by decide) ?_
  refine R_aload_n rfl rfl ?_
  refine R_cV (as := []) rfl rfl iv_M_thrown sp_thrown (by decide) rfl rfl tk_120 (by decide) rfl rfl (Nat.le_of_ble_eq_true rfl) (fun _ e => ?_)
  obtain rfl := e.symm
  refine R_iload rfl rfl ?_
  refine R_icmp_eq rfl rfl (fun _ => ?_) (fun hz => absurd rk hz)
  refine R_iload rfl rfl ?_
  refine R_if_ne rfl rfl (fun hk0 => ?_) (fun hk0 => ?_)
  · refine R_goto rfl rfl ?_
    exact nx σ2 d2 _ _ _ (T2.mo r1) M3 ((mo_iN r1).trans hs1)
  refine R_aload_n rfl rfl ?_
  refine R_iconst (v := 0) rfl rfl ?_
  refine R_xL (j := 0) rfl tk_132 rfl (by decide) (by decide) ?_
  have hv : σ2.2.1 132 0 = _ := (mo_out r1).trans (hout hk0)
  refine R_iload rfl rfl ?_
  refine R_i2l rfl ?_
  refine R_l_eq rfl rfl rfl (fun _ => ?_) (fun hz => absurd hv hz)
  refine R_goto rfl rfl ?_
  exact nx σ2 d2 _ _ _ (T2.mo r1) M3 ((mo_iN r1).trans hs1)
theorem lc_43 {L a k : Nat} {σ : am_G} {d : Dk} {o5 o6 o7 : Option Value} (hL : L ≤ 3072) (ha : a + 6 ≤ L) (T : TC σ d) (M : TM σ d) (hs : σ.1 3001 0 = nI L) (nx : lwN L a k) : am_R am_TX 20 (1 + k) c_law 2810 (lwL a o5 o6 o7) [] (mm σ) lwQ := by
  show am_R _ _ _ _ 2810 [some (.ref 3000), some (.ref 0), some (.ref 120), some (.ref 132), some (.int (nI a)), o5, o6, o7] [] _ _
  obtain ⟨kk, hk⟩ := op_addRow T M (σ.1 3000 (a + 1)) (σ.1 3000 (a + 2)) (σ.1 3000 (a + 3))
  refine R_aload_n rfl rfl ?_
  refine R_aload_n rfl rfl ?_
  refine R_iload rfl rfl ?_
  refine R_iconst (v := 1) rfl rfl ?_
  refine R_iaddN (x := a) (y := 1) rfl ?_
  refine R_sld (L := L) (j := a + 1) rfl hs hL rfl (by omega) ?_
  refine R_aload_n rfl rfl ?_
  refine R_iload rfl rfl ?_
  refine R_iconst (v := 2) rfl rfl ?_
  refine R_iaddN (x := a) (y := 2) rfl ?_
  refine R_sld (L := L) (j := a + 2) rfl hs hL rfl (by omega) ?_
  refine R_aload_n rfl rfl ?_
  refine R_iload rfl rfl ?_
  refine R_iconst (v := 3) rfl rfl ?_
  refine R_iaddN (x := a) (y := 3) rfl ?_
  refine R_sld (L := L) (j := a + 3) rfl hs hL rfl (by omega) ?_
  refine R_aload_n rfl rfl ?_
  refine R_cH (k := k) (as := [.ref 0, .int (σ.1 3000 (a + 1)), .int (σ.1 3000 (a + 2)), .int (σ.1 3000 (a + 3)), .ref 132]) rfl rfl iv_L_addRow hk (by decide) rfl rfl rfl rfl (Nat.le_of_ble_eq_true rfl) (fun σ1 q => ?_)
  obtain ⟨q1, b, d2, T2, hout, hM⟩ := q
  rw [← lw_iS q1] at hM
  have hs1 : σ1.1 3001 0 = nI L := (lw_iN q1).trans hs
  refine R_istore rfl (by decide) ?_
  refine R_aload_n rfl rfl ?_
  refine R_aload_n rfl rfl ?_
  refine R_iload rfl rfl ?_
  refine R_iconst (v := 1) rfl rfl ?_
  refine R_iaddN (x := a) (y := 1) rfl ?_
  refine R_sld (L := L) (j := a + 1) rfl hs1 hL rfl (by omega) ?_
  refine R_aload_n rfl rfl ?_
  refine R_iload rfl rfl ?_
  refine R_iconst (v := 2) rfl rfl ?_
  refine R_iaddN (x := a) (y := 2) rfl ?_
  refine R_sld (L := L) (j := a + 2) rfl hs1 hL rfl (by omega) ?_
  refine R_aload_n rfl rfl ?_
  refine R_iload rfl rfl ?_
  refine R_iconst (v := 3) rfl rfl ?_
  refine R_iaddN (x := a) (y := 3) rfl ?_
  refine R_sld (L := L) (j := a + 3) rfl hs1 hL rfl (by omega) ?_
  refine R_cV (as := [.int (σ1.1 3000 (a + 1)), .int (σ1.1 3000 (a + 2)), .int (σ1.1 3000 (a + 3))]) rfl rfl iv_M_addRow hM (by decide) rfl rfl tk_120 (by decide) rfl rfl (Nat.le_of_ble_eq_true rfl) (fun σ2 r => ?_)
  obtain ⟨r1, M3, rk⟩ := r
  refine R_istore rfl (by decide) ?_
  refine R_aload_n rfl rfl ?_
  refine R_cV (as := []) rfl rfl iv_M_thrown sp_thrown (by decide) rfl rfl tk_120 (by decide) rfl rfl (Nat.le_of_ble_eq_true rfl) (fun _ e => ?_)
  obtain rfl := e.symm
  refine R_iload rfl rfl ?_
  refine R_icmp_eq rfl rfl (fun _ => ?_) (fun hz => absurd rk hz)
  refine R_iload rfl rfl ?_
  refine R_if_ne rfl rfl (fun hk0 => ?_) (fun hk0 => ?_)
  · refine R_goto rfl rfl ?_
    exact nx σ2 d2 _ _ _ (T2.mo r1) M3 ((mo_iN r1).trans hs1)
  refine R_aload_n rfl rfl ?_
  refine R_iconst (v := 0) rfl rfl ?_
  refine R_xL (j := 0) rfl tk_132 rfl (by decide) (by decide) ?_
  have hv : σ2.2.1 132 0 = _ := (mo_out r1).trans (hout hk0)
  refine R_iload rfl rfl ?_
  refine R_i2l rfl ?_
  refine R_l_eq rfl rfl rfl (fun _ => ?_) (fun hz => absurd hv hz)
  refine R_goto rfl rfl ?_
  exact nx σ2 d2 _ _ _ (T2.mo r1) M3 ((mo_iN r1).trans hs1)
theorem lc_44 {L a k : Nat} {σ : am_G} {d : Dk} {o5 o6 o7 : Option Value} (hL : L ≤ 3072) (ha : a + 6 ≤ L) (T : TC σ d) (M : TM σ d) (hs : σ.1 3001 0 = nI L) (nx : lwN L a k) : am_R am_TX 20 (1 + k) c_law 2890 (lwL a o5 o6 o7) [] (mm σ) lwQ := by
  show am_R _ _ _ _ 2890 [some (.ref 3000), some (.ref 0), some (.ref 120), some (.ref 132), some (.int (nI a)), o5, o6, o7] [] _ _
  obtain ⟨kk, hk⟩ := op_negateRow T M (σ.1 3000 (a + 1))
  refine R_aload_n rfl rfl ?_
  refine R_aload_n rfl rfl ?_
  refine R_iload rfl rfl ?_
  refine R_iconst (v := 1) rfl rfl ?_
  refine R_iaddN (x := a) (y := 1) rfl ?_
  refine R_sld (L := L) (j := a + 1) rfl hs hL rfl (by omega) ?_
  refine R_aload_n rfl rfl ?_
  refine R_cH (k := k) (as := [.ref 0, .int (σ.1 3000 (a + 1)), .ref 132]) rfl rfl iv_L_negateRow hk (by decide) rfl rfl rfl rfl (Nat.le_of_ble_eq_true rfl) (fun σ1 q => ?_)
  obtain ⟨q1, b, d2, T2, hout, hM⟩ := q
  rw [← lw_iS q1] at hM
  have hs1 : σ1.1 3001 0 = nI L := (lw_iN q1).trans hs
  refine R_istore rfl (by decide) ?_
  refine R_aload_n rfl rfl ?_
  refine R_aload_n rfl rfl ?_
  refine R_iload rfl rfl ?_
  refine R_iconst (v := 1) rfl rfl ?_
  refine R_iaddN (x := a) (y := 1) rfl ?_
  refine R_sld (L := L) (j := a + 1) rfl hs1 hL rfl (by omega) ?_
  refine R_cV (as := [.int (σ1.1 3000 (a + 1))]) rfl rfl iv_M_negateRow hM (by decide) rfl rfl tk_120 (by decide) rfl rfl (Nat.le_of_ble_eq_true rfl) (fun σ2 r => ?_)
  obtain ⟨r1, M3, rk⟩ := r
  refine R_istore rfl (by decide) ?_
  refine R_aload_n rfl rfl ?_
  refine R_cV (as := []) rfl rfl iv_M_thrown sp_thrown (by decide) rfl rfl tk_120 (by decide) rfl rfl (Nat.le_of_ble_eq_true rfl) (fun _ e => ?_)
  obtain rfl := e.symm
  refine R_iload rfl rfl ?_
  refine R_icmp_eq rfl rfl (fun _ => ?_) (fun hz => absurd rk hz)
  refine R_iload rfl rfl ?_
  refine R_if_ne rfl rfl (fun hk0 => ?_) (fun hk0 => ?_)
  · refine R_goto rfl rfl ?_
    exact nx σ2 d2 _ _ _ (T2.mo r1) M3 ((mo_iN r1).trans hs1)
  refine R_aload_n rfl rfl ?_
  refine R_iconst (v := 0) rfl rfl ?_
  refine R_xL (j := 0) rfl tk_132 rfl (by decide) (by decide) ?_
  have hv : σ2.2.1 132 0 = _ := (mo_out r1).trans (hout hk0)
  refine R_iload rfl rfl ?_
  refine R_i2l rfl ?_
  refine R_l_eq rfl rfl rfl (fun _ => ?_) (fun hz => absurd hv hz)
  refine R_goto rfl rfl ?_
  exact nx σ2 d2 _ _ _ (T2.mo r1) M3 ((mo_iN r1).trans hs1)
theorem lc_45 {L a k : Nat} {σ : am_G} {d : Dk} {o5 o6 o7 : Option Value} (hL : L ≤ 3072) (ha : a + 6 ≤ L) (T : TC σ d) (M : TM σ d) (hs : σ.1 3001 0 = nI L) (nx : lwN L a k) : am_R am_TX 20 (1 + k) c_law 2946 (lwL a o5 o6 o7) [] (mm σ) lwQ := by
  show am_R _ _ _ _ 2946 [some (.ref 3000), some (.ref 0), some (.ref 120), some (.ref 132), some (.int (nI a)), o5, o6, o7] [] _ _
  obtain ⟨b, hD⟩ := op_transpose T M
  refine R_aload_n rfl rfl ?_
  refine R_cV (as := []) rfl rfl iv_D_transpose hD (by decide) rfl rfl tk_0 (by decide) rfl rfl (Nat.le_of_ble_eq_true rfl) (fun σ1 q => ?_)
  obtain ⟨q1, d2, T2, hM⟩ := q
  refine R_aload_n rfl rfl ?_
  refine R_cV (as := []) rfl rfl iv_M_transpose hM (by decide) rfl rfl tk_120 (by decide) rfl rfl (Nat.le_of_ble_eq_true rfl) (fun σ2 r => ?_)
  obtain ⟨r1, M3⟩ := r
  refine R_icmp_eq rfl rfl (fun _ => ?_) (fun hz => absurd rfl hz)
  exact (nx σ2 d2 _ _ _ (T2.mo r1) M3 ((mo_iN r1).trans ((lw_iN q1).trans hs))).room (Nat.le_refl _) (Nat.le_add_left _ _)
theorem lc_46 {L a k : Nat} {σ : am_G} {d : Dk} {o5 o6 o7 : Option Value} (hL : L ≤ 3072) (ha : a + 6 ≤ L) (T : TC σ d) (M : TM σ d) (hs : σ.1 3001 0 = nI L) (nx : lwN L a k) : am_R am_TX 20 (1 + k) c_law 2959 (lwL a o5 o6 o7) [] (mm σ) lwQ := by
  show am_R _ _ _ _ 2959 [some (.ref 3000), some (.ref 0), some (.ref 120), some (.ref 132), some (.int (nI a)), o5, o6, o7] [] _ _
  obtain ⟨kk, hk⟩ := op_probe T M (σ.1 3000 (a + 1))
  refine R_aload_n rfl rfl ?_
  refine R_aload_n rfl rfl ?_
  refine R_iload rfl rfl ?_
  refine R_iconst (v := 1) rfl rfl ?_
  refine R_iaddN (x := a) (y := 1) rfl ?_
  refine R_sld (L := L) (j := a + 1) rfl hs hL rfl (by omega) ?_
  refine R_aload_n rfl rfl ?_
  refine R_cH (k := k) (as := [.ref 0, .int (σ.1 3000 (a + 1)), .ref 132]) rfl rfl iv_L_probe hk (by decide) rfl rfl rfl rfl (Nat.le_of_ble_eq_true rfl) (fun σ1 q => ?_)
  obtain ⟨q1, b, d2, T2, hout, hM⟩ := q
  rw [← lw_iS q1] at hM
  have hs1 : σ1.1 3001 0 = nI L := (lw_iN q1).trans hs
  refine R_istore rfl (by decide) ?_
  refine R_aload_n rfl rfl ?_
  refine R_aload_n rfl rfl ?_
  refine R_iload rfl rfl ?_
  refine R_iconst (v := 1) rfl rfl ?_
  refine R_iaddN (x := a) (y := 1) rfl ?_
  refine R_sld (L := L) (j := a + 1) rfl hs1 hL rfl (by omega) ?_
  refine R_cV (as := [.int (σ1.1 3000 (a + 1))]) rfl rfl iv_M_probe hM (by decide) rfl rfl tk_120 (by decide) rfl rfl (Nat.le_of_ble_eq_true rfl) (fun σ2 r => ?_)
  obtain ⟨r1, M3, rk⟩ := r
  refine R_istore rfl (by decide) ?_
  refine R_aload_n rfl rfl ?_
  refine R_cV (as := []) rfl rfl iv_M_thrown sp_thrown (by decide) rfl rfl tk_120 (by decide) rfl rfl (Nat.le_of_ble_eq_true rfl) (fun _ e => ?_)
  obtain rfl := e.symm
  refine R_iload rfl rfl ?_
  refine R_icmp_eq rfl rfl (fun _ => ?_) (fun hz => absurd rk hz)
  refine R_iload rfl rfl ?_
  refine R_if_ne rfl rfl (fun hk0 => ?_) (fun hk0 => ?_)
  · refine R_goto rfl rfl ?_
    exact nx σ2 d2 _ _ _ (T2.mo r1) M3 ((mo_iN r1).trans hs1)
  refine R_aload_n rfl rfl ?_
  refine R_iconst (v := 0) rfl rfl ?_
  refine R_xL (j := 0) rfl tk_132 rfl (by decide) (by decide) ?_
  have hv : σ2.2.1 132 0 = _ := (mo_out r1).trans (hout hk0)
  refine R_iload rfl rfl ?_
  refine R_i2l rfl ?_
  refine R_l_eq rfl rfl rfl (fun _ => ?_) (fun hz => absurd hv hz)
  refine R_goto rfl rfl ?_
  exact nx σ2 d2 _ _ _ (T2.mo r1) M3 ((mo_iN r1).trans hs1)
theorem lc_47 {L a k : Nat} {σ : am_G} {d : Dk} {o5 o6 o7 : Option Value} (hL : L ≤ 3072) (ha : a + 6 ≤ L) (T : TC σ d) (M : TM σ d) (hs : σ.1 3001 0 = nI L) (nx : lwN L a k) : am_R am_TX 20 (1 + k) c_law 3015 (lwL a o5 o6 o7) [] (mm σ) lwQ := by
  show am_R _ _ _ _ 3015 [some (.ref 3000), some (.ref 0), some (.ref 120), some (.ref 132), some (.int (nI a)), o5, o6, o7] [] _ _
  obtain ⟨b, hD⟩ := op_repair T M
  refine R_aload_n rfl rfl ?_
  refine R_cV (as := []) rfl rfl iv_D_repair hD (by decide) rfl rfl tk_0 (by decide) rfl rfl (Nat.le_of_ble_eq_true rfl) (fun σ1 q => ?_)
  obtain ⟨q1, d2, T2, hM⟩ := q
  refine R_aload_n rfl rfl ?_
  refine R_cV (as := []) rfl rfl iv_M_repair hM (by decide) rfl rfl tk_120 (by decide) rfl rfl (Nat.le_of_ble_eq_true rfl) (fun σ2 r => ?_)
  obtain ⟨r1, M3⟩ := r
  refine R_icmp_eq rfl rfl (fun _ => ?_) (fun hz => absurd rfl hz)
  exact (nx σ2 d2 _ _ _ (T2.mo r1) M3 ((mo_iN r1).trans ((lw_iN q1).trans hs))).room (Nat.le_refl _) (Nat.le_add_left _ _)
theorem lc_48 {L a k : Nat} {σ : am_G} {d : Dk} {o5 o6 o7 : Option Value} (hL : L ≤ 3072) (ha : a + 6 ≤ L) (T : TC σ d) (M : TM σ d) (hs : σ.1 3001 0 = nI L) (nx : lwN L a k) : am_R am_TX 20 (1 + k) c_law 3028 (lwL a o5 o6 o7) [] (mm σ) lwQ := by
  show am_R _ _ _ _ 3028 [some (.ref 3000), some (.ref 0), some (.ref 120), some (.ref 132), some (.int (nI a)), o5, o6, o7] [] _ _
  obtain ⟨kk, hk⟩ := op_setVector T M (σ.1 3000 (a + 1)) (σ.1 3000 (a + 2))
  refine R_aload_n rfl rfl ?_
  refine R_aload_n rfl rfl ?_
  refine R_iload rfl rfl ?_
  refine R_iconst (v := 1) rfl rfl ?_
  refine R_iaddN (x := a) (y := 1) rfl ?_
  refine R_sld (L := L) (j := a + 1) rfl hs hL rfl (by omega) ?_
  refine R_aload_n rfl rfl ?_
  refine R_iload rfl rfl ?_
  refine R_iconst (v := 2) rfl rfl ?_
  refine R_iaddN (x := a) (y := 2) rfl ?_
  refine R_sld (L := L) (j := a + 2) rfl hs hL rfl (by omega) ?_
  refine R_aload_n rfl rfl ?_
  refine R_cH (k := k) (as := [.ref 0, .int (σ.1 3000 (a + 1)), .int (σ.1 3000 (a + 2)), .ref 132]) rfl rfl iv_L_setVector hk (by decide) rfl rfl rfl rfl (Nat.le_of_ble_eq_true rfl) (fun σ1 q => ?_)
  obtain ⟨q1, b, d2, T2, hout, hM⟩ := q
  rw [← lw_iS q1] at hM
  have hs1 : σ1.1 3001 0 = nI L := (lw_iN q1).trans hs
  refine R_istore rfl (by decide) ?_
  refine R_aload_n rfl rfl ?_
  refine R_aload_n rfl rfl ?_
  refine R_iload rfl rfl ?_
  refine R_iconst (v := 1) rfl rfl ?_
  refine R_iaddN (x := a) (y := 1) rfl ?_
  refine R_sld (L := L) (j := a + 1) rfl hs1 hL rfl (by omega) ?_
  refine R_aload_n rfl rfl ?_
  refine R_iload rfl rfl ?_
  refine R_iconst (v := 2) rfl rfl ?_
  refine R_iaddN (x := a) (y := 2) rfl ?_
  refine R_sld (L := L) (j := a + 2) rfl hs1 hL rfl (by omega) ?_
  refine R_cV (as := [.int (σ1.1 3000 (a + 1)), .int (σ1.1 3000 (a + 2))]) rfl rfl iv_M_setVector hM (by decide) rfl rfl tk_120 (by decide) rfl rfl (Nat.le_of_ble_eq_true rfl) (fun σ2 r => ?_)
  obtain ⟨r1, M3, rk⟩ := r
  refine R_istore rfl (by decide) ?_
  refine R_aload_n rfl rfl ?_
  refine R_cV (as := []) rfl rfl iv_M_thrown sp_thrown (by decide) rfl rfl tk_120 (by decide) rfl rfl (Nat.le_of_ble_eq_true rfl) (fun _ e => ?_)
  obtain rfl := e.symm
  refine R_iload rfl rfl ?_
  refine R_icmp_eq rfl rfl (fun _ => ?_) (fun hz => absurd rk hz)
  refine R_iload rfl rfl ?_
  refine R_if_ne rfl rfl (fun hk0 => ?_) (fun hk0 => ?_)
  · refine R_goto rfl rfl ?_
    exact nx σ2 d2 _ _ _ (T2.mo r1) M3 ((mo_iN r1).trans hs1)
  refine R_aload_n rfl rfl ?_
  refine R_iconst (v := 0) rfl rfl ?_
  refine R_xL (j := 0) rfl tk_132 rfl (by decide) (by decide) ?_
  have hv : σ2.2.1 132 0 = _ := (mo_out r1).trans (hout hk0)
  refine R_iload rfl rfl ?_
  refine R_i2l rfl ?_
  refine R_l_eq rfl rfl rfl (fun _ => ?_) (fun hz => absurd hv hz)
  refine R_goto rfl rfl ?_
  exact nx σ2 d2 _ _ _ (T2.mo r1) M3 ((mo_iN r1).trans hs1)
theorem lc_49 {L a k : Nat} {σ : am_G} {d : Dk} {o5 o6 o7 : Option Value} (hL : L ≤ 3072) (ha : a + 6 ≤ L) (T : TC σ d) (M : TM σ d) (hs : σ.1 3001 0 = nI L) (nx : lwN L a k) : am_R am_TX 20 (1 + k) c_law 3096 (lwL a o5 o6 o7) [] (mm σ) lwQ := by
  show am_R _ _ _ _ 3096 [some (.ref 3000), some (.ref 0), some (.ref 120), some (.ref 132), some (.int (nI a)), o5, o6, o7] [] _ _
  obtain ⟨kk, hk⟩ := op_claim T M (σ.1 3000 (a + 1)) (σ.1 3000 (a + 2))
  refine R_aload_n rfl rfl ?_
  refine R_aload_n rfl rfl ?_
  refine R_iload rfl rfl ?_
  refine R_iconst (v := 1) rfl rfl ?_
  refine R_iaddN (x := a) (y := 1) rfl ?_
  refine R_sld (L := L) (j := a + 1) rfl hs hL rfl (by omega) ?_
  refine R_aload_n rfl rfl ?_
  refine R_iload rfl rfl ?_
  refine R_iconst (v := 2) rfl rfl ?_
  refine R_iaddN (x := a) (y := 2) rfl ?_
  refine R_sld (L := L) (j := a + 2) rfl hs hL rfl (by omega) ?_
  refine R_aload_n rfl rfl ?_
  refine R_cH (k := k) (as := [.ref 0, .int (σ.1 3000 (a + 1)), .int (σ.1 3000 (a + 2)), .ref 132]) rfl rfl iv_L_claim hk (by decide) rfl rfl rfl rfl (Nat.le_of_ble_eq_true rfl) (fun σ1 q => ?_)
  obtain ⟨q1, b, d2, T2, hout, hM⟩ := q
  rw [← lw_iS q1] at hM
  have hs1 : σ1.1 3001 0 = nI L := (lw_iN q1).trans hs
  refine R_istore rfl (by decide) ?_
  refine R_aload_n rfl rfl ?_
  refine R_aload_n rfl rfl ?_
  refine R_iload rfl rfl ?_
  refine R_iconst (v := 1) rfl rfl ?_
  refine R_iaddN (x := a) (y := 1) rfl ?_
  refine R_sld (L := L) (j := a + 1) rfl hs1 hL rfl (by omega) ?_
  refine R_aload_n rfl rfl ?_
  refine R_iload rfl rfl ?_
  refine R_iconst (v := 2) rfl rfl ?_
  refine R_iaddN (x := a) (y := 2) rfl ?_
  refine R_sld (L := L) (j := a + 2) rfl hs1 hL rfl (by omega) ?_
  refine R_cV (as := [.int (σ1.1 3000 (a + 1)), .int (σ1.1 3000 (a + 2))]) rfl rfl iv_M_claim hM (by decide) rfl rfl tk_120 (by decide) rfl rfl (Nat.le_of_ble_eq_true rfl) (fun σ2 r => ?_)
  obtain ⟨r1, M3, rk⟩ := r
  refine R_istore rfl (by decide) ?_
  refine R_aload_n rfl rfl ?_
  refine R_cV (as := []) rfl rfl iv_M_thrown sp_thrown (by decide) rfl rfl tk_120 (by decide) rfl rfl (Nat.le_of_ble_eq_true rfl) (fun _ e => ?_)
  obtain rfl := e.symm
  refine R_iload rfl rfl ?_
  refine R_icmp_eq rfl rfl (fun _ => ?_) (fun hz => absurd rk hz)
  refine R_iload rfl rfl ?_
  refine R_if_ne rfl rfl (fun hk0 => ?_) (fun hk0 => ?_)
  · refine R_goto rfl rfl ?_
    exact nx σ2 d2 _ _ _ (T2.mo r1) M3 ((mo_iN r1).trans hs1)
  refine R_aload_n rfl rfl ?_
  refine R_iconst (v := 0) rfl rfl ?_
  refine R_xL (j := 0) rfl tk_132 rfl (by decide) (by decide) ?_
  have hv : σ2.2.1 132 0 = _ := (mo_out r1).trans (hout hk0)
  refine R_iload rfl rfl ?_
  refine R_i2l rfl ?_
  refine R_l_eq rfl rfl rfl (fun _ => ?_) (fun hz => absurd hv hz)
  refine R_goto rfl rfl ?_
  exact nx σ2 d2 _ _ _ (T2.mo r1) M3 ((mo_iN r1).trans hs1)
theorem lc_50 {L a k : Nat} {σ : am_G} {d : Dk} {o5 o6 o7 : Option Value} (hL : L ≤ 3072) (ha : a + 6 ≤ L) (T : TC σ d) (M : TM σ d) (hs : σ.1 3001 0 = nI L) (nx : lwN L a k) : am_R am_TX 20 (1 + k) c_law 3164 (lwL a o5 o6 o7) [] (mm σ) lwQ := by
  show am_R _ _ _ _ 3164 [some (.ref 3000), some (.ref 0), some (.ref 120), some (.ref 132), some (.int (nI a)), o5, o6, o7] [] _ _
  obtain ⟨kk, hk⟩ := op_addRelation T M
  refine R_aload_n rfl rfl ?_
  refine R_aload_n rfl rfl ?_
  refine R_cH (k := k) (as := [.ref 0, .ref 132]) rfl rfl iv_L_addRelation hk (by decide) rfl rfl rfl rfl (Nat.le_of_ble_eq_true rfl) (fun σ1 q => ?_)
  obtain ⟨q1, b, d2, T2, hout, hM⟩ := q
  have hs1 : σ1.1 3001 0 = nI L := (lw_iN q1).trans hs
  refine R_istore rfl (by decide) ?_
  refine R_aload_n rfl rfl ?_
  refine R_cV (as := []) rfl rfl iv_M_addRelation hM (by decide) rfl rfl tk_120 (by decide) rfl rfl (Nat.le_of_ble_eq_true rfl) (fun σ2 r => ?_)
  obtain ⟨r1, M3, rk⟩ := r
  refine R_istore rfl (by decide) ?_
  refine R_aload_n rfl rfl ?_
  refine R_cV (as := []) rfl rfl iv_M_thrown sp_thrown (by decide) rfl rfl tk_120 (by decide) rfl rfl (Nat.le_of_ble_eq_true rfl) (fun _ e => ?_)
  obtain rfl := e.symm
  refine R_iload rfl rfl ?_
  refine R_icmp_eq rfl rfl (fun _ => ?_) (fun hz => absurd rk hz)
  refine R_iload rfl rfl ?_
  refine R_if_ne rfl rfl (fun hk0 => ?_) (fun hk0 => ?_)
  · refine R_goto rfl rfl ?_
    exact nx σ2 d2 _ _ _ (T2.mo r1) M3 ((mo_iN r1).trans hs1)
  refine R_aload_n rfl rfl ?_
  refine R_iconst (v := 0) rfl rfl ?_
  refine R_xL (j := 0) rfl tk_132 rfl (by decide) (by decide) ?_
  have hv : σ2.2.1 132 0 = _ := (mo_out r1).trans (hout hk0)
  refine R_iload rfl rfl ?_
  refine R_i2l rfl ?_
  refine R_l_eq rfl rfl rfl (fun _ => ?_) (fun hz => absurd hv hz)
  refine R_goto rfl rfl ?_
  exact nx σ2 d2 _ _ _ (T2.mo r1) M3 ((mo_iN r1).trans hs1)
theorem lc_51 {L a k : Nat} {σ : am_G} {d : Dk} {o5 o6 o7 : Option Value} (hL : L ≤ 3072) (ha : a + 6 ≤ L) (T : TC σ d) (M : TM σ d) (hs : σ.1 3001 0 = nI L) (nx : lwN L a k) : am_R am_TX 20 (1 + k) c_law 3208 (lwL a o5 o6 o7) [] (mm σ) lwQ := by
  show am_R _ _ _ _ 3208 [some (.ref 3000), some (.ref 0), some (.ref 120), some (.ref 132), some (.int (nI a)), o5, o6, o7] [] _ _
  obtain ⟨kk, hk⟩ := op_dropRelation T M (σ.1 3000 (a + 1))
  refine R_aload_n rfl rfl ?_
  refine R_aload_n rfl rfl ?_
  refine R_iload rfl rfl ?_
  refine R_iconst (v := 1) rfl rfl ?_
  refine R_iaddN (x := a) (y := 1) rfl ?_
  refine R_sld (L := L) (j := a + 1) rfl hs hL rfl (by omega) ?_
  refine R_aload_n rfl rfl ?_
  refine R_cH (k := k) (as := [.ref 0, .int (σ.1 3000 (a + 1)), .ref 132]) rfl rfl iv_L_dropRelation hk (by decide) rfl rfl rfl rfl (Nat.le_of_ble_eq_true rfl) (fun σ1 q => ?_)
  obtain ⟨q1, b, d2, T2, hout, hM⟩ := q
  rw [← lw_iS q1] at hM
  have hs1 : σ1.1 3001 0 = nI L := (lw_iN q1).trans hs
  refine R_istore rfl (by decide) ?_
  refine R_aload_n rfl rfl ?_
  refine R_aload_n rfl rfl ?_
  refine R_iload rfl rfl ?_
  refine R_iconst (v := 1) rfl rfl ?_
  refine R_iaddN (x := a) (y := 1) rfl ?_
  refine R_sld (L := L) (j := a + 1) rfl hs1 hL rfl (by omega) ?_
  refine R_cV (as := [.int (σ1.1 3000 (a + 1))]) rfl rfl iv_M_dropRelation hM (by decide) rfl rfl tk_120 (by decide) rfl rfl (Nat.le_of_ble_eq_true rfl) (fun σ2 r => ?_)
  obtain ⟨r1, M3, rk⟩ := r
  refine R_istore rfl (by decide) ?_
  refine R_aload_n rfl rfl ?_
  refine R_cV (as := []) rfl rfl iv_M_thrown sp_thrown (by decide) rfl rfl tk_120 (by decide) rfl rfl (Nat.le_of_ble_eq_true rfl) (fun _ e => ?_)
  obtain rfl := e.symm
  refine R_iload rfl rfl ?_
  refine R_icmp_eq rfl rfl (fun _ => ?_) (fun hz => absurd rk hz)
  refine R_iload rfl rfl ?_
  refine R_if_ne rfl rfl (fun hk0 => ?_) (fun hk0 => ?_)
  · refine R_goto rfl rfl ?_
    exact nx σ2 d2 _ _ _ (T2.mo r1) M3 ((mo_iN r1).trans hs1)
  refine R_aload_n rfl rfl ?_
  refine R_iconst (v := 0) rfl rfl ?_
  refine R_xL (j := 0) rfl tk_132 rfl (by decide) (by decide) ?_
  have hv : σ2.2.1 132 0 = _ := (mo_out r1).trans (hout hk0)
  refine R_iload rfl rfl ?_
  refine R_i2l rfl ?_
  refine R_l_eq rfl rfl rfl (fun _ => ?_) (fun hz => absurd hv hz)
  refine R_goto rfl rfl ?_
  exact nx σ2 d2 _ _ _ (T2.mo r1) M3 ((mo_iN r1).trans hs1)
theorem lc_52 {L a k : Nat} {σ : am_G} {d : Dk} {o5 o6 o7 : Option Value} (hL : L ≤ 3072) (ha : a + 6 ≤ L) (T : TC σ d) (M : TM σ d) (hs : σ.1 3001 0 = nI L) (nx : lwN L a k) : am_R am_TX 20 (1 + k) c_law 3264 (lwL a o5 o6 o7) [] (mm σ) lwQ := by
  show am_R _ _ _ _ 3264 [some (.ref 3000), some (.ref 0), some (.ref 120), some (.ref 132), some (.int (nI a)), o5, o6, o7] [] _ _
  obtain ⟨b, hD⟩ := op_certify T M
  refine R_aload_n rfl rfl ?_
  refine R_cV (as := []) rfl rfl iv_D_certify hD (by decide) rfl rfl tk_0 (by decide) rfl rfl (Nat.le_of_ble_eq_true rfl) (fun σ1 q => ?_)
  obtain ⟨q1, d2, T2, hM⟩ := q
  refine R_aload_n rfl rfl ?_
  refine R_cV (as := []) rfl rfl iv_M_certify hM (by decide) rfl rfl tk_120 (by decide) rfl rfl (Nat.le_of_ble_eq_true rfl) (fun σ2 r => ?_)
  obtain ⟨r1, M3⟩ := r
  refine R_icmp_eq rfl rfl (fun _ => ?_) (fun hz => absurd rfl hz)
  exact (nx σ2 d2 _ _ _ (T2.mo r1) M3 ((mo_iN r1).trans ((lw_iN q1).trans hs))).room (Nat.le_refl _) (Nat.le_add_left _ _)
theorem lc_53 {L a k : Nat} {σ : am_G} {d : Dk} {o5 o6 o7 : Option Value} (hL : L ≤ 3072) (ha : a + 6 ≤ L) (T : TC σ d) (M : TM σ d) (hs : σ.1 3001 0 = nI L) (nx : lwN L a k) : am_R am_TX 20 (1 + k) c_law 3277 (lwL a o5 o6 o7) [] (mm σ) lwQ := by
  show am_R _ _ _ _ 3277 [some (.ref 3000), some (.ref 0), some (.ref 120), some (.ref 132), some (.int (nI a)), o5, o6, o7] [] _ _
  obtain ⟨b, hD⟩ := op_clearCertificate T M
  refine R_aload_n rfl rfl ?_
  refine R_cV (as := []) rfl rfl iv_D_clearCertificate hD (by decide) rfl rfl tk_0 (by decide) rfl rfl (Nat.le_of_ble_eq_true rfl) (fun σ1 q => ?_)
  obtain ⟨q1, d2, T2, hM⟩ := q
  refine R_aload_n rfl rfl ?_
  refine R_cV (as := []) rfl rfl iv_M_clearCertificate hM (by decide) rfl rfl tk_120 (by decide) rfl rfl (Nat.le_of_ble_eq_true rfl) (fun σ2 r => ?_)
  obtain ⟨r1, M3⟩ := r
  refine R_icmp_eq rfl rfl (fun _ => ?_) (fun hz => absurd rfl hz)
  exact (nx σ2 d2 _ _ _ (T2.mo r1) M3 ((mo_iN r1).trans ((lw_iN q1).trans hs))).room (Nat.le_refl _) (Nat.le_add_left _ _)
theorem lc_54 {L a k : Nat} {σ : am_G} {d : Dk} {o5 o6 o7 : Option Value} (hL : L ≤ 3072) (ha : a + 6 ≤ L) (T : TC σ d) (M : TM σ d) (hs : σ.1 3001 0 = nI L) (nx : lwN L a k) : am_R am_TX 20 (1 + k) c_law 3290 (lwL a o5 o6 o7) [] (mm σ) lwQ := by
  show am_R _ _ _ _ 3290 [some (.ref 3000), some (.ref 0), some (.ref 120), some (.ref 132), some (.int (nI a)), o5, o6, o7] [] _ _
  obtain ⟨kk, hk⟩ := op_keep T M (σ.1 3000 (a + 1))
  refine R_aload_n rfl rfl ?_
  refine R_aload_n rfl rfl ?_
  refine R_iload rfl rfl ?_
  refine R_iconst (v := 1) rfl rfl ?_
  refine R_iaddN (x := a) (y := 1) rfl ?_
  refine R_sld (L := L) (j := a + 1) rfl hs hL rfl (by omega) ?_
  refine R_aload_n rfl rfl ?_
  refine R_cH (k := k) (as := [.ref 0, .int (σ.1 3000 (a + 1)), .ref 132]) rfl rfl iv_L_keep hk (by decide) rfl rfl rfl rfl (Nat.le_of_ble_eq_true rfl) (fun σ1 q => ?_)
  obtain ⟨q1, b, d2, T2, hout, hM⟩ := q
  rw [← lw_iS q1] at hM
  have hs1 : σ1.1 3001 0 = nI L := (lw_iN q1).trans hs
  refine R_istore rfl (by decide) ?_
  refine R_aload_n rfl rfl ?_
  refine R_aload_n rfl rfl ?_
  refine R_iload rfl rfl ?_
  refine R_iconst (v := 1) rfl rfl ?_
  refine R_iaddN (x := a) (y := 1) rfl ?_
  refine R_sld (L := L) (j := a + 1) rfl hs1 hL rfl (by omega) ?_
  refine R_cV (as := [.int (σ1.1 3000 (a + 1))]) rfl rfl iv_M_keep hM (by decide) rfl rfl tk_120 (by decide) rfl rfl (Nat.le_of_ble_eq_true rfl) (fun σ2 r => ?_)
  obtain ⟨r1, M3, rk⟩ := r
  refine R_istore rfl (by decide) ?_
  refine R_aload_n rfl rfl ?_
  refine R_cV (as := []) rfl rfl iv_M_thrown sp_thrown (by decide) rfl rfl tk_120 (by decide) rfl rfl (Nat.le_of_ble_eq_true rfl) (fun _ e => ?_)
  obtain rfl := e.symm
  refine R_iload rfl rfl ?_
  refine R_icmp_eq rfl rfl (fun _ => ?_) (fun hz => absurd rk hz)
  refine R_iload rfl rfl ?_
  refine R_if_ne rfl rfl (fun hk0 => ?_) (fun hk0 => ?_)
  · refine R_goto rfl rfl ?_
    exact nx σ2 d2 _ _ _ (T2.mo r1) M3 ((mo_iN r1).trans hs1)
  refine R_aload_n rfl rfl ?_
  refine R_iconst (v := 0) rfl rfl ?_
  refine R_xL (j := 0) rfl tk_132 rfl (by decide) (by decide) ?_
  have hv : σ2.2.1 132 0 = _ := (mo_out r1).trans (hout hk0)
  refine R_iload rfl rfl ?_
  refine R_i2l rfl ?_
  refine R_l_eq rfl rfl rfl (fun _ => ?_) (fun hz => absurd hv hz)
  refine R_goto rfl rfl ?_
  exact nx σ2 d2 _ _ _ (T2.mo r1) M3 ((mo_iN r1).trans hs1)
theorem lc_55 {L a k : Nat} {σ : am_G} {d : Dk} {o5 o6 o7 : Option Value} (hL : L ≤ 3072) (ha : a + 6 ≤ L) (T : TC σ d) (M : TM σ d) (hs : σ.1 3001 0 = nI L) (nx : lwN L a k) : am_R am_TX 20 (1 + k) c_law 3346 (lwL a o5 o6 o7) [] (mm σ) lwQ := by
  show am_R _ _ _ _ 3346 [some (.ref 3000), some (.ref 0), some (.ref 120), some (.ref 132), some (.int (nI a)), o5, o6, o7] [] _ _
  obtain ⟨kk, hk⟩ := op_restore T M (σ.1 3000 (a + 1))
  refine R_aload_n rfl rfl ?_
  refine R_aload_n rfl rfl ?_
  refine R_iload rfl rfl ?_
  refine R_iconst (v := 1) rfl rfl ?_
  refine R_iaddN (x := a) (y := 1) rfl ?_
  refine R_sld (L := L) (j := a + 1) rfl hs hL rfl (by omega) ?_
  refine R_aload_n rfl rfl ?_
  refine R_cH (k := k) (as := [.ref 0, .int (σ.1 3000 (a + 1)), .ref 132]) rfl rfl iv_L_restore hk (by decide) rfl rfl rfl rfl (Nat.le_of_ble_eq_true rfl) (fun σ1 q => ?_)
  obtain ⟨q1, b, d2, T2, hout, hM⟩ := q
  rw [← lw_iS q1] at hM
  have hs1 : σ1.1 3001 0 = nI L := (lw_iN q1).trans hs
  refine R_istore rfl (by decide) ?_
  refine R_aload_n rfl rfl ?_
  refine R_aload_n rfl rfl ?_
  refine R_iload rfl rfl ?_
  refine R_iconst (v := 1) rfl rfl ?_
  refine R_iaddN (x := a) (y := 1) rfl ?_
  refine R_sld (L := L) (j := a + 1) rfl hs1 hL rfl (by omega) ?_
  refine R_cV (as := [.int (σ1.1 3000 (a + 1))]) rfl rfl iv_M_restore hM (by decide) rfl rfl tk_120 (by decide) rfl rfl (Nat.le_of_ble_eq_true rfl) (fun σ2 r => ?_)
  obtain ⟨r1, M3, rk⟩ := r
  refine R_istore rfl (by decide) ?_
  refine R_aload_n rfl rfl ?_
  refine R_cV (as := []) rfl rfl iv_M_thrown sp_thrown (by decide) rfl rfl tk_120 (by decide) rfl rfl (Nat.le_of_ble_eq_true rfl) (fun _ e => ?_)
  obtain rfl := e.symm
  refine R_iload rfl rfl ?_
  refine R_icmp_eq rfl rfl (fun _ => ?_) (fun hz => absurd rk hz)
  refine R_iload rfl rfl ?_
  refine R_if_ne rfl rfl (fun hk0 => ?_) (fun hk0 => ?_)
  · refine R_goto rfl rfl ?_
    exact nx σ2 d2 _ _ _ (T2.mo r1) M3 ((mo_iN r1).trans hs1)
  refine R_aload_n rfl rfl ?_
  refine R_iconst (v := 0) rfl rfl ?_
  refine R_xL (j := 0) rfl tk_132 rfl (by decide) (by decide) ?_
  have hv : σ2.2.1 132 0 = _ := (mo_out r1).trans (hout hk0)
  refine R_iload rfl rfl ?_
  refine R_i2l rfl ?_
  refine R_l_eq rfl rfl rfl (fun _ => ?_) (fun hz => absurd hv hz)
  refine R_goto rfl rfl ?_
  exact nx σ2 d2 _ _ _ (T2.mo r1) M3 ((mo_iN r1).trans hs1)
theorem lc_56 {L a k : Nat} {σ : am_G} {d : Dk} {o5 o6 o7 : Option Value} (hL : L ≤ 3072) (ha : a + 6 ≤ L) (T : TC σ d) (M : TM σ d) (hs : σ.1 3001 0 = nI L) (nx : lwN L a k) : am_R am_TX 20 (1 + k) c_law 3402 (lwL a o5 o6 o7) [] (mm σ) lwQ := by
  show am_R _ _ _ _ 3402 [some (.ref 3000), some (.ref 0), some (.ref 120), some (.ref 132), some (.int (nI a)), o5, o6, o7] [] _ _
  obtain ⟨kk, hk⟩ := op_undo T M
  refine R_aload_n rfl rfl ?_
  refine R_aload_n rfl rfl ?_
  refine R_cH (k := k) (as := [.ref 0, .ref 132]) rfl rfl iv_L_undo hk (by decide) rfl rfl rfl rfl (Nat.le_of_ble_eq_true rfl) (fun σ1 q => ?_)
  obtain ⟨q1, b, d2, T2, hout, hM⟩ := q
  have hs1 : σ1.1 3001 0 = nI L := (lw_iN q1).trans hs
  refine R_istore rfl (by decide) ?_
  refine R_aload_n rfl rfl ?_
  refine R_cV (as := []) rfl rfl iv_M_undo hM (by decide) rfl rfl tk_120 (by decide) rfl rfl (Nat.le_of_ble_eq_true rfl) (fun σ2 r => ?_)
  obtain ⟨r1, M3, rk⟩ := r
  refine R_istore rfl (by decide) ?_
  refine R_aload_n rfl rfl ?_
  refine R_cV (as := []) rfl rfl iv_M_thrown sp_thrown (by decide) rfl rfl tk_120 (by decide) rfl rfl (Nat.le_of_ble_eq_true rfl) (fun _ e => ?_)
  obtain rfl := e.symm
  refine R_iload rfl rfl ?_
  refine R_icmp_eq rfl rfl (fun _ => ?_) (fun hz => absurd rk hz)
  refine R_iload rfl rfl ?_
  refine R_if_ne rfl rfl (fun hk0 => ?_) (fun hk0 => ?_)
  · refine R_goto rfl rfl ?_
    exact nx σ2 d2 _ _ _ (T2.mo r1) M3 ((mo_iN r1).trans hs1)
  refine R_aload_n rfl rfl ?_
  refine R_iconst (v := 0) rfl rfl ?_
  refine R_xL (j := 0) rfl tk_132 rfl (by decide) (by decide) ?_
  have hv : σ2.2.1 132 0 = _ := (mo_out r1).trans (hout hk0)
  refine R_iload rfl rfl ?_
  refine R_i2l rfl ?_
  refine R_l_eq rfl rfl rfl (fun _ => ?_) (fun hz => absurd hv hz)
  refine R_goto rfl rfl ?_
  exact nx σ2 d2 _ _ _ (T2.mo r1) M3 ((mo_iN r1).trans hs1)
theorem lc_57 {L a k : Nat} {σ : am_G} {d : Dk} {o5 o6 o7 : Option Value} (hL : L ≤ 3072) (ha : a + 6 ≤ L) (T : TC σ d) (M : TM σ d) (hs : σ.1 3001 0 = nI L) (nx : lwN L a k) : am_R am_TX 20 (1 + k) c_law 3446 (lwL a o5 o6 o7) [] (mm σ) lwQ := by
  show am_R _ _ _ _ 3446 [some (.ref 3000), some (.ref 0), some (.ref 120), some (.ref 132), some (.int (nI a)), o5, o6, o7] [] _ _
  obtain ⟨b, hD⟩ := op_undoCount T M
  refine R_aload_n rfl rfl ?_
  refine R_cV (as := []) rfl rfl iv_D_undoCount hD (by decide) rfl rfl tk_0 (by decide) rfl rfl (Nat.le_of_ble_eq_true rfl) (fun σ1 q => ?_)
  obtain ⟨q1, d2, T2, hM⟩ := q
  refine R_aload_n rfl rfl ?_
  refine R_cV (as := []) rfl rfl iv_M_undoCount hM (by decide) rfl rfl tk_120 (by decide) rfl rfl (Nat.le_of_ble_eq_true rfl) (fun σ2 r => ?_)
  obtain ⟨r1, M3⟩ := r
  refine R_icmp_eq rfl rfl (fun _ => ?_) (fun hz => absurd rfl hz)
  exact (nx σ2 d2 _ _ _ (T2.mo r1) M3 ((mo_iN r1).trans ((lw_iN q1).trans hs))).room (Nat.le_refl _) (Nat.le_add_left _ _)
theorem lc_58 {L a k : Nat} {σ : am_G} {d : Dk} {o5 o6 o7 : Option Value} (hL : L ≤ 3072) (ha : a + 6 ≤ L) (T : TC σ d) (M : TM σ d) (hs : σ.1 3001 0 = nI L) (nx : lwN L a k) : am_R am_TX 20 (1 + k) c_law 3459 (lwL a o5 o6 o7) [] (mm σ) lwQ := by
  show am_R _ _ _ _ 3459 [some (.ref 3000), some (.ref 0), some (.ref 120), some (.ref 132), some (.int (nI a)), o5, o6, o7] [] _ _
  obtain ⟨b, hD⟩ := op_writeMatrix T M
  refine R_aload_n rfl rfl ?_
  refine R_cV (as := []) rfl rfl iv_D_writeMatrix hD (by decide) rfl rfl tk_0 (by decide) rfl rfl (Nat.le_of_ble_eq_true rfl) (fun σ1 q => ?_)
  obtain ⟨q1, d2, T2, hM⟩ := q
  refine R_aload_n rfl rfl ?_
  refine R_cV (as := []) rfl rfl iv_M_writeMatrix hM (by decide) rfl rfl tk_120 (by decide) rfl rfl (Nat.le_of_ble_eq_true rfl) (fun σ2 r => ?_)
  obtain ⟨r1, M3⟩ := r
  refine R_icmp_eq rfl rfl (fun _ => ?_) (fun hz => absurd rfl hz)
  exact (nx σ2 d2 _ _ _ (T2.mo r1) M3 ((mo_iN r1).trans ((lw_iN q1).trans hs))).room (Nat.le_refl _) (Nat.le_add_left _ _)
theorem lc_59 {L a k : Nat} {σ : am_G} {d : Dk} {o5 o6 o7 : Option Value} (hL : L ≤ 3072) (ha : a + 6 ≤ L) (T : TC σ d) (M : TM σ d) (hs : σ.1 3001 0 = nI L) (nx : lwN L a k) : am_R am_TX 20 (1 + k) c_law 3472 (lwL a o5 o6 o7) [] (mm σ) lwQ := by
  show am_R _ _ _ _ 3472 [some (.ref 3000), some (.ref 0), some (.ref 120), some (.ref 132), some (.int (nI a)), o5, o6, o7] [] _ _
  obtain ⟨kk, hk⟩ := op_writeRelation T M (σ.1 3000 (a + 1))
  refine R_aload_n rfl rfl ?_
  refine R_aload_n rfl rfl ?_
  refine R_iload rfl rfl ?_
  refine R_iconst (v := 1) rfl rfl ?_
  refine R_iaddN (x := a) (y := 1) rfl ?_
  refine R_sld (L := L) (j := a + 1) rfl hs hL rfl (by omega) ?_
  refine R_aload_n rfl rfl ?_
  refine R_cH (k := k) (as := [.ref 0, .int (σ.1 3000 (a + 1)), .ref 132]) rfl rfl iv_L_writeRelation hk (by decide) rfl rfl rfl rfl (Nat.le_of_ble_eq_true rfl) (fun σ1 q => ?_)
  obtain ⟨q1, b, d2, T2, hout, hM⟩ := q
  rw [← lw_iS q1] at hM
  have hs1 : σ1.1 3001 0 = nI L := (lw_iN q1).trans hs
  refine R_istore rfl (by decide) ?_
  refine R_aload_n rfl rfl ?_
  refine R_aload_n rfl rfl ?_
  refine R_iload rfl rfl ?_
  refine R_iconst (v := 1) rfl rfl ?_
  refine R_iaddN (x := a) (y := 1) rfl ?_
  refine R_sld (L := L) (j := a + 1) rfl hs1 hL rfl (by omega) ?_
  refine R_cV (as := [.int (σ1.1 3000 (a + 1))]) rfl rfl iv_M_writeRelation hM (by decide) rfl rfl tk_120 (by decide) rfl rfl (Nat.le_of_ble_eq_true rfl) (fun σ2 r => ?_)
  obtain ⟨r1, M3, rk⟩ := r
  refine R_istore rfl (by decide) ?_
  refine R_aload_n rfl rfl ?_
  refine R_cV (as := []) rfl rfl iv_M_thrown sp_thrown (by decide) rfl rfl tk_120 (by decide) rfl rfl (Nat.le_of_ble_eq_true rfl) (fun _ e => ?_)
  obtain rfl := e.symm
  refine R_iload rfl rfl ?_
  refine R_icmp_eq rfl rfl (fun _ => ?_) (fun hz => absurd rk hz)
  refine R_iload rfl rfl ?_
  refine R_if_ne rfl rfl (fun hk0 => ?_) (fun hk0 => ?_)
  · refine R_goto rfl rfl ?_
    exact nx σ2 d2 _ _ _ (T2.mo r1) M3 ((mo_iN r1).trans hs1)
  refine R_aload_n rfl rfl ?_
  refine R_iconst (v := 0) rfl rfl ?_
  refine R_xL (j := 0) rfl tk_132 rfl (by decide) (by decide) ?_
  have hv : σ2.2.1 132 0 = _ := (mo_out r1).trans (hout hk0)
  refine R_iload rfl rfl ?_
  refine R_i2l rfl ?_
  refine R_l_eq rfl rfl rfl (fun _ => ?_) (fun hz => absurd hv hz)
  refine R_goto rfl rfl ?_
  exact nx σ2 d2 _ _ _ (T2.mo r1) M3 ((mo_iN r1).trans hs1)
theorem lc_60 {L a k : Nat} {σ : am_G} {d : Dk} {o5 o6 o7 : Option Value} (hL : L ≤ 3072) (ha : a + 6 ≤ L) (T : TC σ d) (M : TM σ d) (hs : σ.1 3001 0 = nI L) (nx : lwN L a k) : am_R am_TX 20 (1 + k) c_law 3528 (lwL a o5 o6 o7) [] (mm σ) lwQ := by
  show am_R _ _ _ _ 3528 [some (.ref 3000), some (.ref 0), some (.ref 120), some (.ref 132), some (.int (nI a)), o5, o6, o7] [] _ _
  obtain ⟨b, hD⟩ := op_writeCertificate T M
  refine R_aload_n rfl rfl ?_
  refine R_cV (as := []) rfl rfl iv_D_writeCertificate hD (by decide) rfl rfl tk_0 (by decide) rfl rfl (Nat.le_of_ble_eq_true rfl) (fun σ1 q => ?_)
  obtain ⟨q1, d2, T2, hM⟩ := q
  refine R_aload_n rfl rfl ?_
  refine R_cV (as := []) rfl rfl iv_M_writeCertificate hM (by decide) rfl rfl tk_120 (by decide) rfl rfl (Nat.le_of_ble_eq_true rfl) (fun σ2 r => ?_)
  obtain ⟨r1, M3⟩ := r
  refine R_icmp_eq rfl rfl (fun _ => ?_) (fun hz => absurd rfl hz)
  exact (nx σ2 d2 _ _ _ (T2.mo r1) M3 ((mo_iN r1).trans ((lw_iN q1).trans hs))).room (Nat.le_refl _) (Nat.le_add_left _ _)
theorem lc_61 {L a k : Nat} {σ : am_G} {d : Dk} {o5 o6 o7 : Option Value} (hL : L ≤ 3072) (ha : a + 6 ≤ L) (T : TC σ d) (M : TM σ d) (hs : σ.1 3001 0 = nI L) (nx : lwN L a k) : am_R am_TX 20 (1 + k) c_law 3541 (lwL a o5 o6 o7) [] (mm σ) lwQ := by
  show am_R _ _ _ _ 3541 [some (.ref 3000), some (.ref 0), some (.ref 120), some (.ref 132), some (.int (nI a)), o5, o6, o7] [] _ _
  obtain ⟨kk, hk⟩ := op_writeEchelon T M (σ.1 3000 (a + 1))
  refine R_aload_n rfl rfl ?_
  refine R_aload_n rfl rfl ?_
  refine R_iload rfl rfl ?_
  refine R_iconst (v := 1) rfl rfl ?_
  refine R_iaddN (x := a) (y := 1) rfl ?_
  refine R_sld (L := L) (j := a + 1) rfl hs hL rfl (by omega) ?_
  refine R_aload_n rfl rfl ?_
  refine R_cH (k := k) (as := [.ref 0, .int (σ.1 3000 (a + 1)), .ref 132]) rfl rfl iv_L_writeEchelon hk (by decide) rfl rfl rfl rfl (Nat.le_of_ble_eq_true rfl) (fun σ1 q => ?_)
  obtain ⟨q1, b, d2, T2, hout, hM⟩ := q
  rw [← lw_iS q1] at hM
  have hs1 : σ1.1 3001 0 = nI L := (lw_iN q1).trans hs
  refine R_istore rfl (by decide) ?_
  refine R_aload_n rfl rfl ?_
  refine R_aload_n rfl rfl ?_
  refine R_iload rfl rfl ?_
  refine R_iconst (v := 1) rfl rfl ?_
  refine R_iaddN (x := a) (y := 1) rfl ?_
  refine R_sld (L := L) (j := a + 1) rfl hs1 hL rfl (by omega) ?_
  refine R_cV (as := [.int (σ1.1 3000 (a + 1))]) rfl rfl iv_M_writeEchelon hM (by decide) rfl rfl tk_120 (by decide) rfl rfl (Nat.le_of_ble_eq_true rfl) (fun σ2 r => ?_)
  obtain ⟨r1, M3, rk⟩ := r
  refine R_istore rfl (by decide) ?_
  refine R_aload_n rfl rfl ?_
  refine R_cV (as := []) rfl rfl iv_M_thrown sp_thrown (by decide) rfl rfl tk_120 (by decide) rfl rfl (Nat.le_of_ble_eq_true rfl) (fun _ e => ?_)
  obtain rfl := e.symm
  refine R_iload rfl rfl ?_
  refine R_icmp_eq rfl rfl (fun _ => ?_) (fun hz => absurd rk hz)
  refine R_iload rfl rfl ?_
  refine R_if_ne rfl rfl (fun hk0 => ?_) (fun hk0 => ?_)
  · refine R_goto rfl rfl ?_
    exact nx σ2 d2 _ _ _ (T2.mo r1) M3 ((mo_iN r1).trans hs1)
  refine R_aload_n rfl rfl ?_
  refine R_iconst (v := 0) rfl rfl ?_
  refine R_xL (j := 0) rfl tk_132 rfl (by decide) (by decide) ?_
  have hv : σ2.2.1 132 0 = _ := (mo_out r1).trans (hout hk0)
  refine R_iload rfl rfl ?_
  refine R_i2l rfl ?_
  refine R_l_eq rfl rfl rfl (fun _ => ?_) (fun hz => absurd hv hz)
  refine R_goto rfl rfl ?_
  exact nx σ2 d2 _ _ _ (T2.mo r1) M3 ((mo_iN r1).trans hs1)
theorem lc_62 {L a k : Nat} {σ : am_G} {d : Dk} {o5 o6 o7 : Option Value} (hL : L ≤ 3072) (ha : a + 6 ≤ L) (T : TC σ d) (M : TM σ d) (hs : σ.1 3001 0 = nI L) (nx : lwN L a k) : am_R am_TX 20 (1 + k) c_law 3597 (lwL a o5 o6 o7) [] (mm σ) lwQ := by
  show am_R _ _ _ _ 3597 [some (.ref 3000), some (.ref 0), some (.ref 120), some (.ref 132), some (.int (nI a)), o5, o6, o7] [] _ _
  obtain ⟨kk, hk⟩ := op_writeRanks T M (σ.1 3000 (a + 1))
  refine R_aload_n rfl rfl ?_
  refine R_aload_n rfl rfl ?_
  refine R_iload rfl rfl ?_
  refine R_iconst (v := 1) rfl rfl ?_
  refine R_iaddN (x := a) (y := 1) rfl ?_
  refine R_sld (L := L) (j := a + 1) rfl hs hL rfl (by omega) ?_
  refine R_aload_n rfl rfl ?_
  refine R_cH (k := k) (as := [.ref 0, .int (σ.1 3000 (a + 1)), .ref 132]) rfl rfl iv_L_writeRanks hk (by decide) rfl rfl rfl rfl (Nat.le_of_ble_eq_true rfl) (fun σ1 q => ?_)
  obtain ⟨q1, b, d2, T2, hout, hM⟩ := q
  rw [← lw_iS q1] at hM
  have hs1 : σ1.1 3001 0 = nI L := (lw_iN q1).trans hs
  refine R_istore rfl (by decide) ?_
  refine R_aload_n rfl rfl ?_
  refine R_aload_n rfl rfl ?_
  refine R_iload rfl rfl ?_
  refine R_iconst (v := 1) rfl rfl ?_
  refine R_iaddN (x := a) (y := 1) rfl ?_
  refine R_sld (L := L) (j := a + 1) rfl hs1 hL rfl (by omega) ?_
  refine R_cV (as := [.int (σ1.1 3000 (a + 1))]) rfl rfl iv_M_writeRanks hM (by decide) rfl rfl tk_120 (by decide) rfl rfl (Nat.le_of_ble_eq_true rfl) (fun σ2 r => ?_)
  obtain ⟨r1, M3, rk⟩ := r
  refine R_istore rfl (by decide) ?_
  refine R_aload_n rfl rfl ?_
  refine R_cV (as := []) rfl rfl iv_M_thrown sp_thrown (by decide) rfl rfl tk_120 (by decide) rfl rfl (Nat.le_of_ble_eq_true rfl) (fun _ e => ?_)
  obtain rfl := e.symm
  refine R_iload rfl rfl ?_
  refine R_icmp_eq rfl rfl (fun _ => ?_) (fun hz => absurd rk hz)
  refine R_iload rfl rfl ?_
  refine R_if_ne rfl rfl (fun hk0 => ?_) (fun hk0 => ?_)
  · refine R_goto rfl rfl ?_
    exact nx σ2 d2 _ _ _ (T2.mo r1) M3 ((mo_iN r1).trans hs1)
  refine R_aload_n rfl rfl ?_
  refine R_iconst (v := 0) rfl rfl ?_
  refine R_xL (j := 0) rfl tk_132 rfl (by decide) (by decide) ?_
  have hv : σ2.2.1 132 0 = _ := (mo_out r1).trans (hout hk0)
  refine R_iload rfl rfl ?_
  refine R_i2l rfl ?_
  refine R_l_eq rfl rfl rfl (fun _ => ?_) (fun hz => absurd hv hz)
  refine R_goto rfl rfl ?_
  exact nx σ2 d2 _ _ _ (T2.mo r1) M3 ((mo_iN r1).trans hs1)
theorem lc_63 {L a k : Nat} {σ : am_G} {d : Dk} {o5 o6 o7 : Option Value} (hL : L ≤ 3072) (ha : a + 6 ≤ L) (T : TC σ d) (M : TM σ d) (hs : σ.1 3001 0 = nI L) (nx : lwN L a k) : am_R am_TX 20 (1 + k) c_law 3653 (lwL a o5 o6 o7) [] (mm σ) lwQ := by
  show am_R _ _ _ _ 3653 [some (.ref 3000), some (.ref 0), some (.ref 120), some (.ref 132), some (.int (nI a)), o5, o6, o7] [] _ _
  obtain ⟨kk, hk⟩ := op_outputByte T M (σ.1 3000 (a + 1))
  refine R_aload_n rfl rfl ?_
  refine R_aload_n rfl rfl ?_
  refine R_iload rfl rfl ?_
  refine R_iconst (v := 1) rfl rfl ?_
  refine R_iaddN (x := a) (y := 1) rfl ?_
  refine R_sld (L := L) (j := a + 1) rfl hs hL rfl (by omega) ?_
  refine R_aload_n rfl rfl ?_
  refine R_cH (k := k) (as := [.ref 0, .int (σ.1 3000 (a + 1)), .ref 132]) rfl rfl iv_L_outputByte hk (by decide) rfl rfl rfl rfl (Nat.le_of_ble_eq_true rfl) (fun σ1 q => ?_)
  obtain ⟨q1, b, d2, T2, hout, hM⟩ := q
  rw [← lw_iS q1] at hM
  have hs1 : σ1.1 3001 0 = nI L := (lw_iN q1).trans hs
  refine R_istore rfl (by decide) ?_
  refine R_aload_n rfl rfl ?_
  refine R_aload_n rfl rfl ?_
  refine R_iload rfl rfl ?_
  refine R_iconst (v := 1) rfl rfl ?_
  refine R_iaddN (x := a) (y := 1) rfl ?_
  refine R_sld (L := L) (j := a + 1) rfl hs1 hL rfl (by omega) ?_
  refine R_cV (as := [.int (σ1.1 3000 (a + 1))]) rfl rfl iv_M_outputByte hM (by decide) rfl rfl tk_120 (by decide) rfl rfl (Nat.le_of_ble_eq_true rfl) (fun σ2 r => ?_)
  obtain ⟨r1, M3, rk⟩ := r
  refine R_istore rfl (by decide) ?_
  refine R_aload_n rfl rfl ?_
  refine R_cV (as := []) rfl rfl iv_M_thrown sp_thrown (by decide) rfl rfl tk_120 (by decide) rfl rfl (Nat.le_of_ble_eq_true rfl) (fun _ e => ?_)
  obtain rfl := e.symm
  refine R_iload rfl rfl ?_
  refine R_icmp_eq rfl rfl (fun _ => ?_) (fun hz => absurd rk hz)
  refine R_iload rfl rfl ?_
  refine R_if_ne rfl rfl (fun hk0 => ?_) (fun hk0 => ?_)
  · refine R_goto rfl rfl ?_
    exact nx σ2 d2 _ _ _ (T2.mo r1) M3 ((mo_iN r1).trans hs1)
  refine R_aload_n rfl rfl ?_
  refine R_iconst (v := 0) rfl rfl ?_
  refine R_xL (j := 0) rfl tk_132 rfl (by decide) (by decide) ?_
  have hv : σ2.2.1 132 0 = _ := (mo_out r1).trans (hout hk0)
  refine R_iload rfl rfl ?_
  refine R_i2l rfl ?_
  refine R_l_eq rfl rfl rfl (fun _ => ?_) (fun hz => absurd hv hz)
  refine R_goto rfl rfl ?_
  exact nx σ2 d2 _ _ _ (T2.mo r1) M3 ((mo_iN r1).trans hs1)
theorem lc_sw {j : Nat} (hj : j < 64) {L a k : Nat} {σ : am_G} {d : Dk} {o5 o6 o7 : Option Value} (hL : L ≤ 3072) (ha : a + 6 ≤ L) (T : TC σ d) (M : TM σ d) (hs : σ.1 3001 0 = nI L) (nx : lwN L a k) : am_R am_TX 20 (1 + k) c_law 40 (lwL a o5 o6 o7) [.int (nI j)] (mm σ) lwQ := by
  match j, hj with
  | 0, _ => exact R_tswIn (off := 272) (tgt := 312) rfl (by decide) (by decide) rfl rfl (lc_0 hL ha T M hs nx)
  | 1, _ => exact R_tswIn (off := 376) (tgt := 416) rfl (by decide) (by decide) rfl rfl (lc_1 hL ha T M hs nx)
  | 2, _ => exact R_tswIn (off := 412) (tgt := 452) rfl (by decide) (by decide) rfl rfl (lc_2 hL ha T M hs nx)
  | 3, _ => exact R_tswIn (off := 425) (tgt := 465) rfl (by decide) (by decide) rfl rfl (lc_3 hL ha T M hs nx)
  | 4, _ => exact R_tswIn (off := 438) (tgt := 478) rfl (by decide) (by decide) rfl rfl (lc_4 hL ha T M hs nx)
  | 5, _ => exact R_tswIn (off := 451) (tgt := 491) rfl (by decide) (by decide) rfl rfl (lc_5 hL ha T M hs nx)
  | 6, _ => exact R_tswIn (off := 507) (tgt := 547) rfl (by decide) (by decide) rfl rfl (lc_6 hL ha T M hs nx)
  | 7, _ => exact R_tswIn (off := 563) (tgt := 603) rfl (by decide) (by decide) rfl rfl (lc_7 hL ha T M hs nx)
  | 8, _ => exact R_tswIn (off := 631) (tgt := 671) rfl (by decide) (by decide) rfl rfl (lc_8 hL ha T M hs nx)
  | 9, _ => exact R_tswIn (off := 687) (tgt := 727) rfl (by decide) (by decide) rfl rfl (lc_9 hL ha T M hs nx)
  | 10, _ => exact R_tswIn (off := 767) (tgt := 807) rfl (by decide) (by decide) rfl rfl (lc_10 hL ha T M hs nx)
  | 11, _ => exact R_tswIn (off := 834) (tgt := 874) rfl (by decide) (by decide) rfl rfl (lc_11 hL ha T M hs nx)
  | 12, _ => exact R_tswIn (off := 890) (tgt := 930) rfl (by decide) (by decide) rfl rfl (lc_12 hL ha T M hs nx)
  | 13, _ => exact R_tswIn (off := 946) (tgt := 986) rfl (by decide) (by decide) rfl rfl (lc_13 hL ha T M hs nx)
  | 14, _ => exact R_tswIn (off := 1014) (tgt := 1054) rfl (by decide) (by decide) rfl rfl (lc_14 hL ha T M hs nx)
  | 15, _ => exact R_tswIn (off := 1069) (tgt := 1109) rfl (by decide) (by decide) rfl rfl (lc_15 hL ha T M hs nx)
  | 16, _ => exact R_tswIn (off := 1082) (tgt := 1122) rfl (by decide) (by decide) rfl rfl (lc_16 hL ha T M hs nx)
  | 17, _ => exact R_tswIn (off := 1138) (tgt := 1178) rfl (by decide) (by decide) rfl rfl (lc_17 hL ha T M hs nx)
  | 18, _ => exact R_tswIn (off := 1205) (tgt := 1245) rfl (by decide) (by decide) rfl rfl (lc_18 hL ha T M hs nx)
  | 19, _ => exact R_tswIn (off := 1272) (tgt := 1312) rfl (by decide) (by decide) rfl rfl (lc_19 hL ha T M hs nx)
  | 20, _ => exact R_tswIn (off := 1352) (tgt := 1392) rfl (by decide) (by decide) rfl rfl (lc_20 hL ha T M hs nx)
  | 21, _ => exact R_tswIn (off := 1407) (tgt := 1447) rfl (by decide) (by decide) rfl rfl (lc_21 hL ha T M hs nx)
  | 22, _ => exact R_tswIn (off := 1463) (tgt := 1503) rfl (by decide) (by decide) rfl rfl (lc_22 hL ha T M hs nx)
  | 23, _ => exact R_tswIn (off := 1538) (tgt := 1578) rfl (by decide) (by decide) rfl rfl (lc_23 hL ha T M hs nx)
  | 24, _ => exact R_tswIn (off := 1613) (tgt := 1653) rfl (by decide) (by decide) rfl rfl (lc_24 hL ha T M hs nx)
  | 25, _ => exact R_tswIn (off := 1669) (tgt := 1709) rfl (by decide) (by decide) rfl rfl (lc_25 hL ha T M hs nx)
  | 26, _ => exact R_tswIn (off := 1737) (tgt := 1777) rfl (by decide) (by decide) rfl rfl (lc_26 hL ha T M hs nx)
  | 27, _ => exact R_tswIn (off := 1805) (tgt := 1845) rfl (by decide) (by decide) rfl rfl (lc_27 hL ha T M hs nx)
  | 28, _ => exact R_tswIn (off := 1860) (tgt := 1900) rfl (by decide) (by decide) rfl rfl (lc_28 hL ha T M hs nx)
  | 29, _ => exact R_tswIn (off := 1916) (tgt := 1956) rfl (by decide) (by decide) rfl rfl (lc_29 hL ha T M hs nx)
  | 30, _ => exact R_tswIn (off := 1984) (tgt := 2024) rfl (by decide) (by decide) rfl rfl (lc_30 hL ha T M hs nx)
  | 31, _ => exact R_tswIn (off := 2052) (tgt := 2092) rfl (by decide) (by decide) rfl rfl (lc_31 hL ha T M hs nx)
  | 32, _ => exact R_tswIn (off := 2131) (tgt := 2171) rfl (by decide) (by decide) rfl rfl (lc_32 hL ha T M hs nx)
  | 33, _ => exact R_tswIn (off := 2187) (tgt := 2227) rfl (by decide) (by decide) rfl rfl (lc_33 hL ha T M hs nx)
  | 34, _ => exact R_tswIn (off := 2243) (tgt := 2283) rfl (by decide) (by decide) rfl rfl (lc_34 hL ha T M hs nx)
  | 35, _ => exact R_tswIn (off := 2299) (tgt := 2339) rfl (by decide) (by decide) rfl rfl (lc_35 hL ha T M hs nx)
  | 36, _ => exact R_tswIn (off := 2355) (tgt := 2395) rfl (by decide) (by decide) rfl rfl (lc_36 hL ha T M hs nx)
  | 37, _ => exact R_tswIn (off := 2422) (tgt := 2462) rfl (by decide) (by decide) rfl rfl (lc_37 hL ha T M hs nx)
  | 38, _ => exact R_tswIn (off := 2478) (tgt := 2518) rfl (by decide) (by decide) rfl rfl (lc_38 hL ha T M hs nx)
  | 39, _ => exact R_tswIn (off := 2541) (tgt := 2581) rfl (by decide) (by decide) rfl rfl (lc_39 hL ha T M hs nx)
  | 40, _ => exact R_tswIn (off := 2554) (tgt := 2594) rfl (by decide) (by decide) rfl rfl (lc_40 hL ha T M hs nx)
  | 41, _ => exact R_tswIn (off := 2634) (tgt := 2674) rfl (by decide) (by decide) rfl rfl (lc_41 hL ha T M hs nx)
  | 42, _ => exact R_tswIn (off := 2702) (tgt := 2742) rfl (by decide) (by decide) rfl rfl (lc_42 hL ha T M hs nx)
  | 43, _ => exact R_tswIn (off := 2770) (tgt := 2810) rfl (by decide) (by decide) rfl rfl (lc_43 hL ha T M hs nx)
  | 44, _ => exact R_tswIn (off := 2850) (tgt := 2890) rfl (by decide) (by decide) rfl rfl (lc_44 hL ha T M hs nx)
  | 45, _ => exact R_tswIn (off := 2906) (tgt := 2946) rfl (by decide) (by decide) rfl rfl (lc_45 hL ha T M hs nx)
  | 46, _ => exact R_tswIn (off := 2919) (tgt := 2959) rfl (by decide) (by decide) rfl rfl (lc_46 hL ha T M hs nx)
  | 47, _ => exact R_tswIn (off := 2975) (tgt := 3015) rfl (by decide) (by decide) rfl rfl (lc_47 hL ha T M hs nx)
  | 48, _ => exact R_tswIn (off := 2988) (tgt := 3028) rfl (by decide) (by decide) rfl rfl (lc_48 hL ha T M hs nx)
  | 49, _ => exact R_tswIn (off := 3056) (tgt := 3096) rfl (by decide) (by decide) rfl rfl (lc_49 hL ha T M hs nx)
  | 50, _ => exact R_tswIn (off := 3124) (tgt := 3164) rfl (by decide) (by decide) rfl rfl (lc_50 hL ha T M hs nx)
  | 51, _ => exact R_tswIn (off := 3168) (tgt := 3208) rfl (by decide) (by decide) rfl rfl (lc_51 hL ha T M hs nx)
  | 52, _ => exact R_tswIn (off := 3224) (tgt := 3264) rfl (by decide) (by decide) rfl rfl (lc_52 hL ha T M hs nx)
  | 53, _ => exact R_tswIn (off := 3237) (tgt := 3277) rfl (by decide) (by decide) rfl rfl (lc_53 hL ha T M hs nx)
  | 54, _ => exact R_tswIn (off := 3250) (tgt := 3290) rfl (by decide) (by decide) rfl rfl (lc_54 hL ha T M hs nx)
  | 55, _ => exact R_tswIn (off := 3306) (tgt := 3346) rfl (by decide) (by decide) rfl rfl (lc_55 hL ha T M hs nx)
  | 56, _ => exact R_tswIn (off := 3362) (tgt := 3402) rfl (by decide) (by decide) rfl rfl (lc_56 hL ha T M hs nx)
  | 57, _ => exact R_tswIn (off := 3406) (tgt := 3446) rfl (by decide) (by decide) rfl rfl (lc_57 hL ha T M hs nx)
  | 58, _ => exact R_tswIn (off := 3419) (tgt := 3459) rfl (by decide) (by decide) rfl rfl (lc_58 hL ha T M hs nx)
  | 59, _ => exact R_tswIn (off := 3432) (tgt := 3472) rfl (by decide) (by decide) rfl rfl (lc_59 hL ha T M hs nx)
  | 60, _ => exact R_tswIn (off := 3488) (tgt := 3528) rfl (by decide) (by decide) rfl rfl (lc_60 hL ha T M hs nx)
  | 61, _ => exact R_tswIn (off := 3501) (tgt := 3541) rfl (by decide) (by decide) rfl rfl (lc_61 hL ha T M hs nx)
  | 62, _ => exact R_tswIn (off := 3557) (tgt := 3597) rfl (by decide) (by decide) rfl rfl (lc_62 hL ha T M hs nx)
  | 63, _ => exact R_tswIn (off := 3613) (tgt := 3653) rfl (by decide) (by decide) rfl rfl (lc_63 hL ha T M hs nx)
  | n + 64, h => omega
theorem lw_cmp {L a : Nat} (hL : L ≤ 3072) (ha : a ≤ 4000) : (nI L - 6 < nI a) ↔ L < a + 6 := by
  rcases Nat.lt_or_ge L 6 with h | h
  · have h0 : ∀ L : Nat, L < 6 → nI L - 6 < 0 := by decide
    exact ⟨fun _ => by omega, fun _ => Int32.lt_of_lt_of_le (h0 L h) (nI_pos' (by omega))⟩
  · have e : nI L - 6 = nI (L - 6) := by
      have h0 : nI (L - 6) + 6 = nI L := by
        show nI (L - 6) + nI 6 = nI L
        rw [show nI (L - 6) + nI 6 = nI (L - 6 + 6) from (Int32.ofNat_add _ _).symm, Nat.sub_add_cancel h]
      rw [← h0, Int32.add_sub_cancel]
    rw [e]
    constructor
    · intro z
      rcases Nat.lt_or_ge L (a + 6) with q | q
      · exact q
      · exact absurd z (nI_nlt (by omega) (by omega))
    · intro z
      exact nI_lt (by omega) (by omega)
theorem lw_end {L a k : Nat} {σ : am_G} {o5 o6 o7 : Option Value} (hL : L ≤ 3072) (ha : a ≤ L + 6) (hs : σ.1 3001 0 = nI L) (hz : L < a + 6) : am_R am_TX 20 k c_law 23 (lwL a o5 o6 o7) [] (mm σ) lwQ := by
  show am_R _ _ _ _ 23 [some (.ref 3000), some (.ref 0), some (.ref 120), some (.ref 132), some (.int (nI a)), o5, o6, o7] [] _ _
  refine R_iload rfl rfl ?_
  refine R_aload_n rfl rfl ?_
  refine R_slen (L := L) rfl hs hL ?_
  refine R_bipush (v := 6) rfl (by decide) ?_
  refine R_isub rfl ?_
  refine R_icmp_gt rfl rfl (fun _ => ?_) (fun hn => absurd ((lw_cmp hL (by omega)).mpr hz) hn)
  refine R_iconst (v := 1) rfl rfl ?_
  exact T_zreturn rfl rfl rfl ⟨σ, rfl⟩
theorem lw_loop {L : Nat} (hL : L ≤ 3072) : ∀ (m a : Nat) (σ : am_G) (d : Dk) (o5 o6 o7 : Option Value), L < a + 6 * m + 6 → a ≤ L + 6 → TC σ d → TM σ d → σ.1 3001 0 = nI L → am_R am_TX 20 m c_law 23 (lwL a o5 o6 o7) [] (mm σ) lwQ := by
  intro m
  induction m with
  | zero => intro a σ d o5 o6 o7 h1 h2 T M hs; exact lw_end hL h2 hs (by omega)
  | succ m ih =>
    intro a σ d o5 o6 o7 h1 h2 T M hs
    by_cases hz : L < a + 6
    · exact lw_end hL h2 hs hz
    · rw [Nat.add_comm m 1]
      have ha : a + 6 ≤ L := by omega
      obtain ⟨j, hj, e⟩ := pk_andE (σ.1 3000 a) (m := 63) 6 (by decide)
      show am_R _ _ _ _ 23 [some (.ref 3000), some (.ref 0), some (.ref 120), some (.ref 132), some (.int (nI a)), o5, o6, o7] [] _ _
      refine R_iload rfl rfl ?_
      refine R_aload_n rfl rfl ?_
      refine R_slen (L := L) rfl hs hL ?_
      refine R_bipush (v := 6) rfl (by decide) ?_
      refine R_isub rfl ?_
      refine R_icmp_gt rfl rfl (fun hg => absurd ((lw_cmp hL (by omega)).mp hg) hz) (fun _ => ?_)
      refine R_aload_n rfl rfl ?_
      refine R_iload rfl rfl ?_
      refine R_sld (L := L) (j := a) rfl hs hL rfl (by omega) ?_
      refine R_bipush (v := 63) rfl (by decide) ?_
      refine R_iand rfl ?_
      rw [show (mm σ).2.1 3000 a &&& 63 = nI j from e]
      refine lc_sw hj hL ha T M hs (fun σ2 d2 p5 p6 p7 T2 M2 hs2 => ?_)
      show am_R _ _ _ _ 3709 [some (.ref 3000), some (.ref 0), some (.ref 120), some (.ref 132), some (.int (nI a)), p5, p6, p7] [] _ _
      refine R_iincN (x := a) (m := 6) rfl rfl rfl (by decide) ?_
      refine R_goto rfl rfl ?_
      exact ih (a + 6) σ2 d2 p5 p6 p7 (by omega) (by omega) T2 M2 hs2
