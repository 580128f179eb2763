/-! ===== Matrix ===== -/
set_option maxRecDepth 100000 in
set_option maxHeartbeats 4000000 in
theorem sp_Matrix_at {σ : am_G} {k i j : Nat} (hM : isMat k) (hi : i < 2 ^ 31) (hj : j < 2 ^ 31) : am_Call am_TX 0 0 c_Matrix_at [.ref k, .int (nI i), .int (nI j)] (mm σ) (am_Ok (some (.long (gL σ k i j))) (fun σ1 => σ1 = σ)) := by
  refine ⟨mf_Matrix_at, Nat.le_of_ble_eq_true rfl, ?_⟩
  refine R_iload_n rfl rfl ?_
  refine R_nif_lt (x := i) rfl rfl (by omega) (fun z => by omega) (fun h1 => ?_)
  refine R_iload_n rfl rfl ?_
  refine R_bipush (v := 6) rfl (by decide) ?_
  refine R_nicmp_ge (x := i) (y := 6) rfl rfl (by omega) (by omega) (fun h2 => ?_) (fun h2 => ?_)
  · refine R_iconst (v := 0) rfl rfl ?_
    refine R_istore_n rfl (by decide) ?_
    refine R_iload_n rfl rfl ?_
    refine R_if_eq rfl rfl (fun _ => ?_) (fun z => absurd z (by decide))
    refine R_lconst (v := 0) rfl rfl ?_
    exact T_lreturn rfl rfl (am_okl (by unfold gL; rw [if_neg (by omega)]) rfl)
  · refine R_iload_n rfl rfl ?_
    refine R_nif_lt (x := j) rfl rfl (by omega) (fun z => by omega) (fun h3 => ?_)
    refine R_iload_n rfl rfl ?_
    refine R_bipush (v := 6) rfl (by decide) ?_
    refine R_nicmp_ge (x := j) (y := 6) rfl rfl (by omega) (by omega) (fun h4 => ?_) (fun h4 => ?_)
    · refine R_iconst (v := 0) rfl rfl ?_
      refine R_istore_n rfl (by decide) ?_
      refine R_iload_n rfl rfl ?_
      refine R_if_eq rfl rfl (fun _ => ?_) (fun z => absurd z (by decide))
      refine R_lconst (v := 0) rfl rfl ?_
      exact T_lreturn rfl rfl (am_okl (by unfold gL; rw [if_neg (by omega)]) rfl)
    · refine R_iconst (v := 1) rfl rfl ?_
      refine R_goto rfl rfl ?_
      refine R_istore_n rfl (by decide) ?_
      refine R_iload_n rfl rfl ?_
      refine R_if_eq rfl rfl (fun z => absurd z (by decide)) (fun _ => ?_)
      refine R_aload_n rfl rfl ?_
      refine R_gP (x := (k + 1)) rfl hM.1 fp_4_2 ((am_P_3 (by decide)).trans hM.2.2) ?_
      refine R_iload_n rfl rfl ?_
      refine R_bipush (v := 6) rfl (by decide) ?_
      refine R_imulN (x := i) (y := 6) rfl ?_
      refine R_iload_n rfl rfl ?_
      refine R_iaddN (x := (i * 6)) (y := j) rfl ?_
      refine R_xL (j := i * 6 + j) rfl hM.2.1 rfl (by omega) (by decide) ?_
      refine R_goto rfl rfl ?_
      exact T_lreturn rfl rfl (am_okl (by unfold gL; rw [if_pos (by omega)]) rfl)
set_option maxRecDepth 100000 in
set_option maxHeartbeats 4000000 in
theorem sp_Matrix_put {σ : am_G} {k i j : Nat} {x : Int64} (hM : isMat k) (hi : i < 2 ^ 31) (hj : j < 2 ^ 31) : am_Call am_TX 0 0 c_Matrix_put [.ref k, .int (nI i), .int (nI j), .long x] (mm σ) (am_Ok none (fun σ1 => σ1 = uL σ k i j x)) := by
  refine ⟨mf_Matrix_put, Nat.le_of_ble_eq_true rfl, ?_⟩
  refine R_iload_n rfl rfl ?_
  refine R_nif_lt (x := i) rfl rfl (by omega) (fun z => by omega) (fun h1 => ?_)
  refine R_iload_n rfl rfl ?_
  refine R_bipush (v := 6) rfl (by decide) ?_
  refine R_nicmp_ge (x := i) (y := 6) rfl rfl (by omega) (by omega) (fun h2 => ?_) (fun h2 => ?_)
  · exact T_return rfl rfl (am_okv0 (by unfold uL; rw [if_neg (by omega)]))
  · refine R_iload_n rfl rfl ?_
    refine R_nif_lt (x := j) rfl rfl (by omega) (fun z => by omega) (fun h3 => ?_)
    refine R_iload_n rfl rfl ?_
    refine R_bipush (v := 6) rfl (by decide) ?_
    refine R_nicmp_ge (x := j) (y := 6) rfl rfl (by omega) (by omega) (fun h4 => ?_) (fun h4 => ?_)
    · exact T_return rfl rfl (am_okv0 (by unfold uL; rw [if_neg (by omega)]))
    · refine R_aload_n rfl rfl ?_
      refine R_gP (x := (k + 1)) rfl hM.1 fp_4_2 ((am_P_3 (by decide)).trans hM.2.2) ?_
      refine R_iload_n rfl rfl ?_
      refine R_bipush (v := 6) rfl (by decide) ?_
      refine R_imulN (x := i) (y := 6) rfl ?_
      refine R_iload_n rfl rfl ?_
      refine R_iaddN (x := (i * 6)) (y := j) rfl ?_
      refine R_lload_n rfl rfl ?_
      refine R_wL (j := i * 6 + j) rfl hM.2.1 rfl (by omega) (by decide) ?_
      exact T_return rfl rfl (am_okv0 (by unfold uL; rw [if_pos (by omega)]))
/-- the first n numbers of the place p are f's -/
def aF (L : Nat → Nat → Int64) (p n : Nat) (f : Nat → Int64) : Nat → Nat → Int64 := fun a b => if a = p then (if b < n then f b else L a b) else L a b
theorem aF_put {L : Nat → Nat → Int64} {p n : Nat} {f : Nat → Int64} {x : Int64} (hx : x = f n) : am_up (aF L p n f) p n x = aF L p (n + 1) f := by
  subst hx
  funext a b
  simp only [am_up, aF]
  by_cases ha : a = p
  · simp only [if_pos ha]
    by_cases hb : b = n
    · subst hb; rw [if_pos rfl, if_pos (by omega)]
    · rw [if_neg hb]
      by_cases hb2 : b < n
      · rw [if_pos hb2, if_pos (by omega)]
      · rw [if_neg hb2, if_neg (by omega)]
  · simp only [if_neg ha]
theorem aF_0 {L : Nat → Nat → Int64} {p : Nat} {f : Nat → Int64} : aF L p 0 f = L := by
  funext a b
  simp [aF]
theorem aF_off {L : Nat → Nat → Int64} {p n a : Nat} {f : Nat → Int64} (h : a ≠ p) : aF L p n f a = L a := by
  funext b
  simp [aF, h]
theorem setM_fill {σ : am_G} {k h w : Nat} {g : Nat → Int64} {f : Nat → Nat → Int64} (hg : ∀ b, b < 36 → g b = f (b / 6) (b % 6)) : ((sI (sI σ k 0 (nI h)) k 1 (nI w)).1, aF σ.2.1 (k + 1) 36 g, σ.2.2) = setM σ k h w f := by
  refine Prod.ext ?_ (Prod.ext ?_ rfl)
  · funext a b
    simp only [setM, sI, am_up]
    by_cases ha : a = k
    · simp only [if_pos ha]
      by_cases hb : b = 1
      · subst hb; simp
      · rw [if_neg hb]
        by_cases hb0 : b = 0
        · rw [if_pos hb0, if_pos hb0]
        · rw [if_neg hb0, if_neg hb0, if_neg hb]
    · simp only [if_neg ha]
  · funext a b
    simp only [setM, aF]
    by_cases ha : a = k + 1
    · simp only [if_pos ha]
      by_cases hb : b < 36
      · rw [if_pos hb, if_pos hb, hg b hb]
      · rw [if_neg hb, if_neg hb]
    · simp only [if_neg ha]
set_option maxRecDepth 100000 in
set_option maxHeartbeats 4000000 in
theorem lp_Matrix_reset {σ : am_G} {k h w : Nat} {d k0 : Nat} {Q : am_Res → Prop} (hM : isMat k) (hx : am_R am_TX d k0 c_Matrix_reset 34 [some (.ref k), some (.int (nI h)), some (.int (nI w)), some (.int (nI 36))] [] (mm ((sI (sI σ k 0 (nI h)) k 1 (nI w)).1, aF σ.2.1 (k + 1) 36 (fun _ => 0), σ.2.2)) Q) : ∀ (uu i : Nat), i + uu = 36 → am_R am_TX d k0 c_Matrix_reset 12 [some (.ref k), some (.int (nI h)), some (.int (nI w)), some (.int (nI i))] [] (mm ((sI (sI σ k 0 (nI h)) k 1 (nI w)).1, aF σ.2.1 (k + 1) i (fun _ => 0), σ.2.2)) Q := by
  intro uu
  induction uu with
  | zero =>
    intro i hi
    obtain rfl : 36 = i := by omega
    refine R_iload_n rfl rfl ?_
    refine R_aload_n rfl rfl ?_
    refine R_gP (x := (k + 1)) rfl hM.1 fp_4_2 ((am_P_3 (by decide)).trans hM.2.2) ?_
    refine R_aln (v := 36) rfl hM.2.1 (by decide) (by decide) ?_
    refine R_nicmp_ge (x := 36) (y := 36) rfl rfl (by omega) (by omega) (fun h1 => ?_) (fun z => by omega)
    exact hx
  | succ uu ih =>
    intro i hi
    refine R_iload_n rfl rfl ?_
    refine R_aload_n rfl rfl ?_
    refine R_gP (x := (k + 1)) rfl hM.1 fp_4_2 ((am_P_3 (by decide)).trans hM.2.2) ?_
    refine R_aln (v := 36) rfl hM.2.1 (by decide) (by decide) ?_
    refine R_nicmp_ge (x := i) (y := 36) rfl rfl (by omega) (by omega) (fun z => by omega) (fun h1 => ?_)
    refine R_aload_n rfl rfl ?_
    refine R_gP (x := (k + 1)) rfl hM.1 fp_4_2 ((am_P_3 (by decide)).trans hM.2.2) ?_
    refine R_iload_n rfl rfl ?_
    refine R_lconst (v := 0) rfl rfl ?_
    refine R_wL (j := i) rfl hM.2.1 rfl (by omega) (by decide) ?_
    refine R_iincN (x := i) (m := 1) rfl rfl rfl (by decide) ?_
    refine R_goto rfl rfl ?_
    refine am_R.mem (σ' := ((sI (sI σ k 0 (nI h)) k 1 (nI w)).1, aF σ.2.1 (k + 1) (i + 1) (fun _ => 0), σ.2.2)) ?_ ((ih (i + 1) (by omega)).weak ⟨rfl, rfl, rfl, rfl, trivial⟩)
    exact Prod.ext rfl (Prod.ext (aF_put rfl) rfl)
set_option maxRecDepth 100000 in
set_option maxHeartbeats 4000000 in
theorem sp_Matrix_reset {σ : am_G} {k h w : Nat} (hM : isMat k) : am_Call am_TX 0 0 c_Matrix_reset [.ref k, .int (nI h), .int (nI w)] (mm σ) (am_Ok none (fun σ1 => σ1 = setM σ k h w (fun _ _ => 0))) := by
  refine ⟨mf_Matrix_reset, Nat.le_of_ble_eq_true rfl, ?_⟩
  refine R_aload_n rfl rfl ?_
  refine R_iload_n rfl rfl ?_
  refine R_pI rfl hM.1 fw_4_0 rfl ?_
  refine R_aload_n rfl rfl ?_
  refine R_iload_n rfl rfl ?_
  refine R_pI rfl hM.1 fw_4_1 rfl ?_
  refine R_iconst (v := 0) rfl rfl ?_
  refine R_istore_n rfl (by decide) ?_
  refine am_R.mem (σ' := ((sI (sI σ k 0 (nI h)) k 1 (nI w)).1, aF σ.2.1 (k + 1) 0 (fun _ => 0), σ.2.2)) (by rw [aF_0]; rfl) (lp_Matrix_reset hM ?_ 36 0 rfl)
  exact T_return rfl rfl (am_okv0 (setM_fill (fun _ _ => rfl)))
set_option maxRecDepth 100000 in
set_option maxHeartbeats 4000000 in
theorem lp_Matrix_copyFrom {σ : am_G} {k k2 h w : Nat} {d k0 : Nat} {Q : am_Res → Prop} (hM : isMat k) (hM2 : isMat k2) (ha : matA k k2) (hx : am_R am_TX d k0 c_Matrix_copyFrom 54 [some (.ref k), some (.ref k2), some (.int (nI 36))] [] (mm ((sI (sI σ k 0 (nI h)) k 1 (nI w)).1, aF σ.2.1 (k + 1) 36 (σ.2.1 (k2 + 1)), σ.2.2)) Q) : ∀ (uu i : Nat), i + uu = 36 → am_R am_TX d k0 c_Matrix_copyFrom 18 [some (.ref k), some (.ref k2), some (.int (nI i))] [] (mm ((sI (sI σ k 0 (nI h)) k 1 (nI w)).1, aF σ.2.1 (k + 1) i (σ.2.1 (k2 + 1)), σ.2.2)) Q := by
  intro uu
  induction uu with
  | zero =>
    intro i hi
    obtain rfl : 36 = i := by omega
    refine R_iload_n rfl rfl ?_
    refine R_aload_n rfl rfl ?_
    refine R_gP (x := (k + 1)) rfl hM.1 fp_4_2 ((am_P_3 (by decide)).trans hM.2.2) ?_
    refine R_aln (v := 36) rfl hM.2.1 (by decide) (by decide) ?_
    refine R_nicmp_ge (x := 36) (y := 36) rfl rfl (by omega) (by omega) (fun h1 => ?_) (fun z => by omega)
    exact hx
  | succ uu ih =>
    intro i hi
    refine R_iload_n rfl rfl ?_
    refine R_aload_n rfl rfl ?_
    refine R_gP (x := (k + 1)) rfl hM.1 fp_4_2 ((am_P_3 (by decide)).trans hM.2.2) ?_
    refine R_aln (v := 36) rfl hM.2.1 (by decide) (by decide) ?_
    refine R_nicmp_ge (x := i) (y := 36) rfl rfl (by omega) (by omega) (fun z => by omega) (fun h1 => ?_)
    refine R_iload_n rfl rfl ?_
    refine R_aload_n rfl rfl ?_
    refine R_gP (x := (k2 + 1)) rfl hM2.1 fp_4_2 ((am_P_3 (by decide)).trans hM2.2.2) ?_
    refine R_aln (v := 36) rfl hM2.2.1 (by decide) (by decide) ?_
    refine R_nicmp_ge (x := i) (y := 36) rfl rfl (by omega) (by omega) (fun z => by omega) (fun h2 => ?_)
    refine R_aload_n rfl rfl ?_
    refine R_gP (x := (k + 1)) rfl hM.1 fp_4_2 ((am_P_3 (by decide)).trans hM.2.2) ?_
    refine R_iload_n rfl rfl ?_
    refine R_aload_n rfl rfl ?_
    refine R_gP (x := (k2 + 1)) rfl hM2.1 fp_4_2 ((am_P_3 (by decide)).trans hM2.2.2) ?_
    refine R_iload_n rfl rfl ?_
    refine R_xL (j := i) rfl hM2.2.1 rfl (by omega) (by decide) ?_
    refine R_wL (j := i) rfl hM.2.1 rfl (by omega) (by decide) ?_
    refine R_iincN (x := i) (m := 1) rfl rfl rfl (by decide) ?_
    refine R_goto rfl rfl ?_
    refine am_R.mem (σ' := ((sI (sI σ k 0 (nI h)) k 1 (nI w)).1, aF σ.2.1 (k + 1) (i + 1) (σ.2.1 (k2 + 1)), σ.2.2)) ?_ ((ih (i + 1) (by omega)).weak ⟨rfl, rfl, rfl, trivial⟩)
    exact Prod.ext rfl (Prod.ext (aF_put (congrFun (aF_off (by have := ha.1; omega)) i)) rfl)
set_option maxRecDepth 100000 in
set_option maxHeartbeats 4000000 in
theorem sp_Matrix_copyFrom {σ : am_G} {k k2 h w : Nat} {f : Nat → Nat → Int64} (hM : isMat k) (hM2 : isMat k2) (ha : matA k k2) (hv : vM σ k2 h w f) : am_Call am_TX 0 0 c_Matrix_copyFrom [.ref k, .ref k2] (mm σ) (am_Ok none (fun σ1 => σ1 = setM σ k h w f)) := by
  refine ⟨mf_Matrix_copyFrom, Nat.le_of_ble_eq_true rfl, ?_⟩
  refine R_aload_n rfl rfl ?_
  refine R_aload_n rfl rfl ?_
  refine R_gIN (n := h) rfl hM2.1 fd_4_0 hv.1.1 ?_
  refine R_pI rfl hM.1 fw_4_0 rfl ?_
  refine R_aload_n rfl rfl ?_
  refine R_aload_n rfl rfl ?_
  refine R_gIN (n := w) rfl hM2.1 fd_4_1 (by show am_up _ _ _ _ _ _ = _; rw [am_up_o (Ne.symm ha.1)]; exact hv.2.1.1) ?_
  refine R_pI rfl hM.1 fw_4_1 rfl ?_
  refine R_iconst (v := 0) rfl rfl ?_
  refine R_istore_n rfl (by decide) ?_
  refine am_R.mem (σ' := ((sI (sI σ k 0 (nI h)) k 1 (nI w)).1, aF σ.2.1 (k + 1) 0 (σ.2.1 (k2 + 1)), σ.2.2)) (by rw [aF_0]; rfl) (lp_Matrix_copyFrom hM hM2 ha ?_ 36 0 rfl)
  exact T_return rfl rfl (am_okv0 (setM_fill (fun b hb => by rw [← hv.2.2 (b / 6) (b % 6) (by omega) (by omega), show b / 6 * 6 + b % 6 = b by omega])))
set_option maxRecDepth 100000 in
set_option maxHeartbeats 4000000 in
theorem sp_lowest {σ : am_G} {n : Nat} (h : n ≤ 30) : am_Call am_TX 0 0 c_D_lowest [.int (nI n)] (mm σ) (am_Ok (some (.int (nI (2 ^ n - 1)))) (fun σ1 => σ1 = σ)) := by
  refine ⟨mf_D_lowest, Nat.le_of_ble_eq_true rfl, ?_⟩
  refine R_iconst (v := 1) rfl rfl ?_
  refine R_iload_n rfl rfl ?_
  refine R_shl1N (y := n) rfl (by omega) ?_
  refine R_iconst (v := 1) rfl rfl ?_
  refine R_isubN (x := (2 ^ n)) (y := 1) rfl (Nat.pos_of_ne_zero (by simp)) ?_
  exact T_ireturn rfl rfl (am_oki rfl rfl)
set_option maxRecDepth 100000 in
set_option maxHeartbeats 4000000 in
theorem sp_Matrix_allRows {σ : am_G} {k h : Nat} (hM : isMat k) (hv : σ.1 k 0 = nI h) (h6 : h ≤ 6) : am_Call am_TX 1 0 c_Matrix_allRows [.ref k] (mm σ) (am_Ok (some (.int (nI (2 ^ h - 1)))) (fun σ1 => σ1 = σ)) := by
  refine ⟨mf_Matrix_allRows, Nat.le_of_ble_eq_true rfl, ?_⟩
  refine R_aload_n rfl rfl ?_
  refine R_gIN (n := h) rfl hM.1 fd_4_0 hv ?_
  refine R_cN (as := [.int (nI h)]) rfl rfl iv_D_lowest (sp_lowest (n := h) (by omega)) (by decide) rfl rfl rfl rfl (Nat.le_of_ble_eq_true rfl) (fun _ q => ?_)
  obtain rfl := q.symm
  exact T_ireturn rfl rfl (am_oki rfl rfl)
set_option maxRecDepth 100000 in
set_option maxHeartbeats 4000000 in
theorem sp_Matrix_allColumns {σ : am_G} {k w : Nat} (hM : isMat k) (hv : σ.1 k 1 = nI w) (h6 : w ≤ 6) : am_Call am_TX 1 0 c_Matrix_allColumns [.ref k] (mm σ) (am_Ok (some (.int (nI (2 ^ w - 1)))) (fun σ1 => σ1 = σ)) := by
  refine ⟨mf_Matrix_allColumns, Nat.le_of_ble_eq_true rfl, ?_⟩
  refine R_aload_n rfl rfl ?_
  refine R_gIN (n := w) rfl hM.1 fd_4_1 hv ?_
  refine R_cN (as := [.int (nI w)]) rfl rfl iv_D_lowest (sp_lowest (n := w) (by omega)) (by decide) rfl rfl rfl rfl (Nat.le_of_ble_eq_true rfl) (fun _ q => ?_)
  obtain rfl := q.symm
  exact T_ireturn rfl rfl (am_oki rfl rfl)
/-- two rows of a grid are exchanged, in the first n columns -/
def exR (f : Nat → Nat → Int64) (a b n : Nat) : Nat → Nat → Int64 := fun i j => if j < n then (if i = b then f a j else if i = a then f b j else f i j) else f i j
theorem exR_step {f : Nat → Nat → Int64} {a b n : Nat} : up2 (up2 (exR f a b n) a n (f b n)) b n (f a n) = exR f a b (n + 1) := by
  funext i j
  simp only [up2, exR]
  by_cases hj : j = n
  · subst hj
    simp only [and_true, Nat.lt_succ_self, if_true, Nat.lt_irrefl, if_false]
  · simp only [hj, and_false, if_false]
    by_cases hn : j < n
    · simp only [if_pos hn, if_pos (Nat.lt_succ_of_lt hn)]
    · simp only [if_neg hn, if_neg (show ¬ j < n + 1 by omega)]
theorem exR_0 {f : Nat → Nat → Int64} {a b : Nat} : exR f a b 0 = f := by
  funext i j
  simp [exR]
set_option maxRecDepth 100000 in
set_option maxHeartbeats 4000000 in
theorem lp_Matrix_exchangeRows {σ : am_G} {k h w a b : Nat} {f : Nat → Nat → Int64} {d k0 : Nat} {Q : am_Res → Prop} (hM : isMat k) (hh : h ≤ 6) (hw : w ≤ 6) (ha : a < 6) (hb : b < 6) (hd : 1 ≤ d) (hx : am_R am_TX d k0 c_Matrix_exchangeRows 44 [some (.ref k), some (.int (nI a)), some (.int (nI b)), some (.int (nI w)), none, none] [] (mm (setM σ k h w (exR f a b w))) Q) : ∀ (uu i : Nat), i + uu = w → am_R am_TX d k0 c_Matrix_exchangeRows 2 [some (.ref k), some (.int (nI a)), some (.int (nI b)), some (.int (nI i)), none, none] [] (mm (setM σ k h w (exR f a b i))) Q := by
  intro uu
  induction uu with
  | zero =>
    intro i hi
    obtain rfl : w = i := by omega
    refine R_iload_n rfl rfl ?_
    refine R_aload_n rfl rfl ?_
    refine R_gIN (n := w) rfl hM.1 fd_4_1 (vM_setM hh hw).2.1.1 ?_
    refine R_nicmp_ge (x := w) (y := w) rfl rfl (by omega) (by omega) (fun h1 => ?_) (fun z => by omega)
    exact hx
  | succ uu ih =>
    intro i hi
    refine R_iload_n rfl rfl ?_
    refine R_aload_n rfl rfl ?_
    refine R_gIN (n := w) rfl hM.1 fd_4_1 (vM_setM hh hw).2.1.1 ?_
    refine R_nicmp_ge (x := i) (y := w) rfl rfl (by omega) (by omega) (fun z => by omega) (fun h1 => ?_)
    refine R_aload_n rfl rfl ?_
    refine R_iload_n rfl rfl ?_
    refine R_iload_n rfl rfl ?_
    refine R_cV (as := [.int (nI a), .int (nI i)]) rfl rfl iv_Matrix_at (sp_Matrix_at (i := a) (j := i) hM (by omega) (by omega)) (by omega) rfl rfl hM.1 (by decide) rfl rfl (Nat.le_of_ble_eq_true rfl) (fun _ q => ?_)
    obtain rfl := q.symm
    refine R_lstore rfl (by decide) ?_
    refine R_aload_n rfl rfl ?_
    refine R_iload_n rfl rfl ?_
    refine R_iload_n rfl rfl ?_
    refine R_aload_n rfl rfl ?_
    refine R_iload_n rfl rfl ?_
    refine R_iload_n rfl rfl ?_
    refine R_cV (as := [.int (nI b), .int (nI i)]) rfl rfl iv_Matrix_at (sp_Matrix_at (i := b) (j := i) hM (by omega) (by omega)) (by omega) rfl rfl hM.1 (by decide) rfl rfl (Nat.le_of_ble_eq_true rfl) (fun _ q => ?_)
    obtain rfl := q.symm
    refine R_cV (as := [.int (nI a), .int (nI i), .long (gL (setM σ k h w (exR f a b i)) k b i)]) rfl rfl iv_Matrix_put (sp_Matrix_put (i := a) (j := i) hM (by omega) (by omega)) (by omega) rfl rfl hM.1 (by decide) rfl rfl (Nat.le_of_ble_eq_true rfl) (fun _ q => ?_)
    obtain rfl := q.symm
    refine R_aload_n rfl rfl ?_
    refine R_iload_n rfl rfl ?_
    refine R_iload_n rfl rfl ?_
    refine R_lload rfl rfl ?_
    refine R_cV (as := [.int (nI b), .int (nI i), .long (gL (setM σ k h w (exR f a b i)) k a i)]) rfl rfl iv_Matrix_put (sp_Matrix_put (i := b) (j := i) hM (by omega) (by omega)) (by omega) rfl rfl hM.1 (by decide) rfl rfl (Nat.le_of_ble_eq_true rfl) (fun _ q => ?_)
    obtain rfl := q.symm
    refine R_iincN (x := i) (m := 1) rfl rfl rfl (by decide) ?_
    refine R_goto rfl rfl ?_
    refine am_R.mem (σ' := (setM σ k h w (exR f a b (i + 1)))) ?_ ((ih (i + 1) (by omega)).weak ⟨rfl, rfl, rfl, rfl, trivial⟩)
    have e1 : exR f a b i a i = f a i := by simp [exR]
    have e2 : exR f a b i b i = f b i := by simp [exR]
    rw [gL_setM, if_pos ⟨by omega, by omega⟩, gL_setM, if_pos ⟨by omega, by omega⟩, e1, e2, setM_put (by omega) (by omega), setM_put (by omega) (by omega), exR_step]
set_option maxRecDepth 100000 in
set_option maxHeartbeats 4000000 in
theorem sp_Matrix_exchangeRows {σ : am_G} {k h w a b : Nat} {f : Nat → Nat → Int64} (hM : isMat k) (hv : vM σ k h w f) (ha : a < 6) (hb : b < 6) : am_Call am_TX 1 0 c_Matrix_exchangeRows [.ref k, .int (nI a), .int (nI b)] (mm σ) (am_Ok none (fun σ1 => σ1 = setM σ k h w (exR f a b w))) := by
  refine ⟨mf_Matrix_exchangeRows, Nat.le_of_ble_eq_true rfl, ?_⟩
  refine R_iconst (v := 0) rfl rfl ?_
  refine R_istore_n rfl (by decide) ?_
  refine am_R.mem (σ' := (setM σ k h w (exR f a b 0))) (by rw [exR_0, setM_self hv]) ((lp_Matrix_exchangeRows hM hv.1.2 hv.2.1.2 ha hb (by omega) ?_ w 0 (by omega)).weak ⟨rfl, rfl, rfl, rfl, trivial⟩)
  exact T_return rfl rfl (am_okv0 rfl)
