/-! ===== Matrix, the rest ===== -/
def cn (g : Nat → Int64) : Nat → Nat
  | 0 => 0
  | n + 1 => cn g n + (if g n = 0 then 0 else 1)
def cnG (f : Nat → Nat → Int64) (w : Nat) : Nat → Nat
  | 0 => 0
  | n + 1 => cnG f w n + cn (f n) w
theorem cn_le {g : Nat → Int64} : ∀ n, cn g n ≤ n
  | 0 => Nat.le_refl 0
  | n + 1 => by have := @cn_le g n; simp only [cn]; split <;> omega
theorem cnG_le {f : Nat → Nat → Int64} {w : Nat} : ∀ n, cnG f w n ≤ n * w
  | 0 => by simp [cnG]
  | n + 1 => by have := @cnG_le f w n; have h := @cn_le (f n) w; simp only [cnG, Nat.succ_mul]; omega
set_option maxRecDepth 100000 in
set_option maxHeartbeats 4000000 in
theorem lp_filled1 {σ : am_G} {k h w : Nat} {f : Nat → Nat → Int64} {c0 r : Nat} {d k0 : Nat} {Q : am_Res → Prop} (hM : isMat k) (hv : vM σ k h w f) (hr : r < h) (hd : 1 ≤ d) (hx : am_R am_TX d k0 c_Matrix_filledCells 42 [some (.ref k), some (.int (nI (c0 + cn (f r) w))), some (.int (nI r)), some (.int (nI w))] [] (mm σ) Q) : ∀ (uu i : Nat), i + uu = w → am_R am_TX d k0 c_Matrix_filledCells 14 [some (.ref k), some (.int (nI (c0 + cn (f r) i))), some (.int (nI r)), some (.int (nI i))] [] (mm σ) Q := by
  have hh := hv.1.2
  have hw := hv.2.1.2
  intro uu
  induction uu with
  | zero =>
    intro i hi
    obtain rfl : w = i := by omega
    refine R_iload_n rfl rfl ?_
    refine R_aload_n rfl rfl ?_
    refine R_gIN (n := w) rfl hM.1 fd_4_1 hv.2.1.1 ?_
    refine R_nicmp_ge (x := w) (y := w) rfl rfl (by omega) (by omega) (fun h1 => ?_) (fun z => by omega)
    exact hx
  | succ uu ih =>
    intro i hi
    refine R_iload_n rfl rfl ?_
    refine R_aload_n rfl rfl ?_
    refine R_gIN (n := w) rfl hM.1 fd_4_1 hv.2.1.1 ?_
    refine R_nicmp_ge (x := i) (y := w) rfl rfl (by omega) (by omega) (fun z => by omega) (fun h1 => ?_)
    refine R_aload_n rfl rfl ?_
    refine R_iload_n rfl rfl ?_
    refine R_iload_n rfl rfl ?_
    refine R_cV (as := [.int (nI r), .int (nI i)]) rfl rfl iv_Matrix_at (sp_Matrix_at (i := r) (j := i) hM (by omega) (by omega)) (by omega) rfl rfl hM.1 (by decide) rfl rfl (Nat.le_of_ble_eq_true rfl) (fun _ q => ?_)
    obtain rfl := q.symm
    refine R_lconst (v := 0) rfl rfl ?_
    refine R_l_eq rfl rfl rfl (fun h2 => ?_) (fun h2 => ?_)
    · refine R_iincN (x := i) (m := 1) rfl rfl rfl (by decide) ?_
      refine R_goto rfl rfl ?_
      have e : cn (f r) (i + 1) = cn (f r) i := by
        have hz := hv.at (i := r) (j := i) (by omega) (by omega)
        rw [hz] at h2; simp only [cn]; first | rw [if_pos h2, Nat.add_zero] | rw [if_pos (Classical.not_not.mp h2), Nat.add_zero]
      have e2 := ih (i + 1) (by omega)
      rw [e] at e2
      exact e2.weak ⟨rfl, rfl, rfl, rfl, trivial⟩
    · refine R_iincN (x := (c0 + cn (f r) i)) (m := 1) rfl rfl rfl (by decide) ?_
      refine R_iincN (x := i) (m := 1) rfl rfl rfl (by decide) ?_
      refine R_goto rfl rfl ?_
      have e : cn (f r) (i + 1) = cn (f r) i + 1 := by
        have hz := hv.at (i := r) (j := i) (by omega) (by omega)
        rw [hz] at h2; simp only [cn]; rw [if_neg h2]
      have e2 := ih (i + 1) (by omega)
      rw [e] at e2
      exact e2.weak ⟨rfl, rfl, rfl, rfl, trivial⟩
set_option maxRecDepth 100000 in
set_option maxHeartbeats 4000000 in
theorem lp_filled {σ : am_G} {k h w : Nat} {f : Nat → Nat → Int64} {d k0 : Nat} {Q : am_Res → Prop} (hM : isMat k) (hv : vM σ k h w f) (hd : 1 ≤ d) (hx : am_R am_TX d k0 c_Matrix_filledCells 48 [some (.ref k), some (.int (nI (cnG f w h))), some (.int (nI h)), none] [] (mm σ) Q) : ∀ (uu i : Nat), i + uu = h → am_R am_TX d k0 c_Matrix_filledCells 4 [some (.ref k), some (.int (nI (cnG f w i))), some (.int (nI i)), none] [] (mm σ) Q := by
  have hh := hv.1.2
  have hw := hv.2.1.2
  intro uu
  induction uu with
  | zero =>
    intro i hi
    obtain rfl : h = i := by omega
    refine R_iload_n rfl rfl ?_
    refine R_aload_n rfl rfl ?_
    refine R_gIN (n := h) rfl hM.1 fd_4_0 hv.1.1 ?_
    refine R_nicmp_ge (x := h) (y := h) rfl rfl (by omega) (by omega) (fun h1 => ?_) (fun z => by omega)
    exact hx
  | succ uu ih =>
    intro i hi
    refine R_iload_n rfl rfl ?_
    refine R_aload_n rfl rfl ?_
    refine R_gIN (n := h) rfl hM.1 fd_4_0 hv.1.1 ?_
    refine R_nicmp_ge (x := i) (y := h) rfl rfl (by omega) (by omega) (fun z => by omega) (fun h1 => ?_)
    refine R_iconst (v := 0) rfl rfl ?_
    refine R_istore_n rfl (by decide) ?_
    refine am_R.mem (σ' := σ) rfl ((lp_filled1 (c0 := cnG f w i) (r := i) hM hv (by omega) (by omega) ?_ w 0 (by omega)).weak ⟨rfl, rfl, rfl, rfl, trivial⟩)
    refine R_iincN (x := i) (m := 1) rfl rfl rfl (by decide) ?_
    refine R_goto rfl rfl ?_
    exact (ih (i + 1) (by omega)).weak ⟨rfl, rfl, rfl, trivial⟩
set_option maxRecDepth 100000 in
set_option maxHeartbeats 4000000 in
theorem sp_Matrix_filledCells {σ : am_G} {k h w : Nat} {f : Nat → Nat → Int64} (hM : isMat k) (hv : vM σ k h w f) : am_Call am_TX 1 0 c_Matrix_filledCells [.ref k] (mm σ) (am_Ok (some (.int (nI (cnG f w h)))) (fun σ1 => σ1 = σ)) := by
  have hh := hv.1.2
  have hw := hv.2.1.2
  refine ⟨mf_Matrix_filledCells, Nat.le_of_ble_eq_true rfl, ?_⟩
  refine R_iconst (v := 0) rfl rfl ?_
  refine R_istore_n rfl (by decide) ?_
  refine R_iconst (v := 0) rfl rfl ?_
  refine R_istore_n rfl (by decide) ?_
  refine (lp_filled hM hv (by omega) ?_ h 0 (by omega)).weak ⟨rfl, rfl, rfl, trivial⟩
  exact R_iload_n rfl rfl (T_ireturn rfl rfl (am_oki rfl rfl))
def smL (g : Nat → Int64) : Nat → Int64
  | 0 => 0
  | n + 1 => smL g n + g n
set_option maxRecDepth 100000 in
set_option maxHeartbeats 4000000 in
theorem lp_combination {σ : am_G} {k h w : Nat} {f : Nat → Nat → Int64} {h2 w2 r c : Nat} {f2 : Nat → Nat → Int64} {k2 : Nat} {d k0 : Nat} {Q : am_Res → Prop} (hM : isMat k) (hv : vM σ k h w f) (hM2 : isMat k2) (hv2 : vM σ k2 h2 w2 f2) (hr : r < 6) (hc : c < 6) (hd : 1 ≤ d) (hx : am_R am_TX d k0 c_Matrix_combination 41 [some (.ref k), some (.int (nI r)), some (.ref k2), some (.int (nI c)), some (.long (smL (fun a => f r a * f2 a c) w)), none, some (.int (nI w))] [] (mm σ) Q) : ∀ (uu i : Nat), i + uu = w → am_R am_TX d k0 c_Matrix_combination 6 [some (.ref k), some (.int (nI r)), some (.ref k2), some (.int (nI c)), some (.long (smL (fun a => f r a * f2 a c) i)), none, some (.int (nI i))] [] (mm σ) Q := by
  have hh := hv.1.2
  have hw := hv.2.1.2
  intro uu
  induction uu with
  | zero =>
    intro i hi
    obtain rfl : w = i := by omega
    refine R_iload rfl rfl ?_
    refine R_aload_n rfl rfl ?_
    refine R_gIN (n := w) rfl hM.1 fd_4_1 hv.2.1.1 ?_
    refine R_nicmp_ge (x := w) (y := w) rfl rfl (by omega) (by omega) (fun h1 => ?_) (fun z => by omega)
    exact hx
  | succ uu ih =>
    intro i hi
    refine R_iload rfl rfl ?_
    refine R_aload_n rfl rfl ?_
    refine R_gIN (n := w) rfl hM.1 fd_4_1 hv.2.1.1 ?_
    refine R_nicmp_ge (x := i) (y := w) rfl rfl (by omega) (by omega) (fun z => by omega) (fun h1 => ?_)
    refine R_lload rfl rfl ?_
    refine R_aload_n rfl rfl ?_
    refine R_iload_n rfl rfl ?_
    refine R_iload rfl rfl ?_
    refine R_cV (as := [.int (nI r), .int (nI i)]) rfl rfl iv_Matrix_at (sp_Matrix_at (i := r) (j := i) hM (by omega) (by omega)) (by omega) rfl rfl hM.1 (by decide) rfl rfl (Nat.le_of_ble_eq_true rfl) (fun _ q => ?_)
    obtain rfl := q.symm
    refine R_aload_n rfl rfl ?_
    refine R_iload rfl rfl ?_
    refine R_iload_n rfl rfl ?_
    refine R_cV (as := [.int (nI i), .int (nI c)]) rfl rfl iv_Matrix_at (sp_Matrix_at (i := i) (j := c) hM2 (by omega) (by omega)) (by omega) rfl rfl hM2.1 (by decide) rfl rfl (Nat.le_of_ble_eq_true rfl) (fun _ q => ?_)
    obtain rfl := q.symm
    refine R_lmul rfl ?_
    refine R_ladd rfl ?_
    refine R_lstore rfl (by decide) ?_
    refine R_iincN (x := i) (m := 1) rfl rfl rfl (by decide) ?_
    refine R_goto rfl rfl ?_
    have e := ih (i + 1) (by omega)
    rw [hv.at (by omega) (by omega), hv2.at (by omega) (by omega)]
    exact e.weak ⟨rfl, rfl, rfl, rfl, rfl, rfl, trivial⟩
set_option maxRecDepth 100000 in
set_option maxHeartbeats 4000000 in
theorem sp_Matrix_combination {σ : am_G} {k h w : Nat} {f : Nat → Nat → Int64} {h2 w2 r c : Nat} {f2 : Nat → Nat → Int64} {k2 : Nat} (hM : isMat k) (hv : vM σ k h w f) (hM2 : isMat k2) (hv2 : vM σ k2 h2 w2 f2) (hr : r < 6) (hc : c < 6) : am_Call am_TX 1 0 c_Matrix_combination [.ref k, .int (nI r), .ref k2, .int (nI c)] (mm σ) (am_Ok (some (.long (smL (fun a => f r a * f2 a c) w))) (fun σ1 => σ1 = σ)) := by
  have hh := hv.1.2
  have hw := hv.2.1.2
  refine ⟨mf_Matrix_combination, Nat.le_of_ble_eq_true rfl, ?_⟩
  refine R_lconst (v := 0) rfl rfl ?_
  refine R_lstore rfl (by decide) ?_
  refine R_iconst (v := 0) rfl rfl ?_
  refine R_istore rfl (by decide) ?_
  refine (lp_combination hM hv hM2 hv2 hr hc (by omega) ?_ w 0 (by omega)).weak ⟨rfl, rfl, rfl, rfl, rfl, rfl, trivial⟩
  exact R_lload rfl rfl (T_lreturn rfl rfl (am_okl rfl rfl))
def roomP (f : Nat → Nat → Int64) (a b : Nat) (F : Int32) (j : Nat) : Prop := ¬ 20 < absL (f a j + F.toInt64 * f b j)
def roomA (f : Nat → Nat → Int64) (a b : Nat) (F : Int32) (n : Nat) : Prop := ∀ j, j < n → absL (f a j + F.toInt64 * f b j) ≤ 20
set_option maxRecDepth 100000 in
set_option maxHeartbeats 4000000 in
theorem lp_room {σ : am_G} {k h w : Nat} {f : Nat → Nat → Int64} {a b : Nat} {F : Int32} {d k0 : Nat} (hM : isMat k) (hv : vM σ k h w f) (ha : a < 6) (hb : b < 6) (hd : 1 ≤ d)  : ∀ (uu i : Nat) (τ : am_G), i + uu = w → (τ = σ ∧ ∀ j, j < i → absL (f a j + F.toInt64 * f b j) ≤ 20) → am_R am_TX d k0 c_Matrix_hasRoomForMultiple 3 [some (.ref k), some (.int (nI a)), some (.int (nI b)), some (.int F), some (.int (nI i))] [] (mm τ) (am_Ok (some (.int (zP (∀ j, j < w → absL (f a j + F.toInt64 * f b j) ≤ 20)))) (fun σ1 => σ1 = σ)) := by
  have hh := hv.1.2
  have hw := hv.2.1.2
  intro uu
  induction uu with
  | zero =>
    intro i τ hi hI
    obtain rfl : w = i := by omega
    skip
    refine R_iload rfl rfl ?_
    refine R_aload_n rfl rfl ?_
    refine R_gIN (n := w) rfl hM.1 fd_4_1 (by rw [hI.1]; exact hv.2.1.1) ?_
    refine R_nicmp_ge (x := w) (y := w) rfl rfl (by omega) (by omega) (fun h1 => ?_) (fun z => by omega)
    refine R_iconst (v := 1) rfl rfl ?_
    exact T_zreturn rfl rfl rfl (am_oki ((zP_t hI.2).symm) hI.1)
  | succ uu ih =>
    intro i τ hi hI
    have e1 := (hv.at (i := a) (j := i) (by omega) (by omega))
    have e2 := (hv.at (i := b) (j := i) (by omega) (by omega))
    rw [← hI.1] at e1 e2
    refine R_iload rfl rfl ?_
    refine R_aload_n rfl rfl ?_
    refine R_gIN (n := w) rfl hM.1 fd_4_1 (by rw [hI.1]; exact hv.2.1.1) ?_
    refine R_nicmp_ge (x := i) (y := w) rfl rfl (by omega) (by omega) (fun z => by omega) (fun h1 => ?_)
    refine R_aload_n rfl rfl ?_
    refine R_iload_n rfl rfl ?_
    refine R_iload rfl rfl ?_
    refine R_cV (as := [.int (nI a), .int (nI i)]) rfl rfl iv_Matrix_at (sp_Matrix_at (i := a) (j := i) hM (by omega) (by omega)) (by omega) rfl rfl hM.1 (by decide) rfl rfl (Nat.le_of_ble_eq_true rfl) (fun _ q => ?_)
    obtain rfl := q.symm
    refine R_iload_n rfl rfl ?_
    refine R_i2l rfl ?_
    refine R_aload_n rfl rfl ?_
    refine R_iload_n rfl rfl ?_
    refine R_iload rfl rfl ?_
    refine R_cV (as := [.int (nI b), .int (nI i)]) rfl rfl iv_Matrix_at (sp_Matrix_at (i := b) (j := i) hM (by omega) (by omega)) (by omega) rfl rfl hM.1 (by decide) rfl rfl (Nat.le_of_ble_eq_true rfl) (fun _ q => ?_)
    obtain rfl := q.symm
    refine R_lmul rfl ?_
    refine R_ladd rfl ?_
    refine R_cS (as := [.long ((gL τ k a i) + (F.toInt64 * (gL τ k b i)))]) rfl rfl iv_JMath_abs (sp_abs) (by omega) rfl rfl rfl rfl (Nat.le_of_ble_eq_true rfl) (fun _ q => ?_)
    obtain rfl := q.symm
    refine R_ldc2 (v := 20) rfl (by decide) ?_
    refine R_l_le rfl rfl rfl (fun h2 => ?_) (fun h2 => ?_)
    · refine R_iincN (x := i) (m := 1) rfl rfl rfl (by decide) ?_
      refine R_goto rfl rfl ?_
      refine (ih (i + 1) τ (by omega) ⟨hI.1, fun j hj => ?_⟩).weak ⟨rfl, rfl, rfl, rfl, rfl, trivial⟩
      by_cases hji : j = i
      · subst hji; rw [e1, e2] at h2; first | exact h2 | exact Int64.not_lt.mp h2
      · exact hI.2 j (by omega)
    · refine R_iconst (v := 0) rfl rfl ?_
      exact T_zreturn rfl rfl rfl (am_oki ((zP_f (fun q => absurd (q i (by omega)) (by rw [e1, e2] at h2; first | exact h2 | exact Int64.not_le.mpr h2))).symm) hI.1)
set_option maxRecDepth 100000 in
set_option maxHeartbeats 4000000 in
theorem sp_Matrix_hasRoomForMultiple {σ : am_G} {k h w : Nat} {f : Nat → Nat → Int64} {a b : Nat} {F : Int32} (hM : isMat k) (hv : vM σ k h w f) (ha : a < 6) (hb : b < 6) : am_Call am_TX 1 0 c_Matrix_hasRoomForMultiple [.ref k, .int (nI a), .int (nI b), .int F] (mm σ) (am_Ok (some (.int (zP (∀ j, j < w → absL (f a j + F.toInt64 * f b j) ≤ 20)))) (fun σ1 => σ1 = σ)) := by
  have hh := hv.1.2
  have hw := hv.2.1.2
  refine ⟨mf_Matrix_hasRoomForMultiple, Nat.le_of_ble_eq_true rfl, ?_⟩
  refine R_iconst (v := 0) rfl rfl ?_
  refine R_istore rfl (by decide) ?_
  exact (lp_room hM hv ha hb (by omega) w 0 σ (by omega) ⟨rfl, fun j hj => absurd hj (by omega)⟩).weak ⟨rfl, rfl, rfl, rfl, rfl, trivial⟩
def adM (f : Nat → Nat → Int64) (a b : Nat) (F : Int32) (n : Nat) : Nat → Nat → Int64 := fun i j => if i = a ∧ j < n then f a j + F.toInt64 * f b j else f i j
theorem adM_0 {f : Nat → Nat → Int64} {a b : Nat} {F : Int32} : adM f a b F 0 = f := by
  funext i j; simp [adM]
theorem adM_s {f : Nat → Nat → Int64} {a b : Nat} {F : Int32} {n : Nat} : up2 (adM f a b F n) a n (f a n + F.toInt64 * f b n) = adM f a b F (n + 1) := by
  funext i j
  simp only [up2, adM]
  grind
set_option maxRecDepth 100000 in
set_option maxHeartbeats 4000000 in
theorem lp_addMultiple {σ : am_G} {k h w : Nat} {f : Nat → Nat → Int64} {a b : Nat} {F : Int32} {d k0 : Nat} {Q : am_Res → Prop} (hM : isMat k) (hh : h ≤ 6) (hw : w ≤ 6) (ha : a < 6) (hb : b < 6) (hd : 1 ≤ d) (hx : am_R am_TX d k0 c_Matrix_addMultiple 43 [some (.ref k), some (.int (nI a)), some (.int (nI b)), some (.int F), some (.int (nI w))] [] (mm (setM σ k h w (adM f a b F w))) Q) : ∀ (uu i : Nat), i + uu = w → am_R am_TX d k0 c_Matrix_addMultiple 3 [some (.ref k), some (.int (nI a)), some (.int (nI b)), some (.int F), some (.int (nI i))] [] (mm (setM σ k h w (adM f a b F i))) Q := by
  intro uu
  induction uu with
  | zero =>
    intro i hi
    obtain rfl : w = i := by omega
    refine R_iload rfl rfl ?_
    refine R_aload_n rfl rfl ?_
    refine R_gIN (n := w) rfl hM.1 fd_4_1 (vM_setM hh hw).2.1.1 ?_
    refine R_nicmp_ge (x := w) (y := w) rfl rfl (by omega) (by omega) (fun h1 => ?_) (fun z => by omega)
    exact hx
  | succ uu ih =>
    intro i hi
    refine R_iload rfl rfl ?_
    refine R_aload_n rfl rfl ?_
    refine R_gIN (n := w) rfl hM.1 fd_4_1 (vM_setM hh hw).2.1.1 ?_
    refine R_nicmp_ge (x := i) (y := w) rfl rfl (by omega) (by omega) (fun z => by omega) (fun h1 => ?_)
    refine R_aload_n rfl rfl ?_
    refine R_iload_n rfl rfl ?_
    refine R_iload rfl rfl ?_
    refine R_aload_n rfl rfl ?_
    refine R_iload_n rfl rfl ?_
    refine R_iload rfl rfl ?_
    refine R_cV (as := [.int (nI a), .int (nI i)]) rfl rfl iv_Matrix_at (sp_Matrix_at (i := a) (j := i) hM (by omega) (by omega)) (by omega) rfl rfl hM.1 (by decide) rfl rfl (Nat.le_of_ble_eq_true rfl) (fun _ q => ?_)
    obtain rfl := q.symm
    refine R_iload_n rfl rfl ?_
    refine R_i2l rfl ?_
    refine R_aload_n rfl rfl ?_
    refine R_iload_n rfl rfl ?_
    refine R_iload rfl rfl ?_
    refine R_cV (as := [.int (nI b), .int (nI i)]) rfl rfl iv_Matrix_at (sp_Matrix_at (i := b) (j := i) hM (by omega) (by omega)) (by omega) rfl rfl hM.1 (by decide) rfl rfl (Nat.le_of_ble_eq_true rfl) (fun _ q => ?_)
    obtain rfl := q.symm
    refine R_lmul rfl ?_
    refine R_ladd rfl ?_
    refine R_cV (as := [.int (nI a), .int (nI i), .long ((gL (setM σ k h w (adM f a b F i)) k a i) + (F.toInt64 * (gL (setM σ k h w (adM f a b F i)) k b i)))]) rfl rfl iv_Matrix_put (sp_Matrix_put (i := a) (j := i) hM (by omega) (by omega)) (by omega) rfl rfl hM.1 (by decide) rfl rfl (Nat.le_of_ble_eq_true rfl) (fun _ q => ?_)
    obtain rfl := q.symm
    refine R_iincN (x := i) (m := 1) rfl rfl rfl (by decide) ?_
    refine R_goto rfl rfl ?_
    refine am_R.mem (σ' := (setM σ k h w (adM f a b F (i + 1)))) ?_ ((ih (i + 1) (by omega)).weak ⟨rfl, rfl, rfl, rfl, rfl, trivial⟩)
    have e1 : adM f a b F i a i = f a i := by simp [adM]
    have e2 : adM f a b F i b i = f b i := by simp [adM]
    rw [gL_setM, if_pos ⟨by omega, by omega⟩, gL_setM, if_pos ⟨by omega, by omega⟩, e1, e2, setM_put (by omega) (by omega), adM_s]
set_option maxRecDepth 100000 in
set_option maxHeartbeats 4000000 in
theorem sp_Matrix_addMultiple {σ : am_G} {k h w : Nat} {f : Nat → Nat → Int64} {a b : Nat} {F : Int32} (hM : isMat k) (hv : vM σ k h w f) (ha : a < 6) (hb : b < 6) : am_Call am_TX 1 0 c_Matrix_addMultiple [.ref k, .int (nI a), .int (nI b), .int F] (mm σ) (am_Ok none (fun σ1 => σ1 = setM σ k h w (adM f a b F w))) := by
  have hh := hv.1.2
  have hw := hv.2.1.2
  refine ⟨mf_Matrix_addMultiple, Nat.le_of_ble_eq_true rfl, ?_⟩
  refine R_iconst (v := 0) rfl rfl ?_
  refine R_istore rfl (by decide) ?_
  refine am_R.mem (σ' := (setM σ k h w (adM f a b F 0))) (by rw [adM_0, setM_self hv]) ((lp_addMultiple hM hh hw ha hb (by omega) ?_ w 0 (by omega)).weak ⟨rfl, rfl, rfl, rfl, rfl, trivial⟩)
  exact T_return rfl rfl (am_okv0 rfl)
def adL (f g : Nat → Nat → Int64) (h n : Nat) : Nat → Nat → Int64 := fun i j => if i = h ∧ j < n then g 0 j else f i j
theorem adL_0 {f g : Nat → Nat → Int64} {h : Nat} : adL f g h 0 = f := by
  funext i j; simp [adL]
theorem adL_s {f g : Nat → Nat → Int64} {h n : Nat} : up2 (adL f g h n) h n (g 0 n) = adL f g h (n + 1) := by
  funext i j
  simp only [up2, adL]
  grind
theorem setM_h {σ : am_G} {k h h2 w : Nat} {f : Nat → Nat → Int64} : sI (setM σ k h w f) k 0 (nI h2) = setM σ k h2 w f := by
  refine Prod.ext ?_ rfl
  funext a b
  simp only [setM, sI, am_up]
  by_cases ha : a = k
  · simp only [if_pos ha]
    by_cases hb : b = 0
    · simp only [if_pos hb]
    · simp only [if_neg hb]
  · simp only [if_neg ha]
set_option maxRecDepth 100000 in
set_option maxHeartbeats 4000000 in
theorem lp_addLine {σ : am_G} {k h w : Nat} {f : Nat → Nat → Int64} {k2 h2 w2 : Nat} {g : Nat → Nat → Int64} {d k0 : Nat} {Q : am_Res → Prop} (hM : isMat k) (hh : h ≤ 6) (hw : w ≤ 6) (h6 : h < 6) (hM2 : isMat k2) (ha : matA k k2) (hv2 : vM σ k2 h2 w2 g) (hd : 1 ≤ d) (hx : am_R am_TX d k0 c_Matrix_addLine 40 [some (.ref k), some (.ref k2), some (.int (nI w))] [] (mm (setM σ k h w (adL f g h w))) Q) : ∀ (uu i : Nat), i + uu = w → am_R am_TX d k0 c_Matrix_addLine 11 [some (.ref k), some (.ref k2), some (.int (nI i))] [] (mm (setM σ k h w (adL f g h i))) Q := by
  intro uu
  induction uu with
  | zero =>
    intro i hi
    obtain rfl : w = i := by omega
    refine R_iload_n rfl rfl ?_
    refine R_aload_n rfl rfl ?_
    refine R_gIN (n := w) rfl hM.1 fd_4_1 (vM_setM hh hw).2.1.1 ?_
    refine R_nicmp_ge (x := w) (y := w) rfl rfl (by omega) (by omega) (fun h1 => ?_) (fun z => by omega)
    exact hx
  | succ uu ih =>
    intro i hi
    refine R_iload_n rfl rfl ?_
    refine R_aload_n rfl rfl ?_
    refine R_gIN (n := w) rfl hM.1 fd_4_1 (vM_setM hh hw).2.1.1 ?_
    refine R_nicmp_ge (x := i) (y := w) rfl rfl (by omega) (by omega) (fun z => by omega) (fun h1 => ?_)
    refine R_aload_n rfl rfl ?_
    refine R_aload_n rfl rfl ?_
    refine R_gIN (n := h) rfl hM.1 fd_4_0 (vM_setM hh hw).1.1 ?_
    refine R_iload_n rfl rfl ?_
    refine R_aload_n rfl rfl ?_
    refine R_iconst (v := 0) rfl rfl ?_
    refine R_iload_n rfl rfl ?_
    refine R_cV (as := [.int 0, .int (nI i)]) rfl rfl iv_Matrix_at (sp_Matrix_at (i := 0) (j := i) hM2 (by omega) (by omega)) (by omega) rfl rfl hM2.1 (by decide) rfl rfl (Nat.le_of_ble_eq_true rfl) (fun _ q => ?_)
    obtain rfl := q.symm
    refine R_cV (as := [.int (nI h), .int (nI i), .long (gL (setM σ k h w (adL f g h i)) k2 0 i)]) rfl rfl iv_Matrix_put (sp_Matrix_put (i := h) (j := i) hM (by omega) (by omega)) (by omega) rfl rfl hM.1 (by decide) rfl rfl (Nat.le_of_ble_eq_true rfl) (fun _ q => ?_)
    obtain rfl := q.symm
    refine R_iincN (x := i) (m := 1) rfl rfl rfl (by decide) ?_
    refine R_goto rfl rfl ?_
    refine am_R.mem (σ' := (setM σ k h w (adL f g h (i + 1)))) ?_ ((ih (i + 1) (by omega)).weak ⟨rfl, rfl, rfl, trivial⟩)
    rw [gL_off ha.1, hv2.at (by omega) (by omega), setM_put (by omega) (by omega), adL_s]
set_option maxRecDepth 100000 in
set_option maxHeartbeats 4000000 in
theorem sp_Matrix_addLine {σ : am_G} {k h w : Nat} {f : Nat → Nat → Int64} {k2 h2 w2 : Nat} {g : Nat → Nat → Int64} (hM : isMat k) (hv : vM σ k h w f) (h6 : h < 6) (hM2 : isMat k2) (ha : matA k k2) (hv2 : vM σ k2 h2 w2 g) : am_Call am_TX 1 0 c_Matrix_addLine [.ref k, .ref k2] (mm σ) (am_Ok none (fun σ1 => σ1 = setM σ k (h + 1) w (adL f g h w))) := by
  have hh := hv.1.2
  have hw := hv.2.1.2
  refine ⟨mf_Matrix_addLine, Nat.le_of_ble_eq_true rfl, ?_⟩
  refine R_aload_n rfl rfl ?_
  refine R_gIN (n := h) rfl hM.1 fd_4_0 hv.1.1 ?_
  refine R_bipush (v := 6) rfl (by decide) ?_
  refine R_nicmp_ge (x := h) (y := 6) rfl rfl (by omega) (by omega) (fun z => by omega) (fun h1 => ?_)
  refine R_iconst (v := 0) rfl rfl ?_
  refine R_istore_n rfl (by decide) ?_
  refine am_R.mem (σ' := (setM σ k h w (adL f g h 0))) (by rw [adL_0, setM_self hv]) ((lp_addLine hM hh hw h6 hM2 ha hv2 (by omega) ?_ w 0 (by omega)).weak ⟨rfl, rfl, rfl, trivial⟩)
  refine R_aload_n rfl rfl ?_
  refine R_dup rfl rfl ?_
  refine R_gIN (n := h) rfl hM.1 fd_4_0 (vM_setM hh hw).1.1 ?_
  refine R_iconst (v := 1) rfl rfl ?_
  refine R_iaddN (x := h) (y := 1) rfl ?_
  refine R_pI rfl hM.1 fw_4_0 rfl ?_
  exact T_return rfl rfl (am_okv0 setM_h)
def drL (f : Nat → Nat → Int64) (l w n c : Nat) : Nat → Nat → Int64 := fun i j => if (l ≤ i ∧ i < n ∧ j < w) ∨ (i = n ∧ j < c) then (if i + 1 < 6 then f (i + 1) j else 0) else f i j
theorem drL_0 {f : Nat → Nat → Int64} {l w : Nat} : drL f l w l 0 = f := by
  funext i j
  simp only [drL]
  rw [if_neg (by omega)]
theorem drL_s {f : Nat → Nat → Int64} {l w n c : Nat} : up2 (drL f l w n c) n c (if n + 1 < 6 then f (n + 1) c else 0) = drL f l w n (c + 1) := by
  funext i j
  simp only [up2, drL]
  by_cases h1 : i = n ∧ j = c
  · rw [if_pos h1, h1.1, h1.2]; rw [if_pos (show (l ≤ n ∧ n < n ∧ c < w) ∨ n = n ∧ c < c + 1 by omega)]
  · rw [if_neg h1]
    by_cases h2 : (l ≤ i ∧ i < n ∧ j < w) ∨ i = n ∧ j < c
    · rw [if_pos h2, if_pos (show (l ≤ i ∧ i < n ∧ j < w) ∨ i = n ∧ j < c + 1 by omega)]
    · rw [if_neg h2, if_neg (show ¬ ((l ≤ i ∧ i < n ∧ j < w) ∨ i = n ∧ j < c + 1) by omega)]
theorem drL_n {f : Nat → Nat → Int64} {l w n : Nat} (hl : l ≤ n) : drL f l w n w = drL f l w (n + 1) 0 := by
  funext i j
  simp only [drL]
  by_cases h2 : (l ≤ i ∧ i < n ∧ j < w) ∨ i = n ∧ j < w
  · rw [if_pos h2, if_pos (show (l ≤ i ∧ i < n + 1 ∧ j < w) ∨ i = n + 1 ∧ j < 0 by omega)]
  · rw [if_neg h2, if_neg (show ¬ ((l ≤ i ∧ i < n + 1 ∧ j < w) ∨ i = n + 1 ∧ j < 0) by omega)]
theorem drL_r {f : Nat → Nat → Int64} {l w n c : Nat} : drL f l w n c (n + 1) c = f (n + 1) c := by
  simp only [drL]
  rw [if_neg (by omega)]
set_option maxRecDepth 100000 in
set_option maxHeartbeats 4000000 in
theorem lp_drop1 {σ : am_G} {k h w : Nat} {f : Nat → Nat → Int64} {l r : Nat} {d k0 : Nat} {Q : am_Res → Prop} (hM : isMat k) (hh : h ≤ 6) (hw : w ≤ 6) (hl : l ≤ r) (hr : r < h) (hd : 1 ≤ d) (hx : am_R am_TX d k0 c_Matrix_dropLine 40 [some (.ref k), some (.int (nI l)), some (.int (nI r)), some (.int (nI w))] [] (mm (setM σ k h w (drL f l w r w))) Q) : ∀ (uu i : Nat), i + uu = w → am_R am_TX d k0 c_Matrix_dropLine 12 [some (.ref k), some (.int (nI l)), some (.int (nI r)), some (.int (nI i))] [] (mm (setM σ k h w (drL f l w r i))) Q := by
  intro uu
  induction uu with
  | zero =>
    intro i hi
    obtain rfl : w = i := by omega
    refine R_iload_n rfl rfl ?_
    refine R_aload_n rfl rfl ?_
    refine R_gIN (n := w) rfl hM.1 fd_4_1 (vM_setM hh hw).2.1.1 ?_
    refine R_nicmp_ge (x := w) (y := w) rfl rfl (by omega) (by omega) (fun h1 => ?_) (fun z => by omega)
    exact hx
  | succ uu ih =>
    intro i hi
    refine R_iload_n rfl rfl ?_
    refine R_aload_n rfl rfl ?_
    refine R_gIN (n := w) rfl hM.1 fd_4_1 (vM_setM hh hw).2.1.1 ?_
    refine R_nicmp_ge (x := i) (y := w) rfl rfl (by omega) (by omega) (fun z => by omega) (fun h1 => ?_)
    refine R_aload_n rfl rfl ?_
    refine R_iload_n rfl rfl ?_
    refine R_iload_n rfl rfl ?_
    refine R_aload_n rfl rfl ?_
    refine R_iload_n rfl rfl ?_
    refine R_iconst (v := 1) rfl rfl ?_
    refine R_iaddN (x := r) (y := 1) rfl ?_
    refine R_iload_n rfl rfl ?_
    refine R_cV (as := [.int (nI (r + 1)), .int (nI i)]) rfl rfl iv_Matrix_at (sp_Matrix_at (i := (r + 1)) (j := i) hM (by omega) (by omega)) (by omega) rfl rfl hM.1 (by decide) rfl rfl (Nat.le_of_ble_eq_true rfl) (fun _ q => ?_)
    obtain rfl := q.symm
    refine R_cV (as := [.int (nI r), .int (nI i), .long (gL (setM σ k h w (drL f l w r i)) k (r + 1) i)]) rfl rfl iv_Matrix_put (sp_Matrix_put (i := r) (j := i) hM (by omega) (by omega)) (by omega) rfl rfl hM.1 (by decide) rfl rfl (Nat.le_of_ble_eq_true rfl) (fun _ q => ?_)
    obtain rfl := q.symm
    refine R_iincN (x := i) (m := 1) rfl rfl rfl (by decide) ?_
    refine R_goto rfl rfl ?_
    refine am_R.mem (σ' := (setM σ k h w (drL f l w r (i + 1)))) ?_ ((ih (i + 1) (by omega)).weak ⟨rfl, rfl, rfl, rfl, trivial⟩)
    rw [gL_setM]
    have e : (if r + 1 < 6 ∧ i < 6 then drL f l w r i (r + 1) i else 0) = (if r + 1 < 6 then f (r + 1) i else 0) := by
      by_cases hx : r + 1 < 6
      · rw [if_pos ⟨hx, by omega⟩, if_pos hx, drL_r]
      · rw [if_neg (fun z => hx z.1), if_neg hx]
    rw [e, setM_put (by omega) (by omega), drL_s]
set_option maxRecDepth 100000 in
set_option maxHeartbeats 4000000 in
theorem lp_drop {σ : am_G} {k h w : Nat} {f : Nat → Nat → Int64} {l : Nat} {d k0 : Nat} {Q : am_Res → Prop} (hM : isMat k) (hh : h ≤ 6) (hw : w ≤ 6) (hd : 1 ≤ d) (hx : ∀ (τ : am_G), (τ = setM σ k h w (drL f l w h 0) ∧ l ≤ h) → am_R am_TX d k0 c_Matrix_dropLine 46 [some (.ref k), some (.int (nI l)), some (.int (nI h)), none] [] (mm τ) Q) : ∀ (uu i : Nat) (τ : am_G), i + uu = h → (τ = setM σ k h w (drL f l w i 0) ∧ l ≤ i) → am_R am_TX d k0 c_Matrix_dropLine 2 [some (.ref k), some (.int (nI l)), some (.int (nI i)), none] [] (mm τ) Q := by
  intro uu
  induction uu with
  | zero =>
    intro i τ hi hI
    obtain rfl : h = i := by omega
    have hli := hI.2
    refine R_iload_n rfl rfl ?_
    refine R_aload_n rfl rfl ?_
    refine R_gIN (n := h) rfl hM.1 fd_4_0 (by rw [hI.1]; exact (vM_setM hh hw).1.1) ?_
    refine R_nicmp_ge (x := h) (y := h) rfl rfl (by omega) (by omega) (fun h1 => ?_) (fun z => by omega)
    exact hx τ hI
  | succ uu ih =>
    intro i τ hi hI
    have hli := hI.2
    refine R_iload_n rfl rfl ?_
    refine R_aload_n rfl rfl ?_
    refine R_gIN (n := h) rfl hM.1 fd_4_0 (by rw [hI.1]; exact (vM_setM hh hw).1.1) ?_
    refine R_nicmp_ge (x := i) (y := h) rfl rfl (by omega) (by omega) (fun z => by omega) (fun h1 => ?_)
    refine R_iconst (v := 0) rfl rfl ?_
    refine R_istore_n rfl (by decide) ?_
    refine am_R.mem (σ' := (setM σ k h w (drL f l w i 0))) hI.1 ((lp_drop1 hM hh hw hI.2 (by omega) (by omega) ?_ w 0 (by omega)).weak ⟨rfl, rfl, rfl, rfl, trivial⟩)
    refine R_iincN (x := i) (m := 1) rfl rfl rfl (by decide) ?_
    refine R_goto rfl rfl ?_
    refine (ih (i + 1) (setM σ k h w (drL f l w i w)) (by omega) ?_).weak ⟨rfl, rfl, rfl, trivial⟩
    exact ⟨by rw [drL_n hI.2], by omega⟩
set_option maxRecDepth 100000 in
set_option maxHeartbeats 4000000 in
theorem sp_Matrix_dropLine {σ : am_G} {k h w : Nat} {f : Nat → Nat → Int64} {l : Nat} (hM : isMat k) (hv : vM σ k h w f) (hl : l < h) : am_Call am_TX 1 0 c_Matrix_dropLine [.ref k, .int (nI l)] (mm σ) (am_Ok none (fun σ1 => σ1 = setM σ k (h - 1) w (drL f l w h 0))) := by
  have hh := hv.1.2
  have hw := hv.2.1.2
  refine ⟨mf_Matrix_dropLine, Nat.le_of_ble_eq_true rfl, ?_⟩
  refine R_iload_n rfl rfl ?_
  refine R_istore_n rfl (by decide) ?_
  refine (lp_drop hM hh hw (by omega) (fun τ hτ => ?_) (h - l) l _ (by omega) (⟨by rw [drL_0, setM_self hv], Nat.le_refl _⟩)).weak ⟨rfl, rfl, rfl, trivial⟩
  refine R_aload_n rfl rfl ?_
  refine R_dup rfl rfl ?_
  refine R_gIN (n := h) rfl hM.1 fd_4_0 (by rw [hτ.1]; exact (vM_setM hh hw).1.1) ?_
  refine R_iconst (v := 1) rfl rfl ?_
  refine R_isubN (x := h) (y := 1) rfl (by omega) ?_
  refine R_pI rfl hM.1 fw_4_0 rfl ?_
  exact T_return rfl rfl (am_okv0 (by rw [hτ.1]; exact setM_h))
def tuF (g : Nat → Nat → Int64) (w n c : Nat) : Nat → Nat → Int64 := fun i j => if (i < n ∧ j < w) ∨ (i = n ∧ j < c) then g j i else 0
theorem tuF_s {g : Nat → Nat → Int64} {w n c : Nat} : up2 (tuF g w n c) n c (g c n) = tuF g w n (c + 1) := by
  funext i j
  simp only [up2, tuF]
  by_cases h1 : i = n ∧ j = c
  · rw [if_pos h1, h1.1, h1.2, if_pos (show (n < n ∧ c < w) ∨ n = n ∧ c < c + 1 by omega)]
  · rw [if_neg h1]
    by_cases h2 : (i < n ∧ j < w) ∨ i = n ∧ j < c
    · rw [if_pos h2, if_pos (show (i < n ∧ j < w) ∨ i = n ∧ j < c + 1 by omega)]
    · rw [if_neg h2, if_neg (show ¬ ((i < n ∧ j < w) ∨ i = n ∧ j < c + 1) by omega)]
theorem tuF_n {g : Nat → Nat → Int64} {w n : Nat} : tuF g w n w = tuF g w (n + 1) 0 := by
  funext i j
  simp only [tuF]
  by_cases h2 : (i < n ∧ j < w) ∨ i = n ∧ j < w
  · rw [if_pos h2, if_pos (show (i < n + 1 ∧ j < w) ∨ i = n + 1 ∧ j < 0 by omega)]
  · rw [if_neg h2, if_neg (show ¬ ((i < n + 1 ∧ j < w) ∨ i = n + 1 ∧ j < 0) by omega)]
theorem tuF_0 {g : Nat → Nat → Int64} {w : Nat} : tuF g w 0 0 = fun _ _ => 0 := by
  funext i j
  simp [tuF]
set_option maxRecDepth 100000 in
set_option maxHeartbeats 4000000 in
theorem lp_turn1 {σ : am_G} {k h w k2 : Nat} {g : Nat → Nat → Int64} {r : Nat} {d k0 : Nat} {Q : am_Res → Prop} (hM : isMat k) (hh : h ≤ 6) (hw : w ≤ 6) (hM2 : isMat k2) (ha : matA k k2) (hv2 : vM σ k2 w h g) (hr : r < h) (hd : 1 ≤ d) (hx : am_R am_TX d k0 c_Matrix_turnFrom 50 [some (.ref k), some (.ref k2), some (.int (nI r)), some (.int (nI w))] [] (mm (setM σ k h w (tuF g w r w))) Q) : ∀ (uu i : Nat), i + uu = w → am_R am_TX d k0 c_Matrix_turnFrom 24 [some (.ref k), some (.ref k2), some (.int (nI r)), some (.int (nI i))] [] (mm (setM σ k h w (tuF g w r i))) Q := by
  intro uu
  induction uu with
  | zero =>
    intro i hi
    obtain rfl : w = i := by omega
    refine R_iload_n rfl rfl ?_
    refine R_aload_n rfl rfl ?_
    refine R_gIN (n := w) rfl hM.1 fd_4_1 (vM_setM hh hw).2.1.1 ?_
    refine R_nicmp_ge (x := w) (y := w) rfl rfl (by omega) (by omega) (fun h1 => ?_) (fun z => by omega)
    exact hx
  | succ uu ih =>
    intro i hi
    refine R_iload_n rfl rfl ?_
    refine R_aload_n rfl rfl ?_
    refine R_gIN (n := w) rfl hM.1 fd_4_1 (vM_setM hh hw).2.1.1 ?_
    refine R_nicmp_ge (x := i) (y := w) rfl rfl (by omega) (by omega) (fun z => by omega) (fun h1 => ?_)
    refine R_aload_n rfl rfl ?_
    refine R_iload_n rfl rfl ?_
    refine R_iload_n rfl rfl ?_
    refine R_aload_n rfl rfl ?_
    refine R_iload_n rfl rfl ?_
    refine R_iload_n rfl rfl ?_
    refine R_cV (as := [.int (nI i), .int (nI r)]) rfl rfl iv_Matrix_at (sp_Matrix_at (i := i) (j := r) hM2 (by omega) (by omega)) (by omega) rfl rfl hM2.1 (by decide) rfl rfl (Nat.le_of_ble_eq_true rfl) (fun _ q => ?_)
    obtain rfl := q.symm
    refine R_cV (as := [.int (nI r), .int (nI i), .long (gL (setM σ k h w (tuF g w r i)) k2 i r)]) rfl rfl iv_Matrix_put (sp_Matrix_put (i := r) (j := i) hM (by omega) (by omega)) (by omega) rfl rfl hM.1 (by decide) rfl rfl (Nat.le_of_ble_eq_true rfl) (fun _ q => ?_)
    obtain rfl := q.symm
    refine R_iincN (x := i) (m := 1) rfl rfl rfl (by decide) ?_
    refine R_goto rfl rfl ?_
    refine am_R.mem (σ' := (setM σ k h w (tuF g w r (i + 1)))) ?_ ((ih (i + 1) (by omega)).weak ⟨rfl, rfl, rfl, rfl, trivial⟩)
    rw [gL_off ha.1, hv2.at (by omega) (by omega), setM_put (by omega) (by omega), tuF_s]
set_option maxRecDepth 100000 in
set_option maxHeartbeats 4000000 in
theorem lp_turn {σ : am_G} {k h w k2 : Nat} {g : Nat → Nat → Int64} {d k0 : Nat} {Q : am_Res → Prop} (hM : isMat k) (hh : h ≤ 6) (hw : w ≤ 6) (hM2 : isMat k2) (ha : matA k k2) (hv2 : vM σ k2 w h g) (hd : 1 ≤ d) (hx : am_R am_TX d k0 c_Matrix_turnFrom 56 [some (.ref k), some (.ref k2), some (.int (nI h)), none] [] (mm (setM σ k h w (tuF g w h 0))) Q) : ∀ (uu i : Nat), i + uu = h → am_R am_TX d k0 c_Matrix_turnFrom 14 [some (.ref k), some (.ref k2), some (.int (nI i)), none] [] (mm (setM σ k h w (tuF g w i 0))) Q := by
  intro uu
  induction uu with
  | zero =>
    intro i hi
    obtain rfl : h = i := by omega
    refine R_iload_n rfl rfl ?_
    refine R_aload_n rfl rfl ?_
    refine R_gIN (n := h) rfl hM.1 fd_4_0 (vM_setM hh hw).1.1 ?_
    refine R_nicmp_ge (x := h) (y := h) rfl rfl (by omega) (by omega) (fun h1 => ?_) (fun z => by omega)
    exact hx
  | succ uu ih =>
    intro i hi
    refine R_iload_n rfl rfl ?_
    refine R_aload_n rfl rfl ?_
    refine R_gIN (n := h) rfl hM.1 fd_4_0 (vM_setM hh hw).1.1 ?_
    refine R_nicmp_ge (x := i) (y := h) rfl rfl (by omega) (by omega) (fun z => by omega) (fun h1 => ?_)
    refine R_iconst (v := 0) rfl rfl ?_
    refine R_istore_n rfl (by decide) ?_
    refine am_R.mem (σ' := (setM σ k h w (tuF g w i 0))) rfl ((lp_turn1 hM hh hw hM2 ha hv2 (by omega) (by omega) ?_ w 0 (by omega)).weak ⟨rfl, rfl, rfl, rfl, trivial⟩)
    refine R_iincN (x := i) (m := 1) rfl rfl rfl (by decide) ?_
    refine R_goto rfl rfl ?_
    refine am_R.mem (σ' := (setM σ k h w (tuF g w (i + 1) 0))) ?_ ((ih (i + 1) (by omega)).weak ⟨rfl, rfl, rfl, trivial⟩)
    rw [tuF_n]
set_option maxRecDepth 100000 in
set_option maxHeartbeats 4000000 in
theorem sp_Matrix_turnFrom {σ : am_G} {k h w k2 : Nat} {g : Nat → Nat → Int64} (hM : isMat k) (hM2 : isMat k2) (ha : matA k k2) (hv2 : vM σ k2 w h g) : am_Call am_TX 1 0 c_Matrix_turnFrom [.ref k, .ref k2] (mm σ) (am_Ok none (fun σ1 => σ1 = setM σ k h w (tuF g w h 0))) := by
  have hw := hv2.1.2
  have hh := hv2.2.1.2
  refine ⟨mf_Matrix_turnFrom, Nat.le_of_ble_eq_true rfl, ?_⟩
  refine R_aload_n rfl rfl ?_
  refine R_aload_n rfl rfl ?_
  refine R_gIN (n := h) rfl hM2.1 fd_4_1 hv2.2.1.1 ?_
  refine R_aload_n rfl rfl ?_
  refine R_gIN (n := w) rfl hM2.1 fd_4_0 hv2.1.1 ?_
  refine R_cV (as := [.int (nI h), .int (nI w)]) rfl rfl iv_Matrix_reset (sp_Matrix_reset (h := h) (w := w) hM) (by decide) rfl rfl hM.1 (by decide) rfl rfl (Nat.le_of_ble_eq_true rfl) (fun _ q => ?_)
  obtain rfl := q.symm
  refine R_iconst (v := 0) rfl rfl ?_
  refine R_istore_n rfl (by decide) ?_
  refine am_R.mem (σ' := (setM σ k h w (tuF g w 0 0))) (by rw [tuF_0]) ((lp_turn hM hh hw hM2 ha hv2 (by omega) ?_ h 0 (by omega)).weak ⟨rfl, rfl, rfl, trivial⟩)
  exact T_return rfl rfl (am_okv0 rfl)
