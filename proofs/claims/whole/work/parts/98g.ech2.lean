/-! ===== the model's echelon form ===== -/
theorem nmG_s {G : am_Gr} {pr m n : Nat} {s : Int64} : up2 (nmG G pr m s n) pr n (remL (G pr n * s) (nI m).toInt64) = nmG G pr m s (n + 1) := by
  funext i j
  simp only [up2, nmG]
  by_cases e : i = pr ∧ j = n
  · rw [if_pos e, if_pos (by omega), e.2]
  · rw [if_neg e]
    by_cases a : i = pr ∧ j < n
    · rw [if_pos a, if_pos (by omega)]
    · rw [if_neg a, if_neg (by omega)]
theorem nmG_0 {G : am_Gr} {pr m : Nat} {s : Int64} : nmG G pr m s 0 = G := by
  funext i j; unfold nmG; rw [if_neg (by omega)]
theorem nmG_now {G : am_Gr} {pr m n k : Nat} {s : Int64} : nmG G pr m s n k n = G k n := by unfold nmG; rw [if_neg (by omega)]
theorem icG_s {G : am_Gr} {r pr m n : Nat} {F : Int64} : up2 (icG G r pr m F n) r n (rdL m (G r n - F * G pr n)) = icG G r pr m F (n + 1) := by
  funext i j
  simp only [up2, icG]
  by_cases e : i = r ∧ j = n
  · rw [if_pos e, if_pos (by omega), e.2]
  · rw [if_neg e]
    by_cases a : i = r ∧ j < n
    · rw [if_pos a, if_pos (by omega)]
    · rw [if_neg a, if_neg (by omega)]
theorem icG_0 {G : am_Gr} {r pr m : Nat} {F : Int64} : icG G r pr m F 0 = G := by
  funext i j; unfold icG; rw [if_neg (by omega)]
theorem icG_now {G : am_Gr} {r pr m n k : Nat} {F : Int64} : icG G r pr m F n k n = G k n := by unfold icG; rw [if_neg (by omega)]
theorem ocG_0 {G : am_Gr} {c pr m w : Nat} : ocG G c pr m w 0 = G := by
  funext i j; unfold ocG; rw [if_neg (by omega)]
theorem ocG_now {G : am_Gr} {c pr m w n j : Nat} : ocG G c pr m w n n j = G n j := by unfold ocG; rw [if_neg (by omega)]
theorem ocG_pr {G : am_Gr} {c pr m w n j : Nat} : ocG G c pr m w n pr j = G pr j := by unfold ocG; rw [if_neg (fun z => z.2.1 rfl)]
theorem ocG_skip {G : am_Gr} {c pr m w : Nat} : ocG G c pr m w (pr + 1) = ocG G c pr m w pr := by
  funext i j
  unfold ocG
  by_cases a : i < pr ∧ i ≠ pr ∧ j < w
  · rw [if_pos a, if_pos (by omega)]
  · rw [if_neg a, if_neg (by omega)]
theorem ocG_s {G : am_Gr} {c pr m w n : Nat} (hne : n ≠ pr) : icG (ocG G c pr m w n) n pr m (G n c) w = ocG G c pr m w (n + 1) := by
  funext i j
  unfold icG
  rw [ocG_now, ocG_pr]
  by_cases e : i = n ∧ j < w
  · rw [if_pos e, e.1]
    unfold ocG
    rw [if_pos (by omega)]
  · rw [if_neg e]
    unfold ocG
    by_cases a : i < n ∧ i ≠ pr ∧ j < w
    · rw [if_pos a, if_pos (by omega)]
    · rw [if_neg a, if_neg (by omega)]
set_option maxRecDepth 100000 in
set_option maxHeartbeats 4000000 in
theorem lp_cc1 {σ : am_G} {h w : Nat} {G : am_Gr} {rk c m : Nat} {s : Int64} {d k0 : Nat} {Q : am_Res → Prop} (hh : h ≤ 6) (hw : w ≤ 6) (hr : rk < 6) (hm0 : ¬ (nI m).toInt64 = 0) (hd : 1 ≤ d) (hx : am_R am_TX d k0 c_M_clearColumn 65 [some (.ref 120), some (.int (nI m)), some (.int (nI rk)), some (.int (nI c)), some (.long s), none, some (.int (nI w)), none, none, none] [] (mm (setK σ (nI h) (nI w) (nmG G rk m s w))) Q) : ∀ (uu i : Nat), i + uu = w → am_R am_TX d k0 c_M_clearColumn 20 [some (.ref 120), some (.int (nI m)), some (.int (nI rk)), some (.int (nI c)), some (.long s), none, some (.int (nI i)), none, none, none] [] (mm (setK σ (nI h) (nI w) (nmG G rk m s i))) Q := by
  intro uu
  induction uu with
  | zero =>
    intro i hi
    obtain rfl : w = i := by omega
    refine R_iload rfl rfl ?_
    refine R_aload_n rfl rfl ?_
    refine R_gIN (n := w) rfl rfl fd_11_7 setK_w ?_
    refine R_nicmp_ge (x := w) (y := w) rfl rfl (by omega) (by omega) (fun g1 => ?_) (fun z => by omega)
    exact hx
  | succ uu ih =>
    intro i hi
    refine R_iload rfl rfl ?_
    refine R_aload_n rfl rfl ?_
    refine R_gIN (n := w) rfl rfl fd_11_7 setK_w ?_
    refine R_nicmp_ge (x := i) (y := w) rfl rfl (by omega) (by omega) (fun z => by omega) (fun g1 => ?_)
    refine R_aload_n rfl rfl ?_
    refine R_gP (x := 123) rfl rfl fp_11_5 rfl ?_
    refine R_bipush (v := 6) rfl (by decide) ?_
    refine R_iload_n rfl rfl ?_
    refine R_imulN (x := 6) (y := rk) rfl ?_
    refine R_iload rfl rfl ?_
    refine R_iaddN (x := (6 * rk)) (y := i) rfl ?_
    refine R_aload_n rfl rfl ?_
    refine R_gP (x := 123) rfl rfl fp_11_5 rfl ?_
    refine R_bipush (v := 6) rfl (by decide) ?_
    refine R_iload_n rfl rfl ?_
    refine R_imulN (x := 6) (y := rk) rfl ?_
    refine R_iload rfl rfl ?_
    refine R_iaddN (x := (6 * rk)) (y := i) rfl ?_
    refine R_xL (j := ((6 * rk) + i)) rfl rfl rfl (by omega) (by decide) ?_
    refine R_lload rfl rfl ?_
    refine R_lmul rfl ?_
    refine R_iload_n rfl rfl ?_
    refine R_i2l rfl ?_
    refine R_lrem rfl hm0 ?_
    refine R_wL (j := ((6 * rk) + i)) rfl rfl rfl (by omega) (by decide) ?_
    refine R_iincN (x := i) (m := 1) rfl rfl rfl (by decide) ?_
    refine R_goto rfl rfl ?_
    refine am_R.mem (σ' := (setK σ (nI h) (nI w) (nmG G rk m s (i + 1)))) ?_ ((ih (i + 1) (by omega)).weak ⟨rfl, rfl, rfl, rfl, rfl, rfl, trivial⟩)
    rw [setK_at (by omega) (by omega), nmG_now, setK_put (by omega) (by omega), ← nmG_s]
    rfl
set_option maxRecDepth 100000 in
set_option maxHeartbeats 4000000 in
theorem lp_cc3 {σ : am_G} {h w : Nat} {G : am_Gr} {rk r c m : Nat} {s F : Int64} {d k0 : Nat} {Q : am_Res → Prop} (hh : h ≤ 6) (hw : w ≤ 6) (hr : rk < 6) (hr2 : r < 6) (hne : ¬ r = rk) (hm : m < 2 ^ 31) (hd : 1 ≤ d) (hx : am_R am_TX d k0 c_M_clearColumn 161 [some (.ref 120), some (.int (nI m)), some (.int (nI rk)), some (.int (nI c)), some (.long s), none, some (.int (nI r)), some (.long F), none, some (.int (nI w))] [] (mm (setK σ (nI h) (nI w) (icG G r rk m F w))) Q) : ∀ (uu i : Nat), i + uu = w → am_R am_TX d k0 c_M_clearColumn 94 [some (.ref 120), some (.int (nI m)), some (.int (nI rk)), some (.int (nI c)), some (.long s), none, some (.int (nI r)), some (.long F), none, some (.int (nI i))] [] (mm (setK σ (nI h) (nI w) (icG G r rk m F i))) Q := by
  intro uu
  induction uu with
  | zero =>
    intro i hi
    obtain rfl : w = i := by omega
    refine R_iload rfl rfl ?_
    refine R_aload_n rfl rfl ?_
    refine R_gIN (n := w) rfl rfl fd_11_7 setK_w ?_
    refine R_nicmp_ge (x := w) (y := w) rfl rfl (by omega) (by omega) (fun g1 => ?_) (fun z => by omega)
    exact hx
  | succ uu ih =>
    intro i hi
    refine R_iload rfl rfl ?_
    refine R_aload_n rfl rfl ?_
    refine R_gIN (n := w) rfl rfl fd_11_7 setK_w ?_
    refine R_nicmp_ge (x := i) (y := w) rfl rfl (by omega) (by omega) (fun z => by omega) (fun g1 => ?_)
    refine R_iload rfl rfl ?_
    refine R_iload_n rfl rfl ?_
    refine R_nicmp_eq (x := r) (y := rk) rfl rfl (by omega) (by omega) (fun z => by omega) (fun g2 => ?_)
    refine R_aload_n rfl rfl ?_
    refine R_gP (x := 123) rfl rfl fp_11_5 rfl ?_
    refine R_bipush (v := 6) rfl (by decide) ?_
    refine R_iload rfl rfl ?_
    refine R_imulN (x := 6) (y := r) rfl ?_
    refine R_iload rfl rfl ?_
    refine R_iaddN (x := (6 * r)) (y := i) rfl ?_
    refine R_aload_n rfl rfl ?_
    refine R_gP (x := 123) rfl rfl fp_11_5 rfl ?_
    refine R_bipush (v := 6) rfl (by decide) ?_
    refine R_iload rfl rfl ?_
    refine R_imulN (x := 6) (y := r) rfl ?_
    refine R_iload rfl rfl ?_
    refine R_iaddN (x := (6 * r)) (y := i) rfl ?_
    refine R_xL (j := ((6 * r) + i)) rfl rfl rfl (by omega) (by decide) ?_
    refine R_lload rfl rfl ?_
    refine R_aload_n rfl rfl ?_
    refine R_gP (x := 123) rfl rfl fp_11_5 rfl ?_
    refine R_bipush (v := 6) rfl (by decide) ?_
    refine R_iload_n rfl rfl ?_
    refine R_imulN (x := 6) (y := rk) rfl ?_
    refine R_iload rfl rfl ?_
    refine R_iaddN (x := (6 * rk)) (y := i) rfl ?_
    refine R_xL (j := ((6 * rk) + i)) rfl rfl rfl (by omega) (by decide) ?_
    refine R_lmul rfl ?_
    refine R_lsub rfl ?_
    refine R_iload_n rfl rfl ?_
    refine R_cS (as := [.long (((setK σ (nI h) (nI w) (icG G r rk m F i)).2.1 123 ((6 * r) + i)) - (F * ((setK σ (nI h) (nI w) (icG G r rk m F i)).2.1 123 ((6 * rk) + i)))), .int (nI m)]) rfl rfl iv_M_reduced (sp_reduced (v := (((setK σ (nI h) (nI w) (icG G r rk m F i)).2.1 123 ((6 * r) + i)) - (F * ((setK σ (nI h) (nI w) (icG G r rk m F i)).2.1 123 ((6 * rk) + i))))) (n := m) (by omega)) (by omega) rfl rfl rfl rfl (Nat.le_of_ble_eq_true rfl) (fun _ q => ?_)
    obtain rfl := q.symm
    refine R_wL (j := ((6 * r) + i)) rfl rfl rfl (by omega) (by decide) ?_
    refine R_iincN (x := i) (m := 1) rfl rfl rfl (by decide) ?_
    refine R_goto rfl rfl ?_
    refine am_R.mem (σ' := (setK σ (nI h) (nI w) (icG G r rk m F (i + 1)))) ?_ ((ih (i + 1) (by omega)).weak ⟨rfl, rfl, rfl, rfl, rfl, rfl, rfl, rfl, trivial⟩)
    rw [setK_at (by omega) (by omega), setK_at (by omega) (by omega), icG_now, icG_now, setK_put (by omega) (by omega), ← icG_s]
set_option maxRecDepth 100000 in
set_option maxHeartbeats 4000000 in
theorem cc_eq {σ : am_G} {h w : Nat} {G : am_Gr} {rk c m d k0 : Nat} {s F : Int64} {Q : am_Res → Prop} (hh : h ≤ 6) (hw : w ≤ 6) (hr : rk < 6) (hx : am_R am_TX d k0 c_M_clearColumn 161 [some (.ref 120), some (.int (nI m)), some (.int (nI rk)), some (.int (nI c)), some (.long s), none, some (.int (nI rk)), some (.long F), none, some (.int (nI 0))] [] (mm (setK σ (nI h) (nI w) G)) Q) : am_R am_TX d k0 c_M_clearColumn 94 [some (.ref 120), some (.int (nI m)), some (.int (nI rk)), some (.int (nI c)), some (.long s), none, some (.int (nI rk)), some (.long F), none, some (.int (nI 0))] [] (mm (setK σ (nI h) (nI w) G)) Q := by
  refine R_iload rfl rfl ?_
  refine R_aload_n rfl rfl ?_
  refine R_gIN (n := w) rfl rfl fd_11_7 setK_w ?_
  refine R_nicmp_ge (x := 0) (y := w) rfl rfl (by omega) (by omega) (fun g1 => ?_) (fun g1 => ?_)
  · exact hx
  · refine R_iload rfl rfl ?_
    refine R_iload_n rfl rfl ?_
    refine R_nicmp_eq (x := rk) (y := rk) rfl rfl (by omega) (by omega) (fun g2 => ?_) (fun z => by omega)
    exact hx
set_option maxRecDepth 100000 in
set_option maxHeartbeats 4000000 in
theorem lp_cc2 {σ : am_G} {h w : Nat} {G : am_Gr} {rk c m d k0 : Nat} {s : Int64} (hh : h ≤ 6) (hw : w ≤ 6) (hr : rk < h) (hc : c < w) (hm : m < 2 ^ 31) (hd : 1 ≤ d) : ∀ (uu i : Nat), i + uu = h → am_R am_TX d k0 c_M_clearColumn 68 [some (.ref 120), some (.int (nI m)), some (.int (nI rk)), some (.int (nI c)), some (.long s), none, some (.int (nI i)), none, none, none] [] (mm (setK σ (nI h) (nI w) (ocG G c rk m w i))) (am_Ok none (fun σ1 => σ1 = (setK σ (nI h) (nI w) (ocG G c rk m w h)))) := by
  intro uu
  induction uu with
  | zero =>
    intro i hi
    obtain rfl : h = i := by omega
    refine R_iload rfl rfl ?_
    refine R_aload_n rfl rfl ?_
    refine R_gIN (n := h) rfl rfl fd_11_6 setK_h ?_
    refine R_nicmp_ge (x := h) (y := h) rfl rfl (by omega) (by omega) (fun g1 => ?_) (fun z => by omega)
    exact T_return rfl rfl (am_okv0 rfl)
  | succ uu ih =>
    intro i hi
    refine R_iload rfl rfl ?_
    refine R_aload_n rfl rfl ?_
    refine R_gIN (n := h) rfl rfl fd_11_6 setK_h ?_
    refine R_nicmp_ge (x := i) (y := h) rfl rfl (by omega) (by omega) (fun z => by omega) (fun g1 => ?_)
    refine R_aload_n rfl rfl ?_
    refine R_gP (x := 123) rfl rfl fp_11_5 rfl ?_
    refine R_bipush (v := 6) rfl (by decide) ?_
    refine R_iload rfl rfl ?_
    refine R_imulN (x := 6) (y := i) rfl ?_
    refine R_iload_n rfl rfl ?_
    refine R_iaddN (x := (6 * i)) (y := c) rfl ?_
    refine R_xL (j := ((6 * i) + c)) rfl rfl rfl (by omega) (by decide) ?_
    refine R_lstore rfl (by decide) ?_
    refine R_iconst (v := 0) rfl rfl ?_
    refine R_istore rfl (by decide) ?_
    rw [setK_at (by omega) (by omega), ocG_now]
    by_cases hne : i = rk
    · subst hne
      refine (cc_eq (G := ocG G c i m w i) hh hw (by omega) ?_).weak ⟨rfl, rfl, rfl, rfl, rfl, rfl, rfl, rfl, trivial⟩
      refine R_iincN (x := i) (m := 1) rfl rfl rfl (by decide) ?_
      refine R_goto rfl rfl ?_
      refine am_R.mem (σ' := (setK σ (nI h) (nI w) (ocG G c i m w (i + 1)))) (by rw [ocG_skip]) ((ih (i + 1) (by omega)).weak ⟨rfl, rfl, rfl, rfl, rfl, rfl, trivial⟩)
    · refine am_R.mem (σ' := (setK σ (nI h) (nI w) (icG (ocG G c rk m w i) i rk m (G i c) 0))) (by rw [icG_0]) ((lp_cc3 (G := ocG G c rk m w i) (F := G i c) hh hw (by omega) (by omega) hne hm (by omega) ?_ w 0 (by omega)).weak ⟨rfl, rfl, rfl, rfl, rfl, rfl, rfl, rfl, trivial⟩)
      refine R_iincN (x := i) (m := 1) rfl rfl rfl (by decide) ?_
      refine R_goto rfl rfl ?_
      refine am_R.mem (σ' := (setK σ (nI h) (nI w) (ocG G c rk m w (i + 1)))) (by rw [ocG_s hne]) ((ih (i + 1) (by omega)).weak ⟨rfl, rfl, rfl, rfl, rfl, rfl, trivial⟩)
set_option maxRecDepth 100000 in
set_option maxHeartbeats 4000000 in
theorem sp_clearColumn {σ : am_G} {h w : Nat} {G : am_Gr} {rk c m : Nat} (hh : h ≤ 6) (hw : w ≤ 6) (hr : rk < h) (hc : c < w) (hp : m ∈ prL) (hg : rg m (G rk c)) (hz : ¬ G rk c = 0) : am_Call am_TX 1 0 c_M_clearColumn [.ref 120, .int (nI m), .int (nI rk), .int (nI c)] (mm (setK σ (nI h) (nI w) G)) (am_Ok none (fun σ1 => σ1 = (setK σ (nI h) (nI w) (ocG (nmG G rk m (ivL m (G rk c)) w) c rk m w h)))) := by
  have hb := prL_le m hp
  have hm0 : ¬ (nI m).toInt64 = 0 := nI_64z (by omega) (by omega)
  have hnd : ¬ (m : Int) ∣ (G rk c).toInt := fun z => hz ((rg_z hg).mpr z)
  have hmb : mB (G rk c) := by unfold mB; have := rg_97 hb.2 hg; omega
  refine ⟨mf_M_clearColumn, Nat.le_of_ble_eq_true rfl, ?_⟩
  refine R_aload_n rfl rfl ?_
  refine R_gP (x := 123) rfl rfl fp_11_5 rfl ?_
  refine R_bipush (v := 6) rfl (by decide) ?_
  refine R_iload_n rfl rfl ?_
  refine R_imulN (x := 6) (y := rk) rfl ?_
  refine R_iload_n rfl rfl ?_
  refine R_iaddN (x := (6 * rk)) (y := c) rfl ?_
  refine R_xL (j := ((6 * rk) + c)) rfl rfl rfl (by omega) (by decide) ?_
  refine R_iload_n rfl rfl ?_
  rw [setK_at (by omega) (by omega)]
  refine R_cS (as := [.long (G rk c), .int (nI m)]) rfl rfl iv_M_inverse (by have z := sp_minverse (σ := (setK σ (nI h) (nI w) G)) hmb hp hnd; rw [rdL_in (by omega) hg] at z; exact z) (by omega) rfl rfl rfl rfl (Nat.le_of_ble_eq_true rfl) (fun _ q => ?_)
  obtain rfl := q.symm
  refine R_lstore rfl (by decide) ?_
  refine R_iconst (v := 0) rfl rfl ?_
  refine R_istore rfl (by decide) ?_
  refine am_R.mem (σ' := (setK σ (nI h) (nI w) (nmG G rk m (ivL m (G rk c)) 0))) (by rw [nmG_0]) ((lp_cc1 (s := ivL m (G rk c)) hh hw (by omega) hm0 (by omega) ?_ w 0 (by omega)).weak ⟨rfl, rfl, rfl, rfl, rfl, rfl, trivial⟩)
  refine R_iconst (v := 0) rfl rfl ?_
  refine R_istore rfl (by decide) ?_
  exact am_R.mem (σ' := (setK σ (nI h) (nI w) (ocG (nmG G rk m (ivL m (G rk c)) w) c rk m w 0))) (by rw [ocG_0]) ((lp_cc2 (s := ivL m (G rk c)) hh hw hr hc (by omega) (by omega) h 0 (by omega)).weak ⟨rfl, rfl, rfl, rfl, rfl, rfl, trivial⟩)
