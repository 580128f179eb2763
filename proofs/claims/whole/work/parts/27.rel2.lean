/-! ===== relations ===== -/
def r0G (f : am_Gr) (w R C n : Nat) : am_Gr := fun i j => if i = 0 ∧ j < n ∧ R.testBit j = true then sgL R j (mnF f (wo R j) w C) else 0
theorem r0G_0 {f : am_Gr} {w R C : Nat} : r0G f w R C 0 = fun _ _ => 0 := by
  funext i j
  simp [r0G]
theorem r0G_t {f : am_Gr} {w R C n : Nat} (h : R.testBit n = true) : up2 (r0G f w R C n) 0 n (sgL R n (mnF f (wo R n) w C)) = r0G f w R C (n + 1) := by
  funext i j
  simp only [up2, r0G]
  grind
theorem r0G_f {f : am_Gr} {w R C n : Nat} (h : ¬ R.testBit n = true) : r0G f w R C n = r0G f w R C (n + 1) := by
  funext i j
  simp only [r0G]
  grind
/-- a row's relation, modulo m -/
def rlG (f : am_Gr) (m h w r : Nat) : am_Gr := scG m (r0G f w (wi (prR f m h w r) r) (prC f m (prR f m h w r) h w w) h) h r h
set_option maxRecDepth 100000 in
set_option maxHeartbeats 4000000 in
theorem lp_rel {σ : am_G} {k h w m r R C : Nat} {f : am_Gr} {d k0 : Nat} {Q : am_Res → Prop} (hM : isMat k) (hk : 24 ≤ k ∨ k = 21) (hv : vM σ k h w f) (hR : R < 64) (hC : C < 64) (hd : 4 ≤ d) (hx : ∀ (τ : am_G), (smP (pRl) σ τ ∧ vM τ 17 1 h (r0G f w R C h)) → am_R am_TX d k0 c_Reckoner_relationOfRow 102 [some (.ref 16), some (.ref k), some (.int (nI m)), some (.int (nI r)), none, some (.int (nI C)), some (.int (nI R)), some (.int (nI h))] [] (mm τ) Q) : ∀ (uu i : Nat) (τ : am_G), i + uu = h → (smP (pRl) σ τ ∧ vM τ 17 1 h (r0G f w R C i)) → am_R am_TX d k0 c_Reckoner_relationOfRow 46 [some (.ref 16), some (.ref k), some (.int (nI m)), some (.int (nI r)), none, some (.int (nI C)), some (.int (nI R)), some (.int (nI i))] [] (mm τ) Q := by
  have hh := hv.1.2
  have hw := hv.2.1.2
  intro uu
  induction uu with
  | zero =>
    intro i τ hi hI
    obtain rfl : h = i := by omega
    refine R_iload rfl rfl ?_
    refine R_aload_n rfl rfl ?_
    refine R_gIN (n := h) rfl hM.1 fd_4_0 (hI.1.vM hv (fun b => by unfold pRl; omega) (fun b => by unfold pRl; omega)).1.1 ?_
    refine R_nicmp_ge (x := h) (y := h) rfl rfl (by omega) (by omega) (fun h1 => ?_) (fun z => by omega)
    exact hx τ hI
  | succ uu ih =>
    intro i τ hi hI
    refine R_iload rfl rfl ?_
    refine R_aload_n rfl rfl ?_
    refine R_gIN (n := h) rfl hM.1 fd_4_0 (hI.1.vM hv (fun b => by unfold pRl; omega) (fun b => by unfold pRl; omega)).1.1 ?_
    refine R_nicmp_ge (x := i) (y := h) rfl rfl (by omega) (by omega) (fun z => by omega) (fun h1 => ?_)
    refine R_iload rfl rfl ?_
    refine R_iload rfl rfl ?_
    refine R_cN (as := [.int (nI R), .int (nI i)]) rfl rfl iv_D_has (sp_has (s := R) (k := i) (by first | assumption | exact lw_lt (by omega) | exact wi_lt (by first | assumption | omega) (by omega) | exact wo_lt (by first | assumption | omega) (by omega) | omega) (by omega)) (by omega) rfl rfl rfl rfl (Nat.le_of_ble_eq_true rfl) (fun _ q => ?_)
    obtain rfl := q.symm
    refine R_zif_eq rfl rfl (fun h2 => ?_) (fun h2 => ?_)
    · refine R_iincN (x := i) (m := 1) rfl rfl rfl (by decide) ?_
      refine R_goto rfl rfl ?_
      exact (ih (i + 1) τ (by omega) ⟨hI.1, by rw [← r0G_f h2]; exact hI.2⟩).weak ⟨rfl, rfl, rfl, rfl, rfl, rfl, rfl, trivial⟩
    · refine R_aload_n rfl rfl ?_
      refine R_gP (x := 17) rfl rfl fp_7_0 rfl ?_
      refine R_iconst (v := 0) rfl rfl ?_
      refine R_iload rfl rfl ?_
      refine R_aload_n rfl rfl ?_
      refine R_aload_n rfl rfl ?_
      refine R_iload rfl rfl ?_
      refine R_iload rfl rfl ?_
      refine R_cN (as := [.int (nI R), .int (nI i)]) rfl rfl iv_D_without (sp_without (s := R) (k := i) (by first | assumption | exact lw_lt (by omega) | exact wi_lt (by first | assumption | omega) (by omega) | exact wo_lt (by first | assumption | omega) (by omega) | omega) (by omega)) (by omega) rfl rfl rfl rfl (Nat.le_of_ble_eq_true rfl) (fun _ q => ?_)
      obtain rfl := q.symm
      refine R_iload rfl rfl ?_
      refine R_cV (as := [.ref k, .int (nI (wo R i)), .int (nI C)]) rfl rfl iv_Reckoner_minorOf (sp_minorOf (S := (wo R i)) (s := C) hM (by omega) (hI.1.vM hv (fun b => by unfold pRl; omega) (fun b => by unfold pRl; omega)) (by first | assumption | exact lw_lt (by omega) | exact wi_lt (by first | assumption | omega) (by omega) | exact wo_lt (by first | assumption | omega) (by omega) | omega) (by first | assumption | exact lw_lt (by omega) | exact wi_lt (by first | assumption | omega) (by omega) | exact wo_lt (by first | assumption | omega) (by omega) | omega)) (by omega) rfl rfl rfl (by decide) rfl rfl (Nat.le_of_ble_eq_true rfl) (fun σ3 hσ3 => ?_)
      refine R_iload rfl rfl ?_
      refine R_iload rfl rfl ?_
      refine R_cN (as := [.long (mnF f (wo R i) w C), .int (nI R), .int (nI i)]) rfl rfl iv_D_signed (sp_signed (v := (mnF f (wo R i) w C)) (s := R) (k := i) (by first | assumption | exact lw_lt (by omega) | exact wi_lt (by first | assumption | omega) (by omega) | exact wo_lt (by first | assumption | omega) (by omega) | omega) (by omega)) (by omega) rfl rfl rfl rfl (Nat.le_of_ble_eq_true rfl) (fun _ q => ?_)
      obtain rfl := q.symm
      refine R_cV (as := [.int 0, .int (nI i), .long (sgL R i (mnF f (wo R i) w C))]) rfl rfl iv_Matrix_put (sp_Matrix_put (i := 0) (j := i) (⟨rfl, rfl, rfl⟩ : isMat 17) (by omega) (by omega)) (by omega) rfl rfl rfl (by decide) rfl rfl (Nat.le_of_ble_eq_true rfl) (fun _ q => ?_)
      obtain rfl := q.symm
      refine R_iincN (x := i) (m := 1) rfl rfl rfl (by decide) ?_
      refine R_goto rfl rfl ?_
      refine (ih (i + 1) (uL σ3 17 0 i (sgL R i (mnF f (wo R i) w C))) (by omega) ⟨((hI.1.trans (hσ3.mono (q := pRl) (fun a b => by unfold plc pRl; omega))).trans (smP_uL (p := pRl) (fun b => by unfold pRl; omega))), ?_⟩).weak ⟨rfl, rfl, rfl, rfl, rfl, rfl, rfl, trivial⟩
      rw [← r0G_t h2]
      exact (hσ3.vM hI.2 (fun b => by unfold plc; omega) (fun b => by unfold plc; omega)).put (by omega) (by omega)
set_option maxRecDepth 100000 in
set_option maxHeartbeats 4000000 in
theorem sp_relationOfRow {σ : am_G} {k h w m r : Nat} {f : am_Gr} (hM : isMat k) (hk : 24 ≤ k ∨ k = 21) (hv : vM σ k h w f) (hm : m < 2 ^ 31) (hr : r < h) : am_Call am_TX 6 0 c_Reckoner_relationOfRow [.ref 16, .ref k, .int (nI m), .int (nI r)] (mm σ) (am_Ok (some (.ref 17)) (fun σ1 => smP pRl σ σ1 ∧ vM σ1 17 1 h (rlG f m h w r))) := by
  have hh := hv.1.2
  have hw := hv.2.1.2
  have hB := @prR_lt f m h w r (by omega)
  have hC := @prC_lt f m (prR f m h w r) h w w hw
  refine ⟨mf_Reckoner_relationOfRow, Nat.le_of_ble_eq_true rfl, ?_⟩
  refine R_aload_n rfl rfl ?_
  refine R_aload_n rfl rfl ?_
  refine R_iload_n rfl rfl ?_
  refine R_cV (as := [.ref k, .int (nI m)]) rfl rfl iv_Reckoner_profileOfRows (sp_profileOfRows (m := m) hM (by omega) hv (by omega)) (by decide) rfl rfl rfl (by decide) rfl rfl (Nat.le_of_ble_eq_true rfl) (fun σ1 hσ1 => ?_)
  refine R_iload_n rfl rfl ?_
  refine R_cN (as := [.int (nI r)]) rfl rfl iv_D_lowest (sp_lowest (n := r) (by omega)) (by decide) rfl rfl rfl rfl (Nat.le_of_ble_eq_true rfl) (fun _ q => ?_)
  obtain rfl := q.symm
  refine R_iand rfl ?_
  rw [prR_and hh (by omega)]
  refine R_istore rfl (by decide) ?_
  refine R_aload_n rfl rfl ?_
  refine R_aload_n rfl rfl ?_
  refine R_iload_n rfl rfl ?_
  refine R_iload rfl rfl ?_
  refine R_cV (as := [.ref k, .int (nI m), .int (nI (prR f m h w r))]) rfl rfl iv_Reckoner_profileOfColumns (sp_profileOfColumns (m := m) (S := (prR f m h w r)) hM (by omega) ((hσ1.mono (q := pRl) (fun a b => by unfold plc pRl; omega)).vM hv (fun b => by unfold pRl; omega) (fun b => by unfold pRl; omega)) (by omega) (by first | assumption | exact lw_lt (by omega) | exact wi_lt (by first | assumption | omega) (by omega) | exact wo_lt (by first | assumption | omega) (by omega) | omega)) (by decide) rfl rfl rfl (by decide) rfl rfl (Nat.le_of_ble_eq_true rfl) (fun σ4 hσ4 => ?_)
  refine R_istore rfl (by decide) ?_
  refine R_iload rfl rfl ?_
  refine R_iconst (v := 1) rfl rfl ?_
  refine R_iload_n rfl rfl ?_
  refine R_shl1N (y := r) rfl (by omega) ?_
  refine R_iorB (s := (prR f m h w r)) (y := r) rfl (by first | assumption | omega) (by omega) ?_
  refine R_istore rfl (by decide) ?_
  refine R_aload_n rfl rfl ?_
  refine R_gP (x := 17) rfl rfl fp_7_0 rfl ?_
  refine R_iconst (v := 1) rfl rfl ?_
  refine R_aload_n rfl rfl ?_
  refine R_gIN (n := h) rfl hM.1 fd_4_0 (((hσ1.mono (q := pRl) (fun a b => by unfold plc pRl; omega)).trans (hσ4.mono (q := pRl) (fun a b => by unfold plc pRl; omega))).vM hv (fun b => by unfold pRl; omega) (fun b => by unfold pRl; omega)).1.1 ?_
  refine R_cV (as := [.int 1, .int (nI h)]) rfl rfl iv_Matrix_reset (sp_Matrix_reset (h := 1) (w := h) (⟨rfl, rfl, rfl⟩ : isMat 17)) (by decide) rfl rfl rfl (by decide) rfl rfl (Nat.le_of_ble_eq_true rfl) (fun _ q => ?_)
  obtain rfl := q.symm
  refine R_iconst (v := 0) rfl rfl ?_
  refine R_istore rfl (by decide) ?_
  refine (lp_rel (m := m) (r := r) (R := (wi (prR f m h w r) r)) (C := (prC f m (prR f m h w r) h w w)) hM hk hv (wi_lt hB (by omega)) hC (by omega) (fun τ1 hτ1 => ?_) h 0 _ (by omega) ⟨(((hσ1.mono (q := pRl) (fun a b => by unfold plc pRl; omega)).trans (hσ4.mono (q := pRl) (fun a b => by unfold plc pRl; omega))).trans (smP_setM (p := pRl) (fun b => by unfold pRl; omega) (fun b => by unfold pRl; omega))), by rw [r0G_0]; exact vM_setM (by omega) hh⟩).weak ⟨rfl, rfl, rfl, rfl, rfl, rfl, rfl, trivial⟩
  refine R_aload_n rfl rfl ?_
  refine R_iload_n rfl rfl ?_
  refine R_iload_n rfl rfl ?_
  refine R_cV (as := [.int (nI m), .int (nI r)]) rfl rfl iv_Reckoner_scaleRelation (sp_scaleRelation (m := m) (r := r) hτ1.2 hm hr) (by decide) rfl rfl rfl (by decide) rfl rfl (Nat.le_of_ble_eq_true rfl) (fun _ q => ?_)
  obtain rfl := q.symm
  refine R_aload_n rfl rfl ?_
  refine R_gP (x := 17) rfl rfl fp_7_0 rfl ?_
  exact T_areturn rfl rfl (am_okr rfl ⟨(hτ1.1.trans (smP_setM (p := pRl) (fun b => by unfold pRl; omega) (fun b => by unfold pRl; omega))), vM_setM (by omega) hh⟩)
def ffN (G : am_Gr) (row : Nat) : Nat → Nat → Int64
  | 0, _ => 0
  | u + 1, c => if G row c = 0 then ffN G row u (c + 1) else G row c
def esG (G : am_Gr) (m w n c : Nat) : am_Gr := fun i j => if (i < n ∧ j < w) ∨ (i = n ∧ j < c) then rdL m (ivL m (ffN G i w 0) * G i j) else G i j
theorem esG_0 {G : am_Gr} {m w : Nat} : esG G m w 0 0 = G := by
  funext i j; simp [esG]
theorem esG_s {G : am_Gr} {m w n c : Nat} : up2 (esG G m w n c) n c (rdL m (ivL m (ffN G n w 0) * G n c)) = esG G m w n (c + 1) := by
  funext i j
  simp only [up2, esG]
  by_cases h1 : i = n ∧ j = c
  · rw [if_pos h1, h1.1, h1.2, if_pos (show (n < n ∧ c < w) ∨ n = n ∧ c < c + 1 by omega)]
  · rw [if_neg h1]
    by_cases h2 : (i < n ∧ j < w) ∨ i = n ∧ j < c
    · rw [if_pos h2, if_pos (show (i < n ∧ j < w) ∨ i = n ∧ j < c + 1 by omega)]
    · rw [if_neg h2, if_neg (show ¬ ((i < n ∧ j < w) ∨ i = n ∧ j < c + 1) by omega)]
theorem esG_n {G : am_Gr} {m w n : Nat} : esG G m w n w = esG G m w (n + 1) 0 := by
  funext i j
  simp only [esG]
  by_cases h2 : (i < n ∧ j < w) ∨ i = n ∧ j < w
  · rw [if_pos h2, if_pos (show (i < n + 1 ∧ j < w) ∨ i = n + 1 ∧ j < 0 by omega)]
  · rw [if_neg h2, if_neg (show ¬ ((i < n + 1 ∧ j < w) ∨ i = n + 1 ∧ j < 0) by omega)]
theorem esG_r {G : am_Gr} {m w n c : Nat} : esG G m w n c n c = G n c := by
  unfold esG; rw [if_neg (by omega)]
theorem ffN_es {G : am_Gr} {m w n : Nat} : ∀ u c, ffN (esG G m w n 0) n u c = ffN G n u c := by
  intro u
  induction u with
  | zero => intro c; rfl
  | succ u ih =>
    intro c
    have e : esG G m w n 0 n c = G n c := by unfold esG; rw [if_neg (by omega)]
    simp only [ffN, e, ih]
set_option maxRecDepth 100000 in
set_option maxHeartbeats 4000000 in
theorem lp_ff {σ : am_G} {h w : Nat} {G : am_Gr} {row : Nat} {d k0 : Nat} (hh : h ≤ 6) (hw : w ≤ 6) (hr : row < 6) (hd : 1 ≤ d)  : ∀ (uu i : Nat), i + uu = w → am_R am_TX d k0 c_Reckoner_firstFilled 2 [some (.ref 16), some (.int (nI row)), some (.int (nI i))] [] (mm (setM σ 19 h w G)) (am_Ok (some (.long (ffN G row uu i))) (fun σ1 => σ1 = (setM σ 19 h w G))) := by
  intro uu
  induction uu with
  | zero =>
    intro i hi
    obtain rfl : w = i := by omega
    skip
    refine R_iload_n rfl rfl ?_
    refine R_aload_n rfl rfl ?_
    refine R_gP (x := 19) rfl rfl fp_7_1 rfl ?_
    refine R_gIN (n := w) rfl rfl fd_4_1 (vM_setM hh hw).2.1.1 ?_
    refine R_nicmp_ge (x := w) (y := w) rfl rfl (by omega) (by omega) (fun h1 => ?_) (fun z => by omega)
    refine R_lconst (v := 0) rfl rfl ?_
    exact T_lreturn rfl rfl (am_okl (rfl) rfl)
  | succ uu ih =>
    intro i hi
    have eg : gL (setM σ 19 h w G) 19 row i = G row i := by rw [gL_setM, if_pos ⟨by omega, by omega⟩]
    refine R_iload_n rfl rfl ?_
    refine R_aload_n rfl rfl ?_
    refine R_gP (x := 19) rfl rfl fp_7_1 rfl ?_
    refine R_gIN (n := w) rfl rfl fd_4_1 (vM_setM hh hw).2.1.1 ?_
    refine R_nicmp_ge (x := i) (y := w) rfl rfl (by omega) (by omega) (fun z => by omega) (fun h1 => ?_)
    refine R_aload_n rfl rfl ?_
    refine R_gP (x := 19) rfl rfl fp_7_1 rfl ?_
    refine R_iload_n rfl rfl ?_
    refine R_iload_n rfl rfl ?_
    refine R_cV (as := [.int (nI row), .int (nI i)]) rfl rfl iv_Matrix_at (sp_Matrix_at (i := row) (j := i) (⟨rfl, rfl, rfl⟩ : isMat 19) (by omega) (by omega)) (by omega) rfl rfl rfl (by decide) rfl rfl (Nat.le_of_ble_eq_true rfl) (fun _ q => ?_)
    obtain rfl := q.symm
    refine R_lconst (v := 0) rfl rfl ?_
    refine R_l_eq rfl rfl rfl (fun h2 => ?_) (fun h2 => ?_)
    · refine R_iincN (x := i) (m := 1) rfl rfl rfl (by decide) ?_
      refine R_goto rfl rfl ?_
      rw [eg] at h2
      have e := ih (i + 1) (by omega)
      rw [show ffN G row (uu + 1) i = ffN G row uu (i + 1) from if_pos h2]
      exact e.weak ⟨rfl, rfl, rfl, trivial⟩
    · refine R_aload_n rfl rfl ?_
      refine R_gP (x := 19) rfl rfl fp_7_1 rfl ?_
      refine R_iload_n rfl rfl ?_
      refine R_iload_n rfl rfl ?_
      refine R_cV (as := [.int (nI row), .int (nI i)]) rfl rfl iv_Matrix_at (sp_Matrix_at (i := row) (j := i) (⟨rfl, rfl, rfl⟩ : isMat 19) (by omega) (by omega)) (by omega) rfl rfl rfl (by decide) rfl rfl (Nat.le_of_ble_eq_true rfl) (fun _ q => ?_)
      obtain rfl := q.symm
      exact T_lreturn rfl rfl (am_okl (by rw [eg] at h2 ⊢; exact (if_neg h2).symm) rfl)
set_option maxRecDepth 100000 in
set_option maxHeartbeats 4000000 in
theorem sp_firstFilled {σ : am_G} {h w : Nat} {G : am_Gr} {row : Nat} (hh : h ≤ 6) (hw : w ≤ 6) (hr : row < 6) : am_Call am_TX 1 0 c_Reckoner_firstFilled [.ref 16, .int (nI row)] (mm (setM σ 19 h w G)) (am_Ok (some (.long (ffN G row w 0))) (fun σ1 => σ1 = (setM σ 19 h w G))) := by
  refine ⟨mf_Reckoner_firstFilled, Nat.le_of_ble_eq_true rfl, ?_⟩
  refine R_iconst (v := 0) rfl rfl ?_
  refine R_istore_n rfl (by decide) ?_
  exact (lp_ff hh hw hr (by omega) w 0 (by omega)).weak ⟨rfl, rfl, rfl, trivial⟩
set_option maxRecDepth 100000 in
set_option maxHeartbeats 4000000 in
theorem lp_ech1 {σ : am_G} {h w : Nat} {G : am_Gr} {m n : Nat} {d k0 : Nat} {Q : am_Res → Prop} (hh : h ≤ 6) (hw : w ≤ 6) (hm : m < 2 ^ 31) (hn : n < h) (hd : 2 ≤ d) (hx : am_R am_TX d k0 c_Reckoner_echelonForm 101 [some (.ref 16), none, some (.int (nI m)), some (.int (nI n)), some (.long (ivL m (ffN G n w 0))), none, some (.int (nI w))] [] (mm (setM σ 19 h w (esG G m w n w))) Q) : ∀ (uu i : Nat), i + uu = w → am_R am_TX d k0 c_Reckoner_echelonForm 55 [some (.ref 16), none, some (.int (nI m)), some (.int (nI n)), some (.long (ivL m (ffN G n w 0))), none, some (.int (nI i))] [] (mm (setM σ 19 h w (esG G m w n i))) Q := by
  intro uu
  induction uu with
  | zero =>
    intro i hi
    obtain rfl : w = i := by omega
    refine R_iload rfl rfl ?_
    refine R_aload_n rfl rfl ?_
    refine R_gP (x := 19) rfl rfl fp_7_1 rfl ?_
    refine R_gIN (n := w) rfl rfl fd_4_1 (vM_setM hh hw).2.1.1 ?_
    refine R_nicmp_ge (x := w) (y := w) rfl rfl (by omega) (by omega) (fun h1 => ?_) (fun z => by omega)
    exact hx
  | succ uu ih =>
    intro i hi
    refine R_iload rfl rfl ?_
    refine R_aload_n rfl rfl ?_
    refine R_gP (x := 19) rfl rfl fp_7_1 rfl ?_
    refine R_gIN (n := w) rfl rfl fd_4_1 (vM_setM hh hw).2.1.1 ?_
    refine R_nicmp_ge (x := i) (y := w) rfl rfl (by omega) (by omega) (fun z => by omega) (fun h1 => ?_)
    refine R_aload_n rfl rfl ?_
    refine R_gP (x := 19) rfl rfl fp_7_1 rfl ?_
    refine R_iload_n rfl rfl ?_
    refine R_iload rfl rfl ?_
    refine R_lload rfl rfl ?_
    refine R_aload_n rfl rfl ?_
    refine R_gP (x := 19) rfl rfl fp_7_1 rfl ?_
    refine R_iload_n rfl rfl ?_
    refine R_iload rfl rfl ?_
    refine R_cV (as := [.int (nI n), .int (nI i)]) rfl rfl iv_Matrix_at (sp_Matrix_at (i := n) (j := i) (⟨rfl, rfl, rfl⟩ : isMat 19) (by omega) (by omega)) (by omega) rfl rfl rfl (by decide) rfl rfl (Nat.le_of_ble_eq_true rfl) (fun _ q => ?_)
    obtain rfl := q.symm
    refine R_lmul rfl ?_
    refine R_iload_n rfl rfl ?_
    refine R_i2l rfl ?_
    refine R_cN (as := [.long ((ivL m (ffN G n w 0)) * (gL (setM σ 19 h w (esG G m w n i)) 19 n i)), .long ((nI m).toInt64)]) rfl rfl iv_D_remainder (sp_rem (v := ((ivL m (ffN G n w 0)) * (gL (setM σ 19 h w (esG G m w n i)) 19 n i))) (n := m) (by omega)) (by omega) rfl rfl rfl rfl (Nat.le_of_ble_eq_true rfl) (fun _ q => ?_)
    obtain rfl := q.symm
    refine R_cV (as := [.int (nI n), .int (nI i), .long (rdL m ((ivL m (ffN G n w 0)) * (gL (setM σ 19 h w (esG G m w n i)) 19 n i)))]) rfl rfl iv_Matrix_put (sp_Matrix_put (i := n) (j := i) (⟨rfl, rfl, rfl⟩ : isMat 19) (by omega) (by omega)) (by omega) rfl rfl rfl (by decide) rfl rfl (Nat.le_of_ble_eq_true rfl) (fun _ q => ?_)
    obtain rfl := q.symm
    refine R_iincN (x := i) (m := 1) rfl rfl rfl (by decide) ?_
    refine R_goto rfl rfl ?_
    refine am_R.mem (σ' := (setM σ 19 h w (esG G m w n (i + 1)))) ?_ ((ih (i + 1) (by omega)).weak ⟨rfl, rfl, rfl, rfl, rfl, trivial⟩)
    rw [gL_setM, if_pos ⟨by omega, by omega⟩, esG_r, setM_put (by omega) (by omega), esG_s]
set_option maxRecDepth 100000 in
set_option maxHeartbeats 4000000 in
theorem lp_ech {σ : am_G} {h w : Nat} {G : am_Gr} {m : Nat} {d k0 : Nat} {Q : am_Res → Prop} (hh : h ≤ 6) (hw : w ≤ 6) (hm : m < 2 ^ 31) (hd : 3 ≤ d) (hx : am_R am_TX d k0 c_Reckoner_echelonForm 107 [some (.ref 16), none, some (.int (nI m)), some (.int (nI h)), none, none, none] [] (mm (setM σ 19 h w (esG G m w h 0))) Q) : ∀ (uu i : Nat), i + uu = h → am_R am_TX d k0 c_Reckoner_echelonForm 29 [some (.ref 16), none, some (.int (nI m)), some (.int (nI i)), none, none, none] [] (mm (setM σ 19 h w (esG G m w i 0))) Q := by
  intro uu
  induction uu with
  | zero =>
    intro i hi
    obtain rfl : h = i := by omega
    refine R_iload_n rfl rfl ?_
    refine R_aload_n rfl rfl ?_
    refine R_gP (x := 19) rfl rfl fp_7_1 rfl ?_
    refine R_gIN (n := h) rfl rfl fd_4_0 (vM_setM hh hw).1.1 ?_
    refine R_nicmp_ge (x := h) (y := h) rfl rfl (by omega) (by omega) (fun h1 => ?_) (fun z => by omega)
    exact hx
  | succ uu ih =>
    intro i hi
    refine R_iload_n rfl rfl ?_
    refine R_aload_n rfl rfl ?_
    refine R_gP (x := 19) rfl rfl fp_7_1 rfl ?_
    refine R_gIN (n := h) rfl rfl fd_4_0 (vM_setM hh hw).1.1 ?_
    refine R_nicmp_ge (x := i) (y := h) rfl rfl (by omega) (by omega) (fun z => by omega) (fun h1 => ?_)
    refine R_aload_n rfl rfl ?_
    refine R_aload_n rfl rfl ?_
    refine R_iload_n rfl rfl ?_
    refine R_cV (as := [.int (nI i)]) rfl rfl iv_Reckoner_firstFilled ((by have z := sp_firstFilled (σ := σ) (h := h) (w := w) (G := esG G m w i 0) (row := i) hh hw (by omega); rw [ffN_es] at z; exact z)) (by omega) rfl rfl rfl (by decide) rfl rfl (Nat.le_of_ble_eq_true rfl) (fun _ q => ?_)
    obtain rfl := q.symm
    refine R_iload_n rfl rfl ?_
    refine R_cV (as := [.long (ffN G i w 0), .int (nI m)]) rfl rfl iv_Reckoner_inverse (sp_inverse (v := (ffN G i w 0)) (n := m) (by omega)) (by omega) rfl rfl rfl (by decide) rfl rfl (Nat.le_of_ble_eq_true rfl) (fun _ q => ?_)
    obtain rfl := q.symm
    refine R_lstore rfl (by decide) ?_
    refine R_iconst (v := 0) rfl rfl ?_
    refine R_istore rfl (by decide) ?_
    refine am_R.mem (σ' := (setM σ 19 h w (esG G m w i 0))) rfl ((lp_ech1 (n := i) hh hw hm (by omega) (by omega) ?_ w 0 (by omega)).weak ⟨rfl, rfl, rfl, rfl, rfl, trivial⟩)
    refine R_iincN (x := i) (m := 1) rfl rfl rfl (by decide) ?_
    refine R_goto rfl rfl ?_
    refine am_R.mem (σ' := (setM σ 19 h w (esG G m w (i + 1) 0))) ?_ ((ih (i + 1) (by omega)).weak ⟨rfl, rfl, rfl, trivial⟩)
    rw [esG_n]
/-- the echelon form of a grid: its rows, its numbers -/
def ecR (f : am_Gr) (m h w : Nat) : Nat := (el m true (nb (2 ^ h - 1) h) (pc (2 ^ w - 1)) (gaA f m (2 ^ h - 1) (2 ^ w - 1) h w) (pc (2 ^ w - 1))).2.1
def ecG (f : am_Gr) (m h w : Nat) : am_Gr := esG (el m true (nb (2 ^ h - 1) h) (pc (2 ^ w - 1)) (gaA f m (2 ^ h - 1) (2 ^ w - 1) h w) (pc (2 ^ w - 1))).1 m (pc (2 ^ w - 1)) (ecR f m h w) 0
theorem ecR_le {f : am_Gr} {m h w : Nat} (hh : h ≤ 6) : ecR f m h w ≤ 6 := by
  have h1 := (@el_r m true (nb (2 ^ h - 1) h) (pc (2 ^ w - 1)) (gaA f m (2 ^ h - 1) (2 ^ w - 1) h w) (pc (2 ^ w - 1))).2
  have h2 := @nb_le (2 ^ h - 1) h
  unfold ecR; omega
set_option maxRecDepth 100000 in
set_option maxHeartbeats 4000000 in
theorem sp_echelonForm {σ : am_G} {k h w m : Nat} {f : am_Gr} (hM : isMat k) (hk : 21 ≤ k) (hv : vM σ k h w f) (hm : m < 2 ^ 31) : am_Call am_TX 4 0 c_Reckoner_echelonForm [.ref 16, .ref k, .int (nI m)] (mm σ) (am_Ok (some (.ref 19)) (fun σ1 => smP (plc 19 21) σ σ1 ∧ vM σ1 19 (ecR f m h w) (pc (2 ^ w - 1)) (ecG f m h w))) := by
  have hh := hv.1.2
  have hw := hv.2.1.2
  refine ⟨mf_Reckoner_echelonForm, Nat.le_of_ble_eq_true rfl, ?_⟩
  refine R_aload_n rfl rfl ?_
  refine R_aload_n rfl rfl ?_
  refine R_iload_n rfl rfl ?_
  refine R_aload_n rfl rfl ?_
  refine R_cV (as := []) rfl rfl iv_Matrix_allRows (sp_Matrix_allRows hM hv.1.1 hv.1.2) (by decide) rfl rfl hM.1 (by decide) rfl rfl (Nat.le_of_ble_eq_true rfl) (fun _ q => ?_)
  obtain rfl := q.symm
  refine R_aload_n rfl rfl ?_
  refine R_cV (as := []) rfl rfl iv_Matrix_allColumns (sp_Matrix_allColumns hM hv.2.1.1 hv.2.1.2) (by decide) rfl rfl hM.1 (by decide) rfl rfl (Nat.le_of_ble_eq_true rfl) (fun _ q => ?_)
  obtain rfl := q.symm
  refine R_cV (as := [.ref k, .int (nI m), .int (nI (2 ^ h - 1)), .int (nI (2 ^ w - 1))]) rfl rfl iv_Reckoner_gather (sp_gather (m := m) hM ⟨by omega, by omega, by omega⟩ hv hm (lw_lt hh) (lw_lt hw)) (by decide) rfl rfl rfl (by decide) rfl rfl (Nat.le_of_ble_eq_true rfl) (fun _ q => ?_)
  obtain rfl := q.symm
  refine R_aload_n rfl rfl ?_
  refine R_gP (x := 19) rfl rfl fp_7_1 rfl ?_
  refine R_aload_n rfl rfl ?_
  refine R_iload_n rfl rfl ?_
  refine R_iconst (v := 1) rfl rfl ?_
  refine R_cV (as := [.int (nI m), .int 1]) rfl rfl iv_Reckoner_eliminate (sp_elim_1 (G := (gaA f m (2 ^ h - 1) (2 ^ w - 1) h w)) (h := nb (2 ^ h - 1) h) (w := pc (2 ^ w - 1)) (m := m) (Nat.le_trans (nb_le h) hh) pc_le hm) (by decide) rfl rfl rfl (by decide) rfl rfl (Nat.le_of_ble_eq_true rfl) (fun _ q => ?_)
  obtain rfl := q.symm
  refine R_pI rfl rfl fw_4_0 rfl ?_
  refine R_iconst (v := 0) rfl rfl ?_
  refine R_istore_n rfl (by decide) ?_
  refine am_R.mem (σ' := (setM σ 19 (ecR f m h w) (pc (2 ^ w - 1)) (esG (el m true (nb (2 ^ h - 1) h) (pc (2 ^ w - 1)) (gaA f m (2 ^ h - 1) (2 ^ w - 1) h w) (pc (2 ^ w - 1))).1 m (pc (2 ^ w - 1)) 0 0))) (by rw [setM_h, esG_0]; rfl) ((lp_ech (G := (el m true (nb (2 ^ h - 1) h) (pc (2 ^ w - 1)) (gaA f m (2 ^ h - 1) (2 ^ w - 1) h w) (pc (2 ^ w - 1))).1) (ecR_le hh) pc_le hm (by omega) ?_ (ecR f m h w) 0 (by omega)).weak ⟨rfl, rfl, rfl, trivial⟩)
  refine R_aload_n rfl rfl ?_
  refine R_gP (x := 19) rfl rfl fp_7_1 rfl ?_
  exact T_areturn rfl rfl (am_okr rfl ⟨smP_setM (fun b => by unfold plc; omega) (fun b => by unfold plc; omega), vM_setM (ecR_le hh) pc_le⟩)
set_option maxRecDepth 100000 in
set_option maxHeartbeats 4000000 in
theorem sp_turned {σ : am_G} {k h w : Nat} {f : am_Gr} (hM : isMat k) (hk : 24 ≤ k) (hv : vM σ k h w f) : am_Call am_TX 2 0 c_Reckoner_turned [.ref 16, .ref k] (mm σ) (am_Ok (some (.ref 21)) (fun σ1 => σ1 = setM σ 21 w h (tuF f h w 0))) := by
  have hh := hv.1.2
  have hw := hv.2.1.2
  refine ⟨mf_Reckoner_turned, Nat.le_of_ble_eq_true rfl, ?_⟩
  refine R_aload_n rfl rfl ?_
  refine R_gP (x := 21) rfl rfl fp_7_2 rfl ?_
  refine R_aload_n rfl rfl ?_
  refine R_cV (as := [.ref k]) rfl rfl iv_Matrix_turnFrom (sp_Matrix_turnFrom (h := w) (w := h) (g := f) (k := 21) ⟨rfl, rfl, rfl⟩ hM ⟨by omega, by omega, by omega⟩ hv) (by decide) rfl rfl rfl (by decide) rfl rfl (Nat.le_of_ble_eq_true rfl) (fun _ q => ?_)
  obtain rfl := q.symm
  refine R_aload_n rfl rfl ?_
  refine R_gP (x := 21) rfl rfl fp_7_2 rfl ?_
  exact T_areturn rfl rfl (am_okr rfl rfl)
