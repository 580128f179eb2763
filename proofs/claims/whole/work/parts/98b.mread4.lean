/-! ===== the model reads a row ===== -/
/-- the token at the head of a column: a comma stands there, but for the first -/
def mS (B : List Int32) (n : Nat) (t0 : am_T) : Nat → am_T
  | 0 => t0
  | j + 1 => nx B n (eT B n (rS B n t0 j))
theorem mS_r {B : List Int32} {n : Nat} {t0 : am_T} : ∀ j, 0 < j → nx B n (mS B n t0 j) = rS B n t0 j
  | 0, h => absurd h (Nat.lt_irrefl 0)
  | _ + 1, _ => rfl
def rwM (B : List Int32) (n : Nat) (t0 : am_T) : Nat → Nat → Option (Nat × Nat)
  | 0, _ => none
  | u + 1, j => if j = 0 ∨ isSy B 44 (mS B n t0 j) then (if ckN 0 20 (eT B n (rS B n t0 j)) = 0 then rwM B n t0 u (j + 1) else some (ckN 0 20 (eT B n (rS B n t0 j)), (eT B n (rS B n t0 j)).1)) else some (1, (mS B n t0 j).1)
theorem rw_rE {B : List Int32} {n w : Nat} {t0 : am_T} : ∀ u j, j + (u + 1) = w → (j = 0 ∨ isSy B 44 (mS B n t0 j)) → rE B n w t0 (u + 1) j = match rwM B n t0 (u + 1) j with
    | some e => some e
    | none => if isSy B 59 (mS B n t0 w) then none else some (1, (mS B n t0 w).1)
  | 0, j, hj, hs => by
    have e1 : j = w - 1 := by omega
    have e2 : mS B n t0 w = nx B n (eT B n (rS B n t0 j)) := by rw [show w = j + 1 by omega]; rfl
    simp only [rE, rwM]
    rw [if_pos hs, if_pos e1, e2]
    by_cases c : ckN 0 20 (eT B n (rS B n t0 j)) = 0
    · rw [if_pos c, if_pos c]
    · rw [if_neg c, if_neg c]
  | u + 1, j, hj, hs => by
    have e1 : ¬ j = w - 1 := by omega
    have ih := @rw_rE B n w t0 u (j + 1) (by omega)
    rw [show rE B n w t0 (u + 1 + 1) j = if ckN 0 20 (eT B n (rS B n t0 j)) = 0 then (if isSy B (if j = w - 1 then 59 else 44) (nx B n (eT B n (rS B n t0 j))) then rE B n w t0 (u + 1) (j + 1) else some (1, (nx B n (eT B n (rS B n t0 j))).1)) else some (ckN 0 20 (eT B n (rS B n t0 j)), (eT B n (rS B n t0 j)).1) from rfl, show rwM B n t0 (u + 1 + 1) j = if j = 0 ∨ isSy B 44 (mS B n t0 j) then (if ckN 0 20 (eT B n (rS B n t0 j)) = 0 then rwM B n t0 (u + 1) (j + 1) else some (ckN 0 20 (eT B n (rS B n t0 j)), (eT B n (rS B n t0 j)).1)) else some (1, (mS B n t0 j).1) from rfl]
    rw [if_pos hs, if_neg e1]
    by_cases c : ckN 0 20 (eT B n (rS B n t0 j)) = 0
    · rw [if_pos c, if_pos c]
      by_cases s : isSy B 44 (nx B n (eT B n (rS B n t0 j)))
      · rw [if_pos s]
        exact ih (Or.inr s)
      · rw [if_neg s]
        have e3 : rwM B n t0 (u + 1) (j + 1) = some (1, (nx B n (eT B n (rS B n t0 j))).1) := by
          simp only [rwM]
          rw [if_neg]
          · rfl
          · rintro (z | z)
            · omega
            · exact s z
        rw [e3]
    · rw [if_neg c, if_neg c]
theorem dM_mfl {σ : am_G} {h w rt pn c x : Nat} {f : am_Gr} {P : Nat → Nat} (hd : dM σ h w f rt P pn) : dM (mfl σ c x) h w f rt P pn :=
  hd.fr (P := P) (Q := fun a b => a = 120 ∧ (b = 18 ∨ b = 19)) ((smP_sI (p := fun a b => a = 120 ∧ (b = 18 ∨ b = 19)) ⟨rfl, Or.inl rfl⟩).trans (smP_sI (p := fun a b => a = 120 ∧ (b = 18 ∨ b = 19)) ⟨rfl, Or.inr rfl⟩)) (fun b => by omega) (by omega) (by omega)
theorem dM_told {σ : am_G} {h w rt pn : Nat} {f : am_Gr} {P : Nat → Nat} (hd : dM σ h w f rt P pn) (hr : rt < h) : dM (sI σ 120 20 (nI (rt + 1))) h w f (rt + 1) P pn := by
  obtain ⟨a, b, c, d, e, g⟩ := hd
  exact ⟨a, ⟨b.1, (sI_o (Or.inr (by decide))).trans b.2⟩, ⟨sI_s, hr⟩, d, e, g⟩
set_option maxRecDepth 100000 in
set_option maxHeartbeats 4000000 in
theorem row_b {σ : am_G} {c x h w rt i : Nat} {f : am_Gr} {d k0 : Nat} (he : tE σ c x) (hv : mV σ h w f) (h20 : σ.1 120 20 = nI rt) (hi : i ≤ w) (hd : 5 ≤ d) : am_R am_TX d k0 c_M_parseRow 22 [some (.ref 120), some (.int (nI i)), none, none] [] (mm σ) (am_Ok none (fun σ1 => σ1 = sI σ 120 20 (nI (rt + 1)))) := by
  have hh1 := hv.1.1.1
  have hh6 := hv.1.1.2
  have hw1 := hv.1.2.1
  have hw6 := hv.1.2.2
  refine R_iload_n rfl rfl ?_
  refine R_aload_n rfl rfl ?_
  refine R_cV (as := []) rfl rfl iv_M_columns (sp_columns hv) (by omega) rfl rfl rfl (by decide) rfl rfl (Nat.le_of_ble_eq_true rfl) (fun _ q => ?_)
  obtain rfl := q.symm
  refine R_nicmp_ge (x := i) (y := w) rfl rfl (by omega) (by omega) (fun g1 => ?_) (fun g1 => ?_)
  · refine R_aload_n rfl rfl ?_
    refine R_dup rfl rfl ?_
    refine R_gIN (n := rt) rfl rfl fd_11_20 h20 ?_
    refine R_iconst (v := 1) rfl rfl ?_
    refine R_iaddN (x := rt) (y := 1) rfl ?_
    refine R_pI rfl rfl fw_11_20 rfl ?_
    exact T_return rfl rfl (am_okv0 rfl)
  · refine R_aload_n rfl rfl ?_
    refine R_cV (as := []) rfl rfl iv_M_good (good_0 he) (by omega) rfl rfl rfl (by decide) rfl rfl (Nat.le_of_ble_eq_true rfl) (fun _ q => ?_)
    obtain rfl := q.symm
    refine R_if_eq rfl rfl (fun _ => ?_) (fun z => absurd z (by decide))
    refine R_aload_n rfl rfl ?_
    refine R_dup rfl rfl ?_
    refine R_gIN (n := rt) rfl rfl fd_11_20 h20 ?_
    refine R_iconst (v := 1) rfl rfl ?_
    refine R_iaddN (x := rt) (y := 1) rfl ?_
    refine R_pI rfl rfl fw_11_20 rfl ?_
    exact T_return rfl rfl (am_okv0 rfl)
set_option maxRecDepth 100000 in
set_option maxHeartbeats 4000000 in
theorem lp_mrow {σ : am_G} {n : Nat} {B : List Int32} {t0 : am_T} {h w rt pn : Nat} {f : am_Gr} {P : Nat → Nat} {d k0 : Nat} (hrt : rt < h) (hd : 5 ≤ d) : ∀ (uu i : Nat) (τ : am_G), i + uu = w → (smP pDm σ τ ∧ tG τ n B (mS B n t0 i) ∧ dM τ h w (rF B n f rt t0 i) rt P pn) → am_R am_TX d k0 c_M_parseRow 22 [some (.ref 120), some (.int (nI i)), none, none] [] (mm τ) (am_Ok none (fun σ1 => smP pDm σ σ1 ∧ mPost (rwM B n t0 uu i) σ1 (tG σ1 n B (mS B n t0 w) ∧ dM σ1 h w (rF B n f rt t0 w) (rt + 1) P pn))) := by
  intro uu
  induction uu with
  | zero =>
    intro i τ hi hI
    obtain rfl : w = i := by omega
    obtain ⟨⟨hh1, hh6⟩, hw1, hw6⟩ := hI.2.2.1
    refine R_iload_n rfl rfl ?_
    refine R_aload_n rfl rfl ?_
    refine R_cV (as := []) rfl rfl iv_M_columns (sp_columns hI.2.2.toV) (by omega) rfl rfl rfl (by decide) rfl rfl (Nat.le_of_ble_eq_true rfl) (fun _ q => ?_)
    obtain rfl := q.symm
    refine R_nicmp_ge (x := w) (y := w) rfl rfl (by omega) (by omega) (fun g1 => ?_) (fun z => by omega)
    refine R_aload_n rfl rfl ?_
    refine R_dup rfl rfl ?_
    refine R_gIN (n := rt) rfl rfl fd_11_20 hI.2.2.2.2.1.1 ?_
    refine R_iconst (v := 1) rfl rfl ?_
    refine R_iaddN (x := rt) (y := 1) rfl ?_
    refine R_pI rfl rfl fw_11_20 rfl ?_
    exact T_return rfl rfl (am_okv0 ⟨hI.1.trans (smP_sI (p := pDm) (Or.inl ⟨rfl, by omega, by omega⟩)), hI.2.1.fr (smP_sI (p := fun a b => a = 120 ∧ b = 20) ⟨rfl, rfl⟩) (fun b _ _ => by omega) (fun b => by omega), dM_told hI.2.2 hrt⟩)
  | succ uu ih =>
    intro i τ hi hI
    obtain ⟨⟨hh1, hh6⟩, hw1, hw6⟩ := hI.2.2.1
    refine R_iload_n rfl rfl ?_
    refine R_aload_n rfl rfl ?_
    refine R_cV (as := []) rfl rfl iv_M_columns (sp_columns hI.2.2.toV) (by omega) rfl rfl rfl (by decide) rfl rfl (Nat.le_of_ble_eq_true rfl) (fun _ q => ?_)
    obtain rfl := q.symm
    refine R_nicmp_ge (x := i) (y := w) rfl rfl (by omega) (by omega) (fun z => by omega) (fun g1 => ?_)
    refine R_aload_n rfl rfl ?_
    refine R_cV (as := []) rfl rfl iv_M_good (good_1 hI.2.1.2.2.2.1) (by omega) rfl rfl rfl (by decide) rfl rfl (Nat.le_of_ble_eq_true rfl) (fun _ q => ?_)
    obtain rfl := q.symm
    refine R_if_eq rfl rfl (fun z => absurd z (by decide)) (fun _ => ?_)
    refine R_iload_n rfl rfl ?_
    refine R_nif_le (x := i) rfl rfl (by omega) (fun g2 => ?_) (fun g2 => ?_)
    · have hgr : tG τ n B (rS B n t0 i) := by
        have e : i = 0 := by omega
        subst e; exact hI.2.1
      refine R_aload_n rfl rfl ?_
      refine R_bipush (v := 45) rfl (by decide) ?_
      by_cases g3 : isSy B 45 (rS B n t0 i)
      · refine R_cV (as := [.int 45]) rfl rfl iv_M_takes (takes_1 (c := 45) hgr g3) (by omega) rfl rfl rfl (by decide) rfl rfl (Nat.le_of_ble_eq_true rfl) (fun ρ3 hρ3 => ?_)
        obtain ⟨q_ρ3, g_ρ3⟩ := hρ3
        rw [show nx B n (rS B n t0 i) = (eT B n (rS B n t0 i)) from (if_pos g3).symm] at g_ρ3
        refine R_istore_n rfl (by decide) ?_
        refine R_aload_n rfl rfl ?_
        refine R_iconst (v := 0) rfl rfl ?_
        refine R_bipush (v := 20) rfl (by decide) ?_
        by_cases g4 : ckN 0 20 (eT B n (rS B n t0 i)) = 0
        · refine R_cV (as := [.int 0, .int 20]) rfl rfl iv_M_number (num_1 (lo := 0) (hi := 20) g_ρ3 (by omega) (by omega) g4) (by omega) rfl rfl rfl (by decide) rfl rfl (Nat.le_of_ble_eq_true rfl) (fun ρ5 hρ5 => ?_)
          obtain ⟨q_ρ5, g_ρ5⟩ := hρ5
          obtain ⟨v1, v2, v3, -⟩ := ck_v g_ρ3 (by omega) g4
          refine R_istore_n rfl (by decide) ?_
          refine R_aload_n rfl rfl ?_
          refine R_cV (as := []) rfl rfl iv_M_good (good_1 g_ρ5.2.2.2.1) (by omega) rfl rfl rfl (by decide) rfl rfl (Nat.le_of_ble_eq_true rfl) (fun _ q => ?_)
          obtain rfl := q.symm
          refine R_if_eq rfl rfl (fun z => absurd z (by decide)) (fun _ => ?_)
          refine R_aload_n rfl rfl ?_
          refine R_gP (x := 122) rfl rfl fp_11_3 ((congrArg (fun r => am_P r 120 3) (dM_qq q_ρ5 (dM_qq q_ρ3 hI.2.2)).2.1.1).trans rfl) ?_
          refine R_bipush (v := 14) rfl (by decide) ?_
          refine R_bipush (v := 6) rfl (by decide) ?_
          refine R_aload_n rfl rfl ?_
          refine R_gIN (n := rt) rfl rfl fd_11_20 (dM_qq q_ρ5 (dM_qq q_ρ3 hI.2.2)).2.2.1.1 ?_
          refine R_imulN (x := 6) (y := rt) rfl ?_
          refine R_iaddN (x := 14) (y := (6 * rt)) rfl ?_
          refine R_iload_n rfl rfl ?_
          refine R_iaddN (x := (14 + (6 * rt))) (y := i) rfl ?_
          refine R_iload_n rfl rfl ?_
          refine R_if_eq rfl rfl (fun z => absurd z (by decide)) (fun _ => ?_)
          refine R_iload_n rfl rfl ?_
          refine R_ineg rfl ?_
          refine R_i2l rfl ?_
          refine R_goto rfl rfl ?_
          refine R_wL (j := ((14 + (6 * rt)) + i)) rfl rfl rfl (by omega) (by decide) ?_
          refine R_iincN (x := i) (m := 1) rfl rfl rfl (by decide) ?_
          refine R_goto rfl rfl ?_
          have er : rwM B n t0 (uu + 1) i = rwM B n t0 uu (i + 1) := (if_pos (Or.inl (by omega))).trans (if_pos g4)
          rw [er]
          have hdp := dM_put (i := rt) (j := i) (x := eV B n (rS B n t0 i)) (dM_qq q_ρ5 (dM_qq q_ρ3 hI.2.2)) (by omega) (by omega)
          rw [show eV B n (rS B n t0 i) = ((-(nI ((eT B n (rS B n t0 i)).2.2.2))).toInt64) from if_pos g3] at hdp
          have e := ih (i + 1) (sL ρ5 122 ((14 + (6 * rt)) + i) ((-(nI ((eT B n (rS B n t0 i)).2.2.2))).toInt64)) (by omega) ⟨((hI.1.trans (q_ρ3.mono pDm_d)).trans (q_ρ5.mono pDm_d)).trans (smP_sL (p := pDm) (pDm_2 rfl)), g_ρ5.fr (smP_sL (p := fun a _ => a = 122) rfl) (fun b _ _ => by omega) (fun b => by omega), ?_⟩
          · exact e.weak ⟨rfl, rfl, trivial⟩
          · rw [show rF B n f rt t0 (i + 1) = up2 (rF B n f rt t0 i) rt i (eV B n (rS B n t0 i)) from rfl, show eV B n (rS B n t0 i) = ((-(nI ((eT B n (rS B n t0 i)).2.2.2))).toInt64) from if_pos g3]
            exact hdp
        · refine R_cV (as := [.int 0, .int 20]) rfl rfl iv_M_number (num_0 (lo := 0) (hi := 20) g_ρ3 (by omega) (by omega) g4) (by omega) rfl rfl rfl (by decide) rfl rfl (Nat.le_of_ble_eq_true rfl) (fun _ q => ?_)
          obtain rfl := q.symm
          refine R_istore_n rfl (by decide) ?_
          refine R_aload_n rfl rfl ?_
          refine R_cV (as := []) rfl rfl iv_M_good (good_0 (mfl_E (σ := ρ3) (x := (eT B n (rS B n t0 i)).1) (ck_15 g4))) (by omega) rfl rfl rfl (by decide) rfl rfl (Nat.le_of_ble_eq_true rfl) (fun _ q => ?_)
          obtain rfl := q.symm
          refine R_if_eq rfl rfl (fun _ => ?_) (fun z => absurd z (by decide))
          refine R_iincN (x := i) (m := 1) rfl rfl rfl (by decide) ?_
          refine R_goto rfl rfl ?_
          have er : rwM B n t0 (uu + 1) i = some ((ckN 0 20 (eT B n (rS B n t0 i))), (eT B n (rS B n t0 i)).1) := (if_pos (Or.inl (by omega))).trans (if_neg g4)
          rw [er]
          exact ((row_b (i := i + 1) (mfl_E (σ := ρ3) (x := (eT B n (rS B n t0 i)).1) (ck_15 g4)) (dM_mfl (dM_qq q_ρ3 hI.2.2)).toV (dM_mfl (dM_qq q_ρ3 hI.2.2)).2.2.1.1 (by omega) (by omega)).mono (am_Ok.mono (fun ρ e => by rw [e]; exact ⟨((hI.1.trans (q_ρ3.mono pDm_d)).trans mfl_q).trans (smP_sI (p := pDm) (Or.inl ⟨rfl, by omega, by omega⟩)), (mfl_E (σ := ρ3) (x := (eT B n (rS B n t0 i)).1) (ck_15 g4)).fr (smP_sI (p := fun a b => a = 120 ∧ b = 20) ⟨rfl, rfl⟩) (by omega) (by omega)⟩))).weak ⟨rfl, rfl, trivial⟩
      · refine R_cV (as := [.int 45]) rfl rfl iv_M_takes (takes_0 (c := 45) hgr g3) (by omega) rfl rfl rfl (by decide) rfl rfl (Nat.le_of_ble_eq_true rfl) (fun _ q => ?_)
        obtain rfl := q.symm
        have hge : tG τ n B (eT B n (rS B n t0 i)) := by
          rw [show (eT B n (rS B n t0 i)) = (rS B n t0 i) from if_neg g3]; exact hgr
        refine R_istore_n rfl (by decide) ?_
        refine R_aload_n rfl rfl ?_
        refine R_iconst (v := 0) rfl rfl ?_
        refine R_bipush (v := 20) rfl (by decide) ?_
        by_cases g5 : ckN 0 20 (eT B n (rS B n t0 i)) = 0
        · refine R_cV (as := [.int 0, .int 20]) rfl rfl iv_M_number (num_1 (lo := 0) (hi := 20) hge (by omega) (by omega) g5) (by omega) rfl rfl rfl (by decide) rfl rfl (Nat.le_of_ble_eq_true rfl) (fun ρ11 hρ11 => ?_)
          obtain ⟨q_ρ11, g_ρ11⟩ := hρ11
          obtain ⟨v1, v2, v3, -⟩ := ck_v hge (by omega) g5
          refine R_istore_n rfl (by decide) ?_
          refine R_aload_n rfl rfl ?_
          refine R_cV (as := []) rfl rfl iv_M_good (good_1 g_ρ11.2.2.2.1) (by omega) rfl rfl rfl (by decide) rfl rfl (Nat.le_of_ble_eq_true rfl) (fun _ q => ?_)
          obtain rfl := q.symm
          refine R_if_eq rfl rfl (fun z => absurd z (by decide)) (fun _ => ?_)
          refine R_aload_n rfl rfl ?_
          refine R_gP (x := 122) rfl rfl fp_11_3 ((congrArg (fun r => am_P r 120 3) (dM_qq q_ρ11 hI.2.2).2.1.1).trans rfl) ?_
          refine R_bipush (v := 14) rfl (by decide) ?_
          refine R_bipush (v := 6) rfl (by decide) ?_
          refine R_aload_n rfl rfl ?_
          refine R_gIN (n := rt) rfl rfl fd_11_20 (dM_qq q_ρ11 hI.2.2).2.2.1.1 ?_
          refine R_imulN (x := 6) (y := rt) rfl ?_
          refine R_iaddN (x := 14) (y := (6 * rt)) rfl ?_
          refine R_iload_n rfl rfl ?_
          refine R_iaddN (x := (14 + (6 * rt))) (y := i) rfl ?_
          refine R_iload_n rfl rfl ?_
          refine R_if_eq rfl rfl (fun _ => ?_) (fun z => absurd z (by decide))
          refine R_iload_n rfl rfl ?_
          refine R_i2l rfl ?_
          refine R_wL (j := ((14 + (6 * rt)) + i)) rfl rfl rfl (by omega) (by decide) ?_
          refine R_iincN (x := i) (m := 1) rfl rfl rfl (by decide) ?_
          refine R_goto rfl rfl ?_
          have er : rwM B n t0 (uu + 1) i = rwM B n t0 uu (i + 1) := (if_pos (Or.inl (by omega))).trans (if_pos g5)
          rw [er]
          have hdp := dM_put (i := rt) (j := i) (x := eV B n (rS B n t0 i)) (dM_qq q_ρ11 hI.2.2) (by omega) (by omega)
          rw [show eV B n (rS B n t0 i) = ((nI ((eT B n (rS B n t0 i)).2.2.2)).toInt64) from if_neg g3] at hdp
          have e := ih (i + 1) (sL ρ11 122 ((14 + (6 * rt)) + i) ((nI ((eT B n (rS B n t0 i)).2.2.2)).toInt64)) (by omega) ⟨(hI.1.trans (q_ρ11.mono pDm_d)).trans (smP_sL (p := pDm) (pDm_2 rfl)), g_ρ11.fr (smP_sL (p := fun a _ => a = 122) rfl) (fun b _ _ => by omega) (fun b => by omega), ?_⟩
          · exact e.weak ⟨rfl, rfl, trivial⟩
          · rw [show rF B n f rt t0 (i + 1) = up2 (rF B n f rt t0 i) rt i (eV B n (rS B n t0 i)) from rfl, show eV B n (rS B n t0 i) = ((nI ((eT B n (rS B n t0 i)).2.2.2)).toInt64) from if_neg g3]
            exact hdp
        · refine R_cV (as := [.int 0, .int 20]) rfl rfl iv_M_number (num_0 (lo := 0) (hi := 20) hge (by omega) (by omega) g5) (by omega) rfl rfl rfl (by decide) rfl rfl (Nat.le_of_ble_eq_true rfl) (fun _ q => ?_)
          obtain rfl := q.symm
          refine R_istore_n rfl (by decide) ?_
          refine R_aload_n rfl rfl ?_
          refine R_cV (as := []) rfl rfl iv_M_good (good_0 (mfl_E (σ := τ) (x := (eT B n (rS B n t0 i)).1) (ck_15 g5))) (by omega) rfl rfl rfl (by decide) rfl rfl (Nat.le_of_ble_eq_true rfl) (fun _ q => ?_)
          obtain rfl := q.symm
          refine R_if_eq rfl rfl (fun _ => ?_) (fun z => absurd z (by decide))
          refine R_iincN (x := i) (m := 1) rfl rfl rfl (by decide) ?_
          refine R_goto rfl rfl ?_
          have er : rwM B n t0 (uu + 1) i = some ((ckN 0 20 (eT B n (rS B n t0 i))), (eT B n (rS B n t0 i)).1) := (if_pos (Or.inl (by omega))).trans (if_neg g5)
          rw [er]
          exact ((row_b (i := i + 1) (mfl_E (σ := τ) (x := (eT B n (rS B n t0 i)).1) (ck_15 g5)) (dM_mfl hI.2.2).toV (dM_mfl hI.2.2).2.2.1.1 (by omega) (by omega)).mono (am_Ok.mono (fun ρ e => by rw [e]; exact ⟨(hI.1.trans mfl_q).trans (smP_sI (p := pDm) (Or.inl ⟨rfl, by omega, by omega⟩)), (mfl_E (σ := τ) (x := (eT B n (rS B n t0 i)).1) (ck_15 g5)).fr (smP_sI (p := fun a b => a = 120 ∧ b = 20) ⟨rfl, rfl⟩) (by omega) (by omega)⟩))).weak ⟨rfl, rfl, trivial⟩
    · refine R_aload_n rfl rfl ?_
      refine R_bipush (v := 44) rfl (by decide) ?_
      by_cases g6 : isSy B 44 (mS B n t0 i)
      · refine R_cV (as := [.int 44]) rfl rfl iv_M_need (need_1 (c := 44) hI.2.1 g6) (by omega) rfl rfl rfl (by decide) rfl rfl (Nat.le_of_ble_eq_true rfl) (fun ρ16 hρ16 => ?_)
        obtain ⟨q_ρ16, g_ρ16⟩ := hρ16
        have hgr : tG ρ16 n B (rS B n t0 i) := by
          rw [← mS_r i (by omega)]; exact g_ρ16
        refine R_aload_n rfl rfl ?_
        refine R_bipush (v := 45) rfl (by decide) ?_
        by_cases g7 : isSy B 45 (rS B n t0 i)
        · refine R_cV (as := [.int 45]) rfl rfl iv_M_takes (takes_1 (c := 45) hgr g7) (by omega) rfl rfl rfl (by decide) rfl rfl (Nat.le_of_ble_eq_true rfl) (fun ρ18 hρ18 => ?_)
          obtain ⟨q_ρ18, g_ρ18⟩ := hρ18
          rw [show nx B n (rS B n t0 i) = (eT B n (rS B n t0 i)) from (if_pos g7).symm] at g_ρ18
          refine R_istore_n rfl (by decide) ?_
          refine R_aload_n rfl rfl ?_
          refine R_iconst (v := 0) rfl rfl ?_
          refine R_bipush (v := 20) rfl (by decide) ?_
          by_cases g8 : ckN 0 20 (eT B n (rS B n t0 i)) = 0
          · refine R_cV (as := [.int 0, .int 20]) rfl rfl iv_M_number (num_1 (lo := 0) (hi := 20) g_ρ18 (by omega) (by omega) g8) (by omega) rfl rfl rfl (by decide) rfl rfl (Nat.le_of_ble_eq_true rfl) (fun ρ20 hρ20 => ?_)
            obtain ⟨q_ρ20, g_ρ20⟩ := hρ20
            obtain ⟨v1, v2, v3, -⟩ := ck_v g_ρ18 (by omega) g8
            refine R_istore_n rfl (by decide) ?_
            refine R_aload_n rfl rfl ?_
            refine R_cV (as := []) rfl rfl iv_M_good (good_1 g_ρ20.2.2.2.1) (by omega) rfl rfl rfl (by decide) rfl rfl (Nat.le_of_ble_eq_true rfl) (fun _ q => ?_)
            obtain rfl := q.symm
            refine R_if_eq rfl rfl (fun z => absurd z (by decide)) (fun _ => ?_)
            refine R_aload_n rfl rfl ?_
            refine R_gP (x := 122) rfl rfl fp_11_3 ((congrArg (fun r => am_P r 120 3) (dM_qq q_ρ20 (dM_qq q_ρ18 (dM_qq q_ρ16 hI.2.2))).2.1.1).trans rfl) ?_
            refine R_bipush (v := 14) rfl (by decide) ?_
            refine R_bipush (v := 6) rfl (by decide) ?_
            refine R_aload_n rfl rfl ?_
            refine R_gIN (n := rt) rfl rfl fd_11_20 (dM_qq q_ρ20 (dM_qq q_ρ18 (dM_qq q_ρ16 hI.2.2))).2.2.1.1 ?_
            refine R_imulN (x := 6) (y := rt) rfl ?_
            refine R_iaddN (x := 14) (y := (6 * rt)) rfl ?_
            refine R_iload_n rfl rfl ?_
            refine R_iaddN (x := (14 + (6 * rt))) (y := i) rfl ?_
            refine R_iload_n rfl rfl ?_
            refine R_if_eq rfl rfl (fun z => absurd z (by decide)) (fun _ => ?_)
            refine R_iload_n rfl rfl ?_
            refine R_ineg rfl ?_
            refine R_i2l rfl ?_
            refine R_goto rfl rfl ?_
            refine R_wL (j := ((14 + (6 * rt)) + i)) rfl rfl rfl (by omega) (by decide) ?_
            refine R_iincN (x := i) (m := 1) rfl rfl rfl (by decide) ?_
            refine R_goto rfl rfl ?_
            have er : rwM B n t0 (uu + 1) i = rwM B n t0 uu (i + 1) := (if_pos (Or.inr g6)).trans (if_pos g8)
            rw [er]
            have hdp := dM_put (i := rt) (j := i) (x := eV B n (rS B n t0 i)) (dM_qq q_ρ20 (dM_qq q_ρ18 (dM_qq q_ρ16 hI.2.2))) (by omega) (by omega)
            rw [show eV B n (rS B n t0 i) = ((-(nI ((eT B n (rS B n t0 i)).2.2.2))).toInt64) from if_pos g7] at hdp
            have e := ih (i + 1) (sL ρ20 122 ((14 + (6 * rt)) + i) ((-(nI ((eT B n (rS B n t0 i)).2.2.2))).toInt64)) (by omega) ⟨(((hI.1.trans (q_ρ16.mono pDm_d)).trans (q_ρ18.mono pDm_d)).trans (q_ρ20.mono pDm_d)).trans (smP_sL (p := pDm) (pDm_2 rfl)), g_ρ20.fr (smP_sL (p := fun a _ => a = 122) rfl) (fun b _ _ => by omega) (fun b => by omega), ?_⟩
            · exact e.weak ⟨rfl, rfl, trivial⟩
            · rw [show rF B n f rt t0 (i + 1) = up2 (rF B n f rt t0 i) rt i (eV B n (rS B n t0 i)) from rfl, show eV B n (rS B n t0 i) = ((-(nI ((eT B n (rS B n t0 i)).2.2.2))).toInt64) from if_pos g7]
              exact hdp
          · refine R_cV (as := [.int 0, .int 20]) rfl rfl iv_M_number (num_0 (lo := 0) (hi := 20) g_ρ18 (by omega) (by omega) g8) (by omega) rfl rfl rfl (by decide) rfl rfl (Nat.le_of_ble_eq_true rfl) (fun _ q => ?_)
            obtain rfl := q.symm
            refine R_istore_n rfl (by decide) ?_
            refine R_aload_n rfl rfl ?_
            refine R_cV (as := []) rfl rfl iv_M_good (good_0 (mfl_E (σ := ρ18) (x := (eT B n (rS B n t0 i)).1) (ck_15 g8))) (by omega) rfl rfl rfl (by decide) rfl rfl (Nat.le_of_ble_eq_true rfl) (fun _ q => ?_)
            obtain rfl := q.symm
            refine R_if_eq rfl rfl (fun _ => ?_) (fun z => absurd z (by decide))
            refine R_iincN (x := i) (m := 1) rfl rfl rfl (by decide) ?_
            refine R_goto rfl rfl ?_
            have er : rwM B n t0 (uu + 1) i = some ((ckN 0 20 (eT B n (rS B n t0 i))), (eT B n (rS B n t0 i)).1) := (if_pos (Or.inr g6)).trans (if_neg g8)
            rw [er]
            exact ((row_b (i := i + 1) (mfl_E (σ := ρ18) (x := (eT B n (rS B n t0 i)).1) (ck_15 g8)) (dM_mfl (dM_qq q_ρ18 (dM_qq q_ρ16 hI.2.2))).toV (dM_mfl (dM_qq q_ρ18 (dM_qq q_ρ16 hI.2.2))).2.2.1.1 (by omega) (by omega)).mono (am_Ok.mono (fun ρ e => by rw [e]; exact ⟨(((hI.1.trans (q_ρ16.mono pDm_d)).trans (q_ρ18.mono pDm_d)).trans mfl_q).trans (smP_sI (p := pDm) (Or.inl ⟨rfl, by omega, by omega⟩)), (mfl_E (σ := ρ18) (x := (eT B n (rS B n t0 i)).1) (ck_15 g8)).fr (smP_sI (p := fun a b => a = 120 ∧ b = 20) ⟨rfl, rfl⟩) (by omega) (by omega)⟩))).weak ⟨rfl, rfl, trivial⟩
        · refine R_cV (as := [.int 45]) rfl rfl iv_M_takes (takes_0 (c := 45) hgr g7) (by omega) rfl rfl rfl (by decide) rfl rfl (Nat.le_of_ble_eq_true rfl) (fun _ q => ?_)
          obtain rfl := q.symm
          have hge : tG ρ16 n B (eT B n (rS B n t0 i)) := by
            rw [show (eT B n (rS B n t0 i)) = (rS B n t0 i) from if_neg g7]; exact hgr
          refine R_istore_n rfl (by decide) ?_
          refine R_aload_n rfl rfl ?_
          refine R_iconst (v := 0) rfl rfl ?_
          refine R_bipush (v := 20) rfl (by decide) ?_
          by_cases g9 : ckN 0 20 (eT B n (rS B n t0 i)) = 0
          · refine R_cV (as := [.int 0, .int 20]) rfl rfl iv_M_number (num_1 (lo := 0) (hi := 20) hge (by omega) (by omega) g9) (by omega) rfl rfl rfl (by decide) rfl rfl (Nat.le_of_ble_eq_true rfl) (fun ρ26 hρ26 => ?_)
            obtain ⟨q_ρ26, g_ρ26⟩ := hρ26
            obtain ⟨v1, v2, v3, -⟩ := ck_v hge (by omega) g9
            refine R_istore_n rfl (by decide) ?_
            refine R_aload_n rfl rfl ?_
            refine R_cV (as := []) rfl rfl iv_M_good (good_1 g_ρ26.2.2.2.1) (by omega) rfl rfl rfl (by decide) rfl rfl (Nat.le_of_ble_eq_true rfl) (fun _ q => ?_)
            obtain rfl := q.symm
            refine R_if_eq rfl rfl (fun z => absurd z (by decide)) (fun _ => ?_)
            refine R_aload_n rfl rfl ?_
            refine R_gP (x := 122) rfl rfl fp_11_3 ((congrArg (fun r => am_P r 120 3) (dM_qq q_ρ26 (dM_qq q_ρ16 hI.2.2)).2.1.1).trans rfl) ?_
            refine R_bipush (v := 14) rfl (by decide) ?_
            refine R_bipush (v := 6) rfl (by decide) ?_
            refine R_aload_n rfl rfl ?_
            refine R_gIN (n := rt) rfl rfl fd_11_20 (dM_qq q_ρ26 (dM_qq q_ρ16 hI.2.2)).2.2.1.1 ?_
            refine R_imulN (x := 6) (y := rt) rfl ?_
            refine R_iaddN (x := 14) (y := (6 * rt)) rfl ?_
            refine R_iload_n rfl rfl ?_
            refine R_iaddN (x := (14 + (6 * rt))) (y := i) rfl ?_
            refine R_iload_n rfl rfl ?_
            refine R_if_eq rfl rfl (fun _ => ?_) (fun z => absurd z (by decide))
            refine R_iload_n rfl rfl ?_
            refine R_i2l rfl ?_
            refine R_wL (j := ((14 + (6 * rt)) + i)) rfl rfl rfl (by omega) (by decide) ?_
            refine R_iincN (x := i) (m := 1) rfl rfl rfl (by decide) ?_
            refine R_goto rfl rfl ?_
            have er : rwM B n t0 (uu + 1) i = rwM B n t0 uu (i + 1) := (if_pos (Or.inr g6)).trans (if_pos g9)
            rw [er]
            have hdp := dM_put (i := rt) (j := i) (x := eV B n (rS B n t0 i)) (dM_qq q_ρ26 (dM_qq q_ρ16 hI.2.2)) (by omega) (by omega)
            rw [show eV B n (rS B n t0 i) = ((nI ((eT B n (rS B n t0 i)).2.2.2)).toInt64) from if_neg g7] at hdp
            have e := ih (i + 1) (sL ρ26 122 ((14 + (6 * rt)) + i) ((nI ((eT B n (rS B n t0 i)).2.2.2)).toInt64)) (by omega) ⟨((hI.1.trans (q_ρ16.mono pDm_d)).trans (q_ρ26.mono pDm_d)).trans (smP_sL (p := pDm) (pDm_2 rfl)), g_ρ26.fr (smP_sL (p := fun a _ => a = 122) rfl) (fun b _ _ => by omega) (fun b => by omega), ?_⟩
            · exact e.weak ⟨rfl, rfl, trivial⟩
            · rw [show rF B n f rt t0 (i + 1) = up2 (rF B n f rt t0 i) rt i (eV B n (rS B n t0 i)) from rfl, show eV B n (rS B n t0 i) = ((nI ((eT B n (rS B n t0 i)).2.2.2)).toInt64) from if_neg g7]
              exact hdp
          · refine R_cV (as := [.int 0, .int 20]) rfl rfl iv_M_number (num_0 (lo := 0) (hi := 20) hge (by omega) (by omega) g9) (by omega) rfl rfl rfl (by decide) rfl rfl (Nat.le_of_ble_eq_true rfl) (fun _ q => ?_)
            obtain rfl := q.symm
            refine R_istore_n rfl (by decide) ?_
            refine R_aload_n rfl rfl ?_
            refine R_cV (as := []) rfl rfl iv_M_good (good_0 (mfl_E (σ := ρ16) (x := (eT B n (rS B n t0 i)).1) (ck_15 g9))) (by omega) rfl rfl rfl (by decide) rfl rfl (Nat.le_of_ble_eq_true rfl) (fun _ q => ?_)
            obtain rfl := q.symm
            refine R_if_eq rfl rfl (fun _ => ?_) (fun z => absurd z (by decide))
            refine R_iincN (x := i) (m := 1) rfl rfl rfl (by decide) ?_
            refine R_goto rfl rfl ?_
            have er : rwM B n t0 (uu + 1) i = some ((ckN 0 20 (eT B n (rS B n t0 i))), (eT B n (rS B n t0 i)).1) := (if_pos (Or.inr g6)).trans (if_neg g9)
            rw [er]
            exact ((row_b (i := i + 1) (mfl_E (σ := ρ16) (x := (eT B n (rS B n t0 i)).1) (ck_15 g9)) (dM_mfl (dM_qq q_ρ16 hI.2.2)).toV (dM_mfl (dM_qq q_ρ16 hI.2.2)).2.2.1.1 (by omega) (by omega)).mono (am_Ok.mono (fun ρ e => by rw [e]; exact ⟨((hI.1.trans (q_ρ16.mono pDm_d)).trans mfl_q).trans (smP_sI (p := pDm) (Or.inl ⟨rfl, by omega, by omega⟩)), (mfl_E (σ := ρ16) (x := (eT B n (rS B n t0 i)).1) (ck_15 g9)).fr (smP_sI (p := fun a b => a = 120 ∧ b = 20) ⟨rfl, rfl⟩) (by omega) (by omega)⟩))).weak ⟨rfl, rfl, trivial⟩
      · refine R_cV (as := [.int 44]) rfl rfl iv_M_need (need_0 (c := 44) hI.2.1 g6) (by omega) rfl rfl rfl (by decide) rfl rfl (Nat.le_of_ble_eq_true rfl) (fun _ q => ?_)
        obtain rfl := q.symm
        refine R_aload_n rfl rfl ?_
        refine R_bipush (v := 45) rfl (by decide) ?_
        refine R_cV (as := [.int 45]) rfl rfl iv_M_takes (takes_b (mfl_E (σ := τ) (x := (mS B n t0 i).1) (by omega))) (by omega) rfl rfl rfl (by decide) rfl rfl (Nat.le_of_ble_eq_true rfl) (fun _ q => ?_)
        obtain rfl := q.symm
        refine R_istore_n rfl (by decide) ?_
        refine R_aload_n rfl rfl ?_
        refine R_iconst (v := 0) rfl rfl ?_
        refine R_bipush (v := 20) rfl (by decide) ?_
        refine R_cV (as := [.int 0, .int 20]) rfl rfl iv_M_number (num_b (lo := 0) (hi := 20) (mfl_E (σ := τ) (x := (mS B n t0 i).1) (by omega))) (by omega) rfl rfl rfl (by decide) rfl rfl (Nat.le_of_ble_eq_true rfl) (fun _ q => ?_)
        obtain rfl := q.symm
        refine R_istore_n rfl (by decide) ?_
        refine R_aload_n rfl rfl ?_
        refine R_cV (as := []) rfl rfl iv_M_good (good_0 (mfl_E (σ := τ) (x := (mS B n t0 i).1) (by omega))) (by omega) rfl rfl rfl (by decide) rfl rfl (Nat.le_of_ble_eq_true rfl) (fun _ q => ?_)
        obtain rfl := q.symm
        refine R_if_eq rfl rfl (fun _ => ?_) (fun z => absurd z (by decide))
        refine R_iincN (x := i) (m := 1) rfl rfl rfl (by decide) ?_
        refine R_goto rfl rfl ?_
        have er : rwM B n t0 (uu + 1) i = some (1, (mS B n t0 i).1) := if_neg (fun z => z.elim (fun y => by omega) g6)
        rw [er]
        exact ((row_b (i := i + 1) (mfl_E (σ := τ) (x := (mS B n t0 i).1) (by omega)) (dM_mfl hI.2.2).toV (dM_mfl hI.2.2).2.2.1.1 (by omega) (by omega)).mono (am_Ok.mono (fun ρ e => by rw [e]; exact ⟨(hI.1.trans mfl_q).trans (smP_sI (p := pDm) (Or.inl ⟨rfl, by omega, by omega⟩)), (mfl_E (σ := τ) (x := (mS B n t0 i).1) (by omega)).fr (smP_sI (p := fun a b => a = 120 ∧ b = 20) ⟨rfl, rfl⟩) (by omega) (by omega)⟩))).weak ⟨rfl, rfl, trivial⟩
set_option maxRecDepth 100000 in
set_option maxHeartbeats 4000000 in
theorem sp_mparseRow {σ : am_G} {n : Nat} {B : List Int32} {t : am_T} {h w rt pn : Nat} {f : am_Gr} {P : Nat → Nat} (hg : tG σ n B t) (hd_ : dM σ h w f rt P pn) (hrt : rt < h) : am_Call am_TX 6 0 c_M_parseRow [.ref 120] (mm σ) (am_Ok none (fun σ1 => smP pDm σ σ1 ∧ mPost (rwM B n (nx B n t) w 0) σ1 (tG σ1 n B (mS B n (nx B n t) w) ∧ dM σ1 h w (rF B n f rt (nx B n t) w) (rt + 1) P pn))) := by
  obtain ⟨⟨hh1, hh6⟩, hw1, hw6⟩ := hd_.1
  refine ⟨mf_M_parseRow, Nat.le_of_ble_eq_true rfl, ?_⟩
  refine R_aload_n rfl rfl ?_
  refine R_gIN (n := rt) rfl rfl fd_11_20 hd_.2.2.1.1 ?_
  refine R_aload_n rfl rfl ?_
  refine R_cV (as := []) rfl rfl iv_M_rows (sp_rows hd_.toV) (by omega) rfl rfl rfl (by decide) rfl rfl (Nat.le_of_ble_eq_true rfl) (fun _ q => ?_)
  obtain rfl := q.symm
  refine R_nicmp_ne (x := rt) (y := h) rfl rfl (by omega) (by omega) (fun g1 => ?_) (fun z => by omega)
  refine R_aload_n rfl rfl ?_
  refine R_cV (as := []) rfl rfl iv_M_goOn (goOn_g hg) (by omega) rfl rfl rfl (by decide) rfl rfl (Nat.le_of_ble_eq_true rfl) (fun ρ2 hρ2 => ?_)
  obtain ⟨q_ρ2, g_ρ2⟩ := hρ2
  refine R_iconst (v := 0) rfl rfl ?_
  refine R_istore_n rfl (by decide) ?_
  exact ((lp_mrow (σ := ρ2) (t0 := (nx B n t)) (f := f) (P := P) (pn := pn) hrt (by omega) w 0 ρ2 (by omega) ⟨smP.refl, g_ρ2, (dM_qq q_ρ2 hd_)⟩).mono (am_Ok.mono (fun ρ e => ⟨(q_ρ2.mono pDm_d).trans e.1, e.2⟩))).weak ⟨rfl, rfl, trivial⟩
set_option maxRecDepth 100000 in
set_option maxHeartbeats 4000000 in
theorem sp_mparseRow_h {σ : am_G} {n : Nat} {B : List Int32} {t : am_T} {h w rt pn : Nat} {f : am_Gr} {P : Nat → Nat} (hg : tG σ n B t) (hd_ : dM σ h w f rt P pn) (hrt : rt = h) : am_Call am_TX 6 0 c_M_parseRow [.ref 120] (mm σ) (am_Ok none (fun σ1 => smP pDm σ σ1 ∧ tE σ1 5 t.1)) := by
  obtain ⟨⟨hh1, hh6⟩, hw1, hw6⟩ := hd_.1
  refine ⟨mf_M_parseRow, Nat.le_of_ble_eq_true rfl, ?_⟩
  refine R_aload_n rfl rfl ?_
  refine R_gIN (n := rt) rfl rfl fd_11_20 hd_.2.2.1.1 ?_
  refine R_aload_n rfl rfl ?_
  refine R_cV (as := []) rfl rfl iv_M_rows (sp_rows hd_.toV) (by omega) rfl rfl rfl (by decide) rfl rfl (Nat.le_of_ble_eq_true rfl) (fun _ q => ?_)
  obtain rfl := q.symm
  refine R_nicmp_ne (x := rt) (y := h) rfl rfl (by omega) (by omega) (fun z => by omega) (fun g1 => ?_)
  refine R_aload_n rfl rfl ?_
  refine R_iconst (v := 5) rfl rfl ?_
  refine R_cV (as := [.int 5]) rfl rfl iv_M_errs (errs_g (c := 5) hg) (by omega) rfl rfl rfl (by decide) rfl rfl (Nat.le_of_ble_eq_true rfl) (fun _ q => ?_)
  obtain rfl := q.symm
  refine R_aload_n rfl rfl ?_
  refine R_cV (as := []) rfl rfl iv_M_goOn (goOn_b (mfl_E (σ := σ) (x := t.1) (by omega))) (by omega) rfl rfl rfl (by decide) rfl rfl (Nat.le_of_ble_eq_true rfl) (fun _ q => ?_)
  obtain rfl := q.symm
  refine R_iconst (v := 0) rfl rfl ?_
  refine R_istore_n rfl (by decide) ?_
  exact ((row_b (i := 0) (mfl_E (σ := σ) (x := t.1) (by omega)) (dM_mfl hd_).toV (dM_mfl hd_).2.2.1.1 (Nat.zero_le _) (by omega)).mono (am_Ok.mono (fun ρ e => by rw [e]; exact ⟨mfl_q.trans (smP_sI (p := pDm) (Or.inl ⟨rfl, by omega, by omega⟩)), (mfl_E (σ := σ) (x := t.1) (by omega)).fr (smP_sI (p := fun a b => a = 120 ∧ b = 20) ⟨rfl, rfl⟩) (by omega) (by omega)⟩))).weak ⟨rfl, rfl, trivial⟩
