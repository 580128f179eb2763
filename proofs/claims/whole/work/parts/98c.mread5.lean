/-! ===== the model reads the matrix, the text ===== -/
def sR (σ : am_G) (x : Nat) : am_G := (σ.1, σ.2.1, x)
theorem uP_sR {σ : am_G} {x : Nat} : am_uP (mm σ) 120 3 (some x) = mm (sR σ x) := by
  have e : am_up (am_P σ.2.2) 120 3 (some x) = am_P x := by
    funext a b
    unfold am_up am_P
    by_cases ha : a = 120
    · subst ha
      rw [if_pos rfl]
      by_cases hb : b = 3
      · subst hb
        rw [if_pos rfl]; rfl
      · rw [if_neg hb]
        have e2 : Nat.beq b 3 = false := by
          cases h : Nat.beq b 3 with
          | true => exact absurd (Nat.eq_of_beq_eq_true h) hb
          | false => rfl
        rw [e2]; rfl
    · rw [if_neg ha]
      have e2 : Nat.beq a 120 = false := by
        cases h : Nat.beq a 120 with
        | true => exact absurd (Nat.eq_of_beq_eq_true h) ha
        | false => rfl
      rw [e2]; rfl
  show (Sh, σ.1, σ.2.1, am_up (am_P σ.2.2) 120 3 (some x)) = (Sh, σ.1, σ.2.1, am_P x)
  rw [e]
theorem R_pRow {d k pc idx x : Nat} {c : am_C} {ls : List (Option Value)} {st : List Value} {σ : am_G} {Q : am_Res → Prop} (hc : c.2 pc = some (.putfield idx, 3, 11, 3)) (h : am_R am_TX d k c (pc + 3) ls st (mm (sR σ x)) Q) : am_R am_TX d k c pc ls (.ref x :: .ref 120 :: st) (mm σ) Q := by
  refine R_putP (a := 0) (b := 0) hc (by decide) rfl (by decide) (fun _ _ _ => rfl) (by decide) (fun _ => rfl) (fun _ => rfl) ?_
  rw [uP_sR]; exact h
theorem sR_bk {P : Nat → Nat → Prop} {σ ρ : am_G} (h : smP P (sR σ 122) ρ) (e : σ.2.2 = 121) : smP P σ (sR ρ 121) := ⟨h.1, e.symm⟩
def mtM (B : List Int32) (n : Nat) (t : am_T) : Option (Nat × Nat) :=
  if isWd B wM t then (if ckN 1 6 (nx B n t) = 0 then (if ckN 1 6 (nx B n (nx B n t)) = 0 then none else some (ckN 1 6 (nx B n (nx B n t)), (nx B n (nx B n t)).1)) else some (ckN 1 6 (nx B n t), (nx B n t).1)) else some (1, t.1)
theorem mt_mt {B : List Int32} {n : Nat} {t : am_T} : mtE B n t = match mtM B n t with
    | some e => some e
    | none => if isSy B 59 (nx B n (nx B n (nx B n t))) then none else some (1, (nx B n (nx B n (nx B n t))).1) := by
  unfold mtE mtM
  by_cases a : isWd B wM t
  · rw [if_pos a, if_pos a]
    by_cases b : ckN 1 6 (nx B n t) = 0
    · rw [if_pos b, if_pos b]
      by_cases c : ckN 1 6 (nx B n (nx B n t)) = 0
      · rw [if_pos c, if_pos c]
      · rw [if_neg c, if_neg c]
    · rw [if_neg b, if_neg b]
  · rw [if_neg a, if_neg a]
def dZ (σ : am_G) (a b : Int64) : Prop := σ.1 120 4 = 0 ∧ σ.1 120 20 = 0 ∧ σ.2.1 122 0 = a ∧ σ.2.1 122 1 = b ∧ ∀ k, 2 ≤ k → k < 98 → σ.2.1 122 k = 0
theorem dZ_q {σ σ1 : am_G} (q : smP pSd σ σ1) {a b : Int64} (h : dZ σ a b) : dZ σ1 a b :=
  ⟨(q.i (by unfold pSd; omega)).trans h.1, (q.i (by unfold pSd; omega)).trans h.2.1, (q.1 122 _ (by unfold pSd; omega)).2.trans h.2.2.1, (q.1 122 _ (by unfold pSd; omega)).2.trans h.2.2.2.1, fun k h1 h2 => (q.1 122 _ (by unfold pSd; omega)).2.trans (h.2.2.2.2 k h1 h2)⟩
theorem dZ_0 {σ : am_G} {a b x : Int64} (h : dZ σ a b) : dZ (sL σ 122 0 x) x b :=
  ⟨h.1, h.2.1, sL_s, (sL_o (Or.inr (by decide))).trans h.2.2.2.1, fun k h1 h2 => (sL_o (Or.inr (by omega))).trans (h.2.2.2.2 k h1 h2)⟩
theorem dZ_1 {σ : am_G} {a b x : Int64} (h : dZ σ a b) : dZ (sL σ 122 1 x) a x :=
  ⟨h.1, h.2.1, (sL_o (Or.inr (by decide))).trans h.2.2.1, sL_s, fun k h1 h2 => (sL_o (Or.inr (by omega))).trans (h.2.2.2.2 k h1 h2)⟩
theorem dZ_M {σ : am_G} {h w : Nat} (hz : dZ σ (nI h).toInt64 (nI w).toInt64) (h1 : 1 ≤ h ∧ h ≤ 6) (h2 : 1 ≤ w ∧ w ≤ 6) (hr : σ.2.2 = 122) : dM σ h w (fun _ _ => 0) 0 (fun _ => 0) 0 :=
  ⟨⟨h1, h2⟩, ⟨hr, hz.1⟩, ⟨hz.2.1, Nat.zero_le _⟩, ⟨hz.2.2.1, hz.2.2.2.1, fun i j hi hj => hz.2.2.2.2 _ (by omega) (by omega)⟩, ⟨hz.2.2.2.2 2 (by omega) (by omega), Nat.zero_le _, fun j hj => absurd hj (Nat.not_lt_zero _)⟩, fun k hk => hz.2.2.2.2 k (by omega) (by omega)⟩
theorem am_SLm : (24, wM) ∈ am_SL := List.mem_of_getElem? (i := 4) rfl
theorem am_SLr : (25, wRo) ∈ am_SL := List.mem_of_getElem? (i := 5) rfl
theorem am_SLp : (26, wPr) ∈ am_SL := List.mem_of_getElem? (i := 6) rfl
set_option maxRecDepth 100000 in
set_option maxHeartbeats 4000000 in
theorem sp_mparseMatrix {σ : am_G} {n : Nat} {B : List Int32} {t : am_T} (hg : tG σ n B t) (hz : dZ σ 0 0) (hr : σ.2.2 = 122) : am_Call am_TX 5 0 c_M_parseMatrix [.ref 120] (mm σ) (am_Ok none (fun σ1 => smP pDm σ σ1 ∧ mPost (mtM B n t) σ1 (tG σ1 n B (nx B n (nx B n (nx B n t))) ∧ dM σ1 (nx B n t).2.2.2 (nx B n (nx B n t)).2.2.2 (fun _ _ => 0) 0 (fun _ => 0) 0))) := by
  refine ⟨mf_M_parseMatrix, Nat.le_of_ble_eq_true rfl, ?_⟩
  refine R_aload_n rfl rfl ?_
  refine R_ldcS (i := 24) rfl (List.mem_of_getElem? (i := 24) rfl) ?_
  refine R_cV (as := [.ref (1000 + 24)]) rfl rfl iv_M_isText (sp_isText hg am_SLm) (by omega) rfl rfl rfl (by decide) rfl rfl (Nat.le_of_ble_eq_true rfl) (fun _ q => ?_)
  obtain rfl := q.symm
  refine R_zif_ne rfl rfl (fun g1 => ?_) (fun g1 => ?_)
  · refine R_aload_n rfl rfl ?_
    refine R_cV (as := []) rfl rfl iv_M_goOn (goOn_g hg) (by omega) rfl rfl rfl (by decide) rfl rfl (Nat.le_of_ble_eq_true rfl) (fun ρ2 hρ2 => ?_)
    obtain ⟨q_ρ2, g_ρ2⟩ := hρ2
    have hz_ρ2 := dZ_q q_ρ2 hz
    refine R_aload_n rfl rfl ?_
    refine R_gP (x := 122) rfl rfl fp_11_3 ((congrArg (fun r => am_P r 120 3) ((q_ρ2.mono pDm_d).2.trans hr)).trans rfl) ?_
    refine R_iconst (v := 0) rfl rfl ?_
    refine R_aload_n rfl rfl ?_
    refine R_iconst (v := 1) rfl rfl ?_
    refine R_bipush (v := 6) rfl (by decide) ?_
    by_cases g2 : ckN 1 6 (nx B n t) = 0
    · refine R_cV (as := [.int 1, .int 6]) rfl rfl iv_M_number (num_1 (lo := 1) (hi := 6) g_ρ2 (by omega) (by omega) g2) (by omega) rfl rfl rfl (by decide) rfl rfl (Nat.le_of_ble_eq_true rfl) (fun ρ4 hρ4 => ?_)
      obtain ⟨q_ρ4, g_ρ4⟩ := hρ4
      have hz_ρ4 := dZ_q q_ρ4 hz_ρ2
      obtain ⟨v1ρ4, v2ρ4, v3ρ4, -⟩ := ck_v g_ρ2 (by omega) g2
      refine R_i2l rfl ?_
      refine R_wL (j := 0) rfl rfl rfl (by omega) (by decide) ?_
      refine R_aload_n rfl rfl ?_
      refine R_gP (x := 122) rfl rfl fp_11_3 ((congrArg (fun r => am_P r 120 3) ((((q_ρ2.mono pDm_d).trans (q_ρ4.mono pDm_d)).trans (smP_sL (p := pDm) (pDm_2 rfl))).2.trans hr)).trans rfl) ?_
      refine R_iconst (v := 1) rfl rfl ?_
      refine R_aload_n rfl rfl ?_
      refine R_iconst (v := 1) rfl rfl ?_
      refine R_bipush (v := 6) rfl (by decide) ?_
      by_cases g3 : ckN 1 6 (nx B n (nx B n t)) = 0
      · refine R_cV (as := [.int 1, .int 6]) rfl rfl iv_M_number (num_1 (lo := 1) (hi := 6) (show tG (sL ρ4 122 0 ((nI ((nx B n t).2.2.2)).toInt64)) n B (nx B n (nx B n t)) from g_ρ4.fr (smP_sL (p := fun a _ => a = 122) rfl) (fun b _ _ => by omega) (fun b => by omega)) (by omega) (by omega) g3) (by omega) rfl rfl rfl (by decide) rfl rfl (Nat.le_of_ble_eq_true rfl) (fun ρ6 hρ6 => ?_)
        obtain ⟨q_ρ6, g_ρ6⟩ := hρ6
        have hz_ρ6 := dZ_q q_ρ6 (show dZ (sL ρ4 122 0 ((nI ((nx B n t).2.2.2)).toInt64)) _ _ from dZ_0 hz_ρ4)
        obtain ⟨v1ρ6, v2ρ6, v3ρ6, -⟩ := ck_v (show tG (sL ρ4 122 0 ((nI ((nx B n t).2.2.2)).toInt64)) n B (nx B n (nx B n t)) from g_ρ4.fr (smP_sL (p := fun a _ => a = 122) rfl) (fun b _ _ => by omega) (fun b => by omega)) (by omega) g3
        refine R_i2l rfl ?_
        refine R_wL (j := 1) rfl rfl rfl (by omega) (by decide) ?_
        refine T_return rfl rfl (am_okv0 ⟨(((((q_ρ2.mono pDm_d).trans (q_ρ4.mono pDm_d)).trans (smP_sL (p := pDm) (pDm_2 rfl))).trans (q_ρ6.mono pDm_d)).trans (smP_sL (p := pDm) (pDm_2 rfl))), ?_⟩)
        rw [show mtM B n t = none from (if_pos g1).trans ((if_pos g2).trans (if_pos g3))]
        exact ⟨(show tG (sL ρ6 122 1 ((nI ((nx B n (nx B n t)).2.2.2)).toInt64)) n B (nx B n (nx B n (nx B n t))) from g_ρ6.fr (smP_sL (p := fun a _ => a = 122) rfl) (fun b _ _ => by omega) (fun b => by omega)), dZ_M (show dZ (sL ρ6 122 1 ((nI ((nx B n (nx B n t)).2.2.2)).toInt64)) _ _ from dZ_1 hz_ρ6) ⟨by omega, by omega⟩ ⟨by omega, by omega⟩ ((((((q_ρ2.mono pDm_d).trans (q_ρ4.mono pDm_d)).trans (smP_sL (p := pDm) (pDm_2 rfl))).trans (q_ρ6.mono pDm_d)).trans (smP_sL (p := pDm) (pDm_2 rfl))).2.trans hr)⟩
      · refine R_cV (as := [.int 1, .int 6]) rfl rfl iv_M_number (num_0 (lo := 1) (hi := 6) (show tG (sL ρ4 122 0 ((nI ((nx B n t).2.2.2)).toInt64)) n B (nx B n (nx B n t)) from g_ρ4.fr (smP_sL (p := fun a _ => a = 122) rfl) (fun b _ _ => by omega) (fun b => by omega)) (by omega) (by omega) g3) (by omega) rfl rfl rfl (by decide) rfl rfl (Nat.le_of_ble_eq_true rfl) (fun _ q => ?_)
        obtain rfl := q.symm
        refine R_i2l rfl ?_
        refine R_wL (j := 1) rfl rfl rfl (by omega) (by decide) ?_
        refine T_return rfl rfl (am_okv0 ⟨(((((q_ρ2.mono pDm_d).trans (q_ρ4.mono pDm_d)).trans (smP_sL (p := pDm) (pDm_2 rfl))).trans mfl_q).trans (smP_sL (p := pDm) (pDm_2 rfl))), ?_⟩)
        rw [show mtM B n t = some ((ckN 1 6 (nx B n (nx B n t))), (nx B n (nx B n t)).1) from (if_pos g1).trans ((if_pos g2).trans (if_neg g3))]
        exact (show tE (sL (mfl (sL ρ4 122 0 ((nI ((nx B n t).2.2.2)).toInt64)) (ckN 1 6 (nx B n (nx B n t))) (nx B n (nx B n t)).1) 122 1 ((1 : Int32).toInt64)) (ckN 1 6 (nx B n (nx B n t))) (nx B n (nx B n t)).1 from (mfl_E (σ := (sL ρ4 122 0 ((nI ((nx B n t).2.2.2)).toInt64))) (x := (nx B n (nx B n t)).1) (ck_15 g3)).fr (smP_sL (p := fun a _ => a = 122) rfl) (by omega) (by omega))
    · refine R_cV (as := [.int 1, .int 6]) rfl rfl iv_M_number (num_0 (lo := 1) (hi := 6) g_ρ2 (by omega) (by omega) g2) (by omega) rfl rfl rfl (by decide) rfl rfl (Nat.le_of_ble_eq_true rfl) (fun _ q => ?_)
      obtain rfl := q.symm
      refine R_i2l rfl ?_
      refine R_wL (j := 0) rfl rfl rfl (by omega) (by decide) ?_
      refine R_aload_n rfl rfl ?_
      refine R_gP (x := 122) rfl rfl fp_11_3 ((congrArg (fun r => am_P r 120 3) ((((q_ρ2.mono pDm_d).trans mfl_q).trans (smP_sL (p := pDm) (pDm_2 rfl))).2.trans hr)).trans rfl) ?_
      refine R_iconst (v := 1) rfl rfl ?_
      refine R_aload_n rfl rfl ?_
      refine R_iconst (v := 1) rfl rfl ?_
      refine R_bipush (v := 6) rfl (by decide) ?_
      refine R_cV (as := [.int 1, .int 6]) rfl rfl iv_M_number (num_b (lo := 1) (hi := 6) (show tE (sL (mfl ρ2 (ckN 1 6 (nx B n t)) (nx B n t).1) 122 0 ((1 : Int32).toInt64)) (ckN 1 6 (nx B n t)) (nx B n t).1 from (mfl_E (σ := ρ2) (x := (nx B n t).1) (ck_15 g2)).fr (smP_sL (p := fun a _ => a = 122) rfl) (by omega) (by omega))) (by omega) rfl rfl rfl (by decide) rfl rfl (Nat.le_of_ble_eq_true rfl) (fun _ q => ?_)
      obtain rfl := q.symm
      refine R_i2l rfl ?_
      refine R_wL (j := 1) rfl rfl rfl (by omega) (by decide) ?_
      refine T_return rfl rfl (am_okv0 ⟨((((q_ρ2.mono pDm_d).trans mfl_q).trans (smP_sL (p := pDm) (pDm_2 rfl))).trans (smP_sL (p := pDm) (pDm_2 rfl))), ?_⟩)
      rw [show mtM B n t = some ((ckN 1 6 (nx B n t)), (nx B n t).1) from (if_pos g1).trans (if_neg g2)]
      exact (show tE (sL (sL (mfl ρ2 (ckN 1 6 (nx B n t)) (nx B n t).1) 122 0 ((1 : Int32).toInt64)) 122 1 ((1 : Int32).toInt64)) (ckN 1 6 (nx B n t)) (nx B n t).1 from (show tE (sL (mfl ρ2 (ckN 1 6 (nx B n t)) (nx B n t).1) 122 0 ((1 : Int32).toInt64)) (ckN 1 6 (nx B n t)) (nx B n t).1 from (mfl_E (σ := ρ2) (x := (nx B n t).1) (ck_15 g2)).fr (smP_sL (p := fun a _ => a = 122) rfl) (by omega) (by omega)).fr (smP_sL (p := fun a _ => a = 122) rfl) (by omega) (by omega))
  · refine R_aload_n rfl rfl ?_
    refine R_iconst (v := 1) rfl rfl ?_
    refine R_cV (as := [.int 1]) rfl rfl iv_M_errs (errs_g (c := 1) hg) (by omega) rfl rfl rfl (by decide) rfl rfl (Nat.le_of_ble_eq_true rfl) (fun _ q => ?_)
    obtain rfl := q.symm
    refine R_aload_n rfl rfl ?_
    refine R_cV (as := []) rfl rfl iv_M_goOn (goOn_b (mfl_E (σ := σ) (x := t.1) (by omega))) (by omega) rfl rfl rfl (by decide) rfl rfl (Nat.le_of_ble_eq_true rfl) (fun _ q => ?_)
    obtain rfl := q.symm
    refine R_aload_n rfl rfl ?_
    refine R_gP (x := 122) rfl rfl fp_11_3 ((congrArg (fun r => am_P r 120 3) (mfl_q.2.trans hr)).trans rfl) ?_
    refine R_iconst (v := 0) rfl rfl ?_
    refine R_aload_n rfl rfl ?_
    refine R_iconst (v := 1) rfl rfl ?_
    refine R_bipush (v := 6) rfl (by decide) ?_
    refine R_cV (as := [.int 1, .int 6]) rfl rfl iv_M_number (num_b (lo := 1) (hi := 6) (mfl_E (σ := σ) (x := t.1) (by omega))) (by omega) rfl rfl rfl (by decide) rfl rfl (Nat.le_of_ble_eq_true rfl) (fun _ q => ?_)
    obtain rfl := q.symm
    refine R_i2l rfl ?_
    refine R_wL (j := 0) rfl rfl rfl (by omega) (by decide) ?_
    refine R_aload_n rfl rfl ?_
    refine R_gP (x := 122) rfl rfl fp_11_3 ((congrArg (fun r => am_P r 120 3) ((mfl_q.trans (smP_sL (p := pDm) (pDm_2 rfl))).2.trans hr)).trans rfl) ?_
    refine R_iconst (v := 1) rfl rfl ?_
    refine R_aload_n rfl rfl ?_
    refine R_iconst (v := 1) rfl rfl ?_
    refine R_bipush (v := 6) rfl (by decide) ?_
    refine R_cV (as := [.int 1, .int 6]) rfl rfl iv_M_number (num_b (lo := 1) (hi := 6) (show tE (sL (mfl σ 1 t.1) 122 0 ((1 : Int32).toInt64)) 1 t.1 from (mfl_E (σ := σ) (x := t.1) (by omega)).fr (smP_sL (p := fun a _ => a = 122) rfl) (by omega) (by omega))) (by omega) rfl rfl rfl (by decide) rfl rfl (Nat.le_of_ble_eq_true rfl) (fun _ q => ?_)
    obtain rfl := q.symm
    refine R_i2l rfl ?_
    refine R_wL (j := 1) rfl rfl rfl (by omega) (by decide) ?_
    refine T_return rfl rfl (am_okv0 ⟨((mfl_q.trans (smP_sL (p := pDm) (pDm_2 rfl))).trans (smP_sL (p := pDm) (pDm_2 rfl))), ?_⟩)
    rw [show mtM B n t = some (1, t.1) from if_neg g1]
    exact (show tE (sL (sL (mfl σ 1 t.1) 122 0 ((1 : Int32).toInt64)) 122 1 ((1 : Int32).toInt64)) 1 t.1 from (show tE (sL (mfl σ 1 t.1) 122 0 ((1 : Int32).toInt64)) 1 t.1 from (mfl_E (σ := σ) (x := t.1) (by omega)).fr (smP_sL (p := fun a _ => a = 122) rfl) (by omega) (by omega)).fr (smP_sL (p := fun a _ => a = 122) rfl) (by omega) (by omega))
