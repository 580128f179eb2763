/-! ===== the model reads primes and rows ===== -/
def mPost (r : Option (Nat × Nat)) (σ1 : am_G) (G : Prop) : Prop := match r with
  | none => G
  | some e => tE σ1 e.1 e.2
def pmM (B : List Int32) (n : Nat) (P : Nat → Nat) (pn : Nat) (t : am_T) : Option (Nat × Nat) :=
  if ckN 2 97 (nx B n t) = 0 then (if (nx B n t).2.2.2 ∈ prL then (if ∃ j, j < pn ∧ P j = (nx B n t).2.2.2 then some (4, (nx B n t).1) else none) else some (3, (nx B n t).1)) else some (ckN 2 97 (nx B n t), (nx B n t).1)
theorem pm_pm {B : List Int32} {n pn : Nat} {P : Nat → Nat} {t : am_T} : pmE B n P pn t = match pmM B n P pn t with
    | some e => some e
    | none => if isSy B 59 (nx B n (nx B n t)) then none else some (1, (nx B n (nx B n t)).1) := by
  unfold pmE pmM
  by_cases a : ckN 2 97 (nx B n t) = 0
  · rw [if_pos a, if_pos a]
    by_cases b : (nx B n t).2.2.2 ∈ prL
    · rw [if_pos b, if_pos b]
      by_cases c : ∃ j, j < pn ∧ P j = (nx B n t).2.2.2
      · rw [if_pos c, if_pos c]
      · rw [if_neg c, if_neg c]
    · rw [if_neg b, if_neg b]
  · rw [if_neg a, if_neg a]
theorem dM_prime {σ : am_G} {h w rt pn p : Nat} {f : am_Gr} {P : Nat → Nat} {x y : Int64} (hd : dM σ h w f rt P pn) (h6 : pn < 6) (hp : p ∈ prL) (hx : x = (nI p).toInt64) (hy : y = (nI (pn + 1)).toInt64) : dM (sL (sL σ 122 (50 + pn) x) 122 2 y) h w f rt (fun j => if j = pn then p else P j) (pn + 1) := by
  obtain ⟨a, b, c, ⟨d1, d2, d3⟩, ⟨e1, e2, e3⟩, g⟩ := hd
  have o : ∀ k, k ≠ 2 → k ≠ 50 + pn → (sL (sL σ 122 (50 + pn) x) 122 2 y).2.1 122 k = σ.2.1 122 k := fun k h1 h2 => (sL_o (Or.inr h1)).trans (sL_o (Or.inr h2))
  refine ⟨a, b, c, ⟨(o 0 (by omega) (by omega)).trans d1, (o 1 (by omega) (by omega)).trans d2, fun i j hi hj => (o _ (by omega) (by omega)).trans (d3 i j hi hj)⟩, ⟨sL_s.trans hy, by omega, fun j hj => ?_⟩, fun k hk => (o k (by omega) (by omega)).trans (g k hk)⟩
  by_cases e : j = pn
  · subst e
    show (sL (sL σ 122 (50 + j) x) 122 2 y).2.1 122 (50 + j) = (nI (if j = j then p else P j)).toInt64 ∧ (if j = j then p else P j) ∈ prL
    rw [if_pos rfl]
    exact ⟨(sL_o (Or.inr (by omega))).trans (sL_s.trans hx), hp⟩
  · show (sL (sL σ 122 (50 + pn) x) 122 2 y).2.1 122 (50 + j) = (nI (if j = pn then p else P j)).toInt64 ∧ (if j = pn then p else P j) ∈ prL
    rw [if_neg e]
    exact ⟨(o _ (by omega) (by omega)).trans (e3 j (by omega)).1, (e3 j (by omega)).2⟩
theorem dM_put {σ : am_G} {h w rt pn i j : Nat} {f : am_Gr} {P : Nat → Nat} {x : Int64} (hd : dM σ h w f rt P pn) (hi : i < 6) (hj : j < 6) : dM (sL σ 122 (14 + 6 * i + j) x) h w (up2 f i j x) rt P pn := by
  obtain ⟨a, b, c, ⟨d1, d2, d3⟩, ⟨e1, e2, e3⟩, g⟩ := hd
  have o : ∀ k, k ≠ 14 + 6 * i + j → (sL σ 122 (14 + 6 * i + j) x).2.1 122 k = σ.2.1 122 k := fun k h1 => sL_o (Or.inr h1)
  refine ⟨a, b, c, ⟨(o 0 (by omega)).trans d1, (o 1 (by omega)).trans d2, fun p q hp hq => ?_⟩, ⟨(o 2 (by omega)).trans e1, e2, fun j hj => ⟨(o _ (by omega)).trans (e3 j hj).1, (e3 j hj).2⟩⟩, fun k hk => (o k (by omega)).trans (g k hk)⟩
  unfold up2
  by_cases e : p = i ∧ q = j
  · rw [if_pos e, e.1, e.2]; exact sL_s
  · rw [if_neg e]; exact (o _ (by omega)).trans (d3 p q hp hq)
theorem dM_qq {σ σ1 : am_G} (q : smP pSd σ σ1) {h w rt pn : Nat} {f : am_Gr} {P : Nat → Nat} (hd : dM σ h w f rt P pn) : dM σ1 h w f rt P pn := hd.fr q (fun b => by unfold pSd; omega) (by unfold pSd; omega) (by unfold pSd; omega)
theorem pDm_2 {a b : Nat} (h : a = 122) : pDm a b := Or.inr h
set_option maxRecDepth 100000 in
set_option maxHeartbeats 4000000 in
theorem sp_mparsePrime {σ : am_G} {n : Nat} {B : List Int32} {t : am_T} {h w rt pn : Nat} {f : am_Gr} {P : Nat → Nat} (hg : tG σ n B t) (hd_ : dM σ h w f rt P pn) (h6 : pn < 6) : am_Call am_TX 5 0 c_M_parsePrime [.ref 120] (mm σ) (am_Ok none (fun σ1 => smP pDm σ σ1 ∧ mPost (pmM B n P pn t) σ1 (tG σ1 n B (nx B n (nx B n t)) ∧ dM σ1 h w f rt (fun j => if j = pn then (nx B n t).2.2.2 else P j) (pn + 1)))) := by
  have hp6 := hd_.2.2.2.2.1.2.1
  have hPl := fun j hj => prL_le (P j) (hd_.2.2.2.2.1.2.2 j hj).2
  refine ⟨mf_M_parsePrime, Nat.le_of_ble_eq_true rfl, ?_⟩
  refine R_aload_n rfl rfl ?_
  refine R_iconst (v := 2) rfl rfl ?_
  refine R_cV (as := [.int 2]) rfl rfl iv_M_get (dget (j := 2) hd_.2.1.1 (by omega) hd_.2.2.2.2.1.1) (by omega) rfl rfl rfl (by decide) rfl rfl (Nat.le_of_ble_eq_true rfl) (fun _ q => ?_)
  obtain rfl := q.symm
  refine R_bipush (v := 6) rfl (by decide) ?_
  refine R_nicmp_ne (x := pn) (y := 6) rfl rfl (by omega) (by omega) (fun g1 => ?_) (fun z => by omega)
  refine R_aload_n rfl rfl ?_
  refine R_cV (as := []) rfl rfl iv_M_goOn (goOn_g hg) (by omega) rfl rfl rfl (by decide) rfl rfl (Nat.le_of_ble_eq_true rfl) (fun ρ2 hρ2 => ?_)
  obtain ⟨q_ρ2, g_ρ2⟩ := hρ2
  have hd1 : dM ρ2 h w f rt P pn := dM_qq q_ρ2 hd_
  refine R_aload_n rfl rfl ?_
  refine R_iconst (v := 2) rfl rfl ?_
  refine R_bipush (v := 97) rfl (by decide) ?_
  by_cases g2 : ckN 2 97 (nx B n t) = 0
  · refine R_cV (as := [.int 2, .int 97]) rfl rfl iv_M_numberHere (numH_1 (lo := 2) (hi := 97) g_ρ2 (by omega) (by omega) g2) (by omega) rfl rfl rfl (by decide) rfl rfl (Nat.le_of_ble_eq_true rfl) (fun _ q => ?_)
    obtain rfl := q.symm
    obtain ⟨v1, v2, v3, -⟩ := ck_v g_ρ2 (by omega) g2
    refine R_istore_n rfl (by decide) ?_
    refine R_aload_n rfl rfl ?_
    refine R_cV (as := []) rfl rfl iv_M_good (good_1 g_ρ2.2.2.2.1) (by omega) rfl rfl rfl (by decide) rfl rfl (Nat.le_of_ble_eq_true rfl) (fun _ q => ?_)
    obtain rfl := q.symm
    refine R_if_eq rfl rfl (fun z => absurd z (by decide)) (fun _ => ?_)
    refine R_iload_n rfl rfl ?_
    refine R_cS (as := [.int (nI ((nx B n t).2.2.2))]) rfl rfl iv_M_isPrime (sp_mprime (n := ((nx B n t).2.2.2)) (by omega) (by omega)) (by omega) rfl rfl rfl rfl (Nat.le_of_ble_eq_true rfl) (fun _ q => ?_)
    obtain rfl := q.symm
    refine R_zif_ne rfl rfl (fun g3 => ?_) (fun g3 => ?_)
    · refine R_aload_n rfl rfl ?_
      refine R_cV (as := []) rfl rfl iv_M_good (good_1 g_ρ2.2.2.2.1) (by omega) rfl rfl rfl (by decide) rfl rfl (Nat.le_of_ble_eq_true rfl) (fun _ q => ?_)
      obtain rfl := q.symm
      refine R_if_eq rfl rfl (fun z => absurd z (by decide)) (fun _ => ?_)
      refine R_aload_n rfl rfl ?_
      refine R_iload_n rfl rfl ?_
      refine R_cV (as := [.int (nI ((nx B n t).2.2.2))]) rfl rfl iv_M_isTold (sp_isTold (p := ((nx B n t).2.2.2)) hd1 (by omega)) (by omega) rfl rfl rfl (by decide) rfl rfl (Nat.le_of_ble_eq_true rfl) (fun _ q => ?_)
      obtain rfl := q.symm
      refine R_zif_eq rfl rfl (fun g4 => ?_) (fun g4 => ?_)
      · refine R_aload_n rfl rfl ?_
        refine R_cV (as := []) rfl rfl iv_M_good (good_1 g_ρ2.2.2.2.1) (by omega) rfl rfl rfl (by decide) rfl rfl (Nat.le_of_ble_eq_true rfl) (fun _ q => ?_)
        obtain rfl := q.symm
        refine R_if_ne rfl rfl (fun _ => ?_) (fun z => absurd z (by decide))
        refine R_aload_n rfl rfl ?_
        refine R_gP (x := 122) rfl rfl fp_11_3 ((congrArg (fun r => am_P r 120 3) hd1.2.1.1).trans rfl) ?_
        refine R_bipush (v := 50) rfl (by decide) ?_
        refine R_aload_n rfl rfl ?_
        refine R_iconst (v := 2) rfl rfl ?_
        refine R_cV (as := [.int 2]) rfl rfl iv_M_get (dget (j := 2) hd1.2.1.1 (by omega) hd1.2.2.2.2.1.1) (by omega) rfl rfl rfl (by decide) rfl rfl (Nat.le_of_ble_eq_true rfl) (fun _ q => ?_)
        obtain rfl := q.symm
        refine R_iaddN (x := 50) (y := pn) rfl ?_
        refine R_iload_n rfl rfl ?_
        refine R_i2l rfl ?_
        refine R_wL (j := (50 + pn)) rfl rfl rfl (by omega) (by decide) ?_
        refine R_aload_n rfl rfl ?_
        refine R_gP (x := 122) rfl rfl fp_11_3 ((congrArg (fun r => am_P r 120 3) hd1.2.1.1).trans rfl) ?_
        refine R_iconst (v := 2) rfl rfl ?_
        refine R_dup2 rfl rfl rfl ?_
        refine R_xL (j := 2) rfl rfl rfl (by omega) (by decide) ?_
        refine R_lconst (v := 1) rfl rfl ?_
        refine R_ladd rfl ?_
        refine R_wL (j := 2) rfl rfl rfl (by omega) (by decide) ?_
        have hgM : tG (sL (sL ρ2 122 (50 + pn) ((nI ((nx B n t).2.2.2)).toInt64)) 122 2 (((sL ρ2 122 (50 + pn) ((nI ((nx B n t).2.2.2)).toInt64)).2.1 122 2) + 1)) n B (nx B n t) := (g_ρ2.fr (smP_sL (p := fun a _ => a = 122) rfl) (fun b _ _ => by omega) (fun b => by omega)).fr (smP_sL (p := fun a _ => a = 122) rfl) (fun b _ _ => by omega) (fun b => by omega)
        have hdM : dM (sL (sL ρ2 122 (50 + pn) ((nI ((nx B n t).2.2.2)).toInt64)) 122 2 (((sL ρ2 122 (50 + pn) ((nI ((nx B n t).2.2.2)).toInt64)).2.1 122 2) + 1)) h w f rt (fun j => if j = pn then (nx B n t).2.2.2 else P j) (pn + 1) := dM_prime hd1 h6 g3 rfl (by rw [sL_o (Or.inr (by omega)), hd1.2.2.2.2.1.1]; exact nI_64s (by omega))
        refine R_aload_n rfl rfl ?_
        refine R_cV (as := []) rfl rfl iv_M_goOn (goOn_g hgM) (by omega) rfl rfl rfl (by decide) rfl rfl (Nat.le_of_ble_eq_true rfl) (fun ρ11 hρ11 => ?_)
        obtain ⟨q_ρ11, g_ρ11⟩ := hρ11
        refine T_return rfl rfl (am_okv0 ⟨((((q_ρ2.mono pDm_d).trans (smP_sL (p := pDm) (pDm_2 rfl))).trans (smP_sL (p := pDm) (pDm_2 rfl))).trans (q_ρ11.mono pDm_d)), ?_⟩)
        rw [show pmM B n P pn t = none from (if_pos g2).trans ((if_pos g3).trans (if_neg g4))]
        exact ⟨g_ρ11, (dM_qq q_ρ11 hdM)⟩
      · refine R_aload_n rfl rfl ?_
        refine R_iconst (v := 4) rfl rfl ?_
        refine R_cV (as := [.int 4]) rfl rfl iv_M_errs (errs_g (c := 4) g_ρ2) (by omega) rfl rfl rfl (by decide) rfl rfl (Nat.le_of_ble_eq_true rfl) (fun _ q => ?_)
        obtain rfl := q.symm
        refine R_aload_n rfl rfl ?_
        refine R_cV (as := []) rfl rfl iv_M_good (good_0 (mfl_E (σ := ρ2) (x := (nx B n t).1) (by omega))) (by omega) rfl rfl rfl (by decide) rfl rfl (Nat.le_of_ble_eq_true rfl) (fun _ q => ?_)
        obtain rfl := q.symm
        refine R_if_ne rfl rfl (fun z => absurd z (by decide)) (fun _ => ?_)
        refine T_return rfl rfl (am_okv0 ⟨((q_ρ2.mono pDm_d).trans mfl_q), ?_⟩)
        rw [show pmM B n P pn t = some (4, (nx B n t).1) from (if_pos g2).trans ((if_pos g3).trans (if_pos g4))]
        exact (mfl_E (σ := ρ2) (x := (nx B n t).1) (by omega))
    · refine R_aload_n rfl rfl ?_
      refine R_iconst (v := 3) rfl rfl ?_
      refine R_cV (as := [.int 3]) rfl rfl iv_M_errs (errs_g (c := 3) g_ρ2) (by omega) rfl rfl rfl (by decide) rfl rfl (Nat.le_of_ble_eq_true rfl) (fun _ q => ?_)
      obtain rfl := q.symm
      refine R_aload_n rfl rfl ?_
      refine R_cV (as := []) rfl rfl iv_M_good (good_0 (mfl_E (σ := ρ2) (x := (nx B n t).1) (by omega))) (by omega) rfl rfl rfl (by decide) rfl rfl (Nat.le_of_ble_eq_true rfl) (fun _ q => ?_)
      obtain rfl := q.symm
      refine R_if_eq rfl rfl (fun _ => ?_) (fun z => absurd z (by decide))
      refine R_aload_n rfl rfl ?_
      refine R_cV (as := []) rfl rfl iv_M_good (good_0 (mfl_E (σ := ρ2) (x := (nx B n t).1) (by omega))) (by omega) rfl rfl rfl (by decide) rfl rfl (Nat.le_of_ble_eq_true rfl) (fun _ q => ?_)
      obtain rfl := q.symm
      refine R_if_ne rfl rfl (fun z => absurd z (by decide)) (fun _ => ?_)
      refine T_return rfl rfl (am_okv0 ⟨((q_ρ2.mono pDm_d).trans mfl_q), ?_⟩)
      rw [show pmM B n P pn t = some (3, (nx B n t).1) from (if_pos g2).trans (if_neg g3)]
      exact (mfl_E (σ := ρ2) (x := (nx B n t).1) (by omega))
  · refine R_cV (as := [.int 2, .int 97]) rfl rfl iv_M_numberHere (numH_0 (lo := 2) (hi := 97) g_ρ2 (by omega) (by omega) g2) (by omega) rfl rfl rfl (by decide) rfl rfl (Nat.le_of_ble_eq_true rfl) (fun _ q => ?_)
    obtain rfl := q.symm
    refine R_istore_n rfl (by decide) ?_
    refine R_aload_n rfl rfl ?_
    refine R_cV (as := []) rfl rfl iv_M_good (good_0 (mfl_E (σ := ρ2) (x := (nx B n t).1) (ck_15 g2))) (by omega) rfl rfl rfl (by decide) rfl rfl (Nat.le_of_ble_eq_true rfl) (fun _ q => ?_)
    obtain rfl := q.symm
    refine R_if_eq rfl rfl (fun _ => ?_) (fun z => absurd z (by decide))
    refine R_aload_n rfl rfl ?_
    refine R_cV (as := []) rfl rfl iv_M_good (good_0 (mfl_E (σ := ρ2) (x := (nx B n t).1) (ck_15 g2))) (by omega) rfl rfl rfl (by decide) rfl rfl (Nat.le_of_ble_eq_true rfl) (fun _ q => ?_)
    obtain rfl := q.symm
    refine R_if_eq rfl rfl (fun _ => ?_) (fun z => absurd z (by decide))
    refine R_aload_n rfl rfl ?_
    refine R_cV (as := []) rfl rfl iv_M_good (good_0 (mfl_E (σ := ρ2) (x := (nx B n t).1) (ck_15 g2))) (by omega) rfl rfl rfl (by decide) rfl rfl (Nat.le_of_ble_eq_true rfl) (fun _ q => ?_)
    obtain rfl := q.symm
    refine R_if_ne rfl rfl (fun z => absurd z (by decide)) (fun _ => ?_)
    refine T_return rfl rfl (am_okv0 ⟨((q_ρ2.mono pDm_d).trans mfl_q), ?_⟩)
    rw [show pmM B n P pn t = some ((ckN 2 97 (nx B n t)), (nx B n t).1) from if_neg g2]
    exact (mfl_E (σ := ρ2) (x := (nx B n t).1) (ck_15 g2))
set_option maxRecDepth 100000 in
set_option maxHeartbeats 4000000 in
theorem sp_mparsePrime_6 {σ : am_G} {n : Nat} {B : List Int32} {t : am_T} {h w rt pn : Nat} {f : am_Gr} {P : Nat → Nat} (hg : tG σ n B t) (hd_ : dM σ h w f rt P pn) (h6 : pn = 6) : am_Call am_TX 5 0 c_M_parsePrime [.ref 120] (mm σ) (am_Ok none (fun σ1 => smP pDm σ σ1 ∧ tE σ1 5 t.1)) := by
  have hp6 := hd_.2.2.2.2.1.2.1
  have hPl := fun j hj => prL_le (P j) (hd_.2.2.2.2.1.2.2 j hj).2
  refine ⟨mf_M_parsePrime, Nat.le_of_ble_eq_true rfl, ?_⟩
  refine R_aload_n rfl rfl ?_
  refine R_iconst (v := 2) rfl rfl ?_
  refine R_cV (as := [.int 2]) rfl rfl iv_M_get (dget (j := 2) hd_.2.1.1 (by omega) hd_.2.2.2.2.1.1) (by omega) rfl rfl rfl (by decide) rfl rfl (Nat.le_of_ble_eq_true rfl) (fun _ q => ?_)
  obtain rfl := q.symm
  refine R_bipush (v := 6) rfl (by decide) ?_
  refine R_nicmp_ne (x := pn) (y := 6) rfl rfl (by omega) (by omega) (fun z => by omega) (fun g1 => ?_)
  refine R_aload_n rfl rfl ?_
  refine R_iconst (v := 5) rfl rfl ?_
  refine R_cV (as := [.int 5]) rfl rfl iv_M_errs (errs_g (c := 5) hg) (by omega) rfl rfl rfl (by decide) rfl rfl (Nat.le_of_ble_eq_true rfl) (fun _ q => ?_)
  obtain rfl := q.symm
  refine R_aload_n rfl rfl ?_
  refine R_cV (as := []) rfl rfl iv_M_goOn (goOn_b (mfl_E (σ := σ) (x := t.1) (by omega))) (by omega) rfl rfl rfl (by decide) rfl rfl (Nat.le_of_ble_eq_true rfl) (fun _ q => ?_)
  obtain rfl := q.symm
  refine R_aload_n rfl rfl ?_
  refine R_iconst (v := 2) rfl rfl ?_
  refine R_bipush (v := 97) rfl (by decide) ?_
  refine R_cV (as := [.int 2, .int 97]) rfl rfl iv_M_numberHere (numH_b (lo := 2) (hi := 97) (mfl_E (σ := σ) (x := t.1) (by omega))) (by omega) rfl rfl rfl (by decide) rfl rfl (Nat.le_of_ble_eq_true rfl) (fun _ q => ?_)
  obtain rfl := q.symm
  refine R_istore_n rfl (by decide) ?_
  refine R_aload_n rfl rfl ?_
  refine R_cV (as := []) rfl rfl iv_M_good (good_0 (mfl_E (σ := σ) (x := t.1) (by omega))) (by omega) rfl rfl rfl (by decide) rfl rfl (Nat.le_of_ble_eq_true rfl) (fun _ q => ?_)
  obtain rfl := q.symm
  refine R_if_eq rfl rfl (fun _ => ?_) (fun z => absurd z (by decide))
  refine R_aload_n rfl rfl ?_
  refine R_cV (as := []) rfl rfl iv_M_good (good_0 (mfl_E (σ := σ) (x := t.1) (by omega))) (by omega) rfl rfl rfl (by decide) rfl rfl (Nat.le_of_ble_eq_true rfl) (fun _ q => ?_)
  obtain rfl := q.symm
  refine R_if_eq rfl rfl (fun _ => ?_) (fun z => absurd z (by decide))
  refine R_aload_n rfl rfl ?_
  refine R_cV (as := []) rfl rfl iv_M_good (good_0 (mfl_E (σ := σ) (x := t.1) (by omega))) (by omega) rfl rfl rfl (by decide) rfl rfl (Nat.le_of_ble_eq_true rfl) (fun _ q => ?_)
  obtain rfl := q.symm
  refine R_if_ne rfl rfl (fun z => absurd z (by decide)) (fun _ => ?_)
  exact T_return rfl rfl (am_okv0 ⟨mfl_q, (mfl_E (σ := σ) (x := t.1) (by omega))⟩)
