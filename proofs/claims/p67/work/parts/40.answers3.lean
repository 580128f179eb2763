/-! ===== the rest of what the class answers ===== -/
theorem sp_primeAtV {σ : am_G} {h w rh pn p : Nat} {f v rl : am_Gr} {I : Nat → Int32} (hv : vS σ 26 h w f v rh rl pn I) (hp : p < 6) : am_Call am_TX 0 0 c_State_primeAt [.ref 26, .int (nI p)] (mm σ) (am_Ok (some (.int (I (8 + p)))) (fun σ1 => σ1 = σ)) := by
  have z := sp_primeAt (σ := σ) (s := 26) (p := p) isState_26 hp
  rw [show σ.1 (26 + 9) p = I (8 + p) from hv.2.2.2.2.2.2.2.2.2 p hp] at z
  exact z
theorem rg_g {lo n k : Nat} (h1 : lo ≤ n) (h : n ≤ k) (hk : k < 2 ^ 31) : nI lo ≤ nI n ∧ nI n ≤ nI k := by
  rw [Int32.le_iff_toInt_le, Int32.le_iff_toInt_le, nI_toInt (by omega), nI_toInt (by omega), nI_toInt hk]
  omega
/-- the primes that were told -/
def prP (pn : Nat) (I : Nat → Int32) (P : Nat → Nat) : Prop := ∀ j, j < pn → I (8 + j) = nI (P j) ∧ P j ∈ prL
set_option maxRecDepth 100000 in
set_option maxHeartbeats 4000000 in
theorem sp_D_count_0 {σ : am_G} {h w rh pn : Nat} {f v rl : am_Gr} {I : Nat → Int32} (hv : vS σ 26 h w f v rh rl pn I) : am_Call am_TX 8 0 c_D_count [.ref 0, .int 0] (mm σ) (am_Ok (some (.int (nI h))) (fun σ1 => smP (plc 17 26) σ σ1)) := by
  have hh6 := hv.1.1.2
  have hw6 := hv.1.2.1.2
  have hr6 := hv.2.2.1.1.2
  have hp6 := hv.2.2.2.1.2
  have hrg : (0 : Int32) ≤ 0 ∧ (0 : Int32) ≤ 6 := by decide
  refine ⟨mf_D_count, Nat.le_of_ble_eq_true rfl, ?_⟩
  refine R_aload_n rfl rfl ?_
  refine R_iload_n rfl rfl ?_
  refine R_iconst (v := 0) rfl rfl ?_
  refine R_bipush (v := 6) rfl (by decide) ?_
  refine R_cV (as := [.int 0, .int 0, .int 6]) rfl rfl iv_D_requireRange (sp_requireRange hrg) (by decide) rfl rfl rfl (by decide) rfl rfl (Nat.le_of_ble_eq_true rfl) (fun _ q => ?_)
  obtain rfl := q.symm
  refine R_iload_n rfl rfl ?_
  refine R_tswIn (off := 39) (tgt := 48) rfl (by decide) (by decide) rfl rfl ?_
  refine R_aload_n rfl rfl ?_
  refine R_gP (x := 26) rfl rfl fp_10_6 rfl ?_
  refine R_gP (x := 27) rfl rfl fp_9_0 rfl ?_
  refine R_gIN (n := h) rfl rfl fd_4_0 hv.1.1.1 ?_
  exact T_ireturn rfl rfl (am_oki rfl smP.refl)
set_option maxRecDepth 100000 in
set_option maxHeartbeats 4000000 in
theorem sp_D_count_1 {σ : am_G} {h w rh pn : Nat} {f v rl : am_Gr} {I : Nat → Int32} (hv : vS σ 26 h w f v rh rl pn I) : am_Call am_TX 8 0 c_D_count [.ref 0, .int 1] (mm σ) (am_Ok (some (.int (nI w))) (fun σ1 => smP (plc 17 26) σ σ1)) := by
  have hh6 := hv.1.1.2
  have hw6 := hv.1.2.1.2
  have hr6 := hv.2.2.1.1.2
  have hp6 := hv.2.2.2.1.2
  have hrg : (0 : Int32) ≤ 1 ∧ (1 : Int32) ≤ 6 := by decide
  refine ⟨mf_D_count, Nat.le_of_ble_eq_true rfl, ?_⟩
  refine R_aload_n rfl rfl ?_
  refine R_iload_n rfl rfl ?_
  refine R_iconst (v := 0) rfl rfl ?_
  refine R_bipush (v := 6) rfl (by decide) ?_
  refine R_cV (as := [.int 1, .int 0, .int 6]) rfl rfl iv_D_requireRange (sp_requireRange hrg) (by decide) rfl rfl rfl (by decide) rfl rfl (Nat.le_of_ble_eq_true rfl) (fun _ q => ?_)
  obtain rfl := q.symm
  refine R_iload_n rfl rfl ?_
  refine R_tswIn (off := 50) (tgt := 59) rfl (by decide) (by decide) rfl rfl ?_
  refine R_aload_n rfl rfl ?_
  refine R_gP (x := 26) rfl rfl fp_10_6 rfl ?_
  refine R_gP (x := 27) rfl rfl fp_9_0 rfl ?_
  refine R_gIN (n := w) rfl rfl fd_4_1 hv.1.2.1.1 ?_
  exact T_ireturn rfl rfl (am_oki rfl smP.refl)
set_option maxRecDepth 100000 in
set_option maxHeartbeats 4000000 in
theorem sp_D_count_2 {σ : am_G} {h w rh pn : Nat} {f v rl : am_Gr} {I : Nat → Int32} (hv : vS σ 26 h w f v rh rl pn I) : am_Call am_TX 8 0 c_D_count [.ref 0, .int 2] (mm σ) (am_Ok (some (.int (nI pn))) (fun σ1 => smP (plc 17 26) σ σ1)) := by
  have hh6 := hv.1.1.2
  have hw6 := hv.1.2.1.2
  have hr6 := hv.2.2.1.1.2
  have hp6 := hv.2.2.2.1.2
  have hrg : (0 : Int32) ≤ 2 ∧ (2 : Int32) ≤ 6 := by decide
  refine ⟨mf_D_count, Nat.le_of_ble_eq_true rfl, ?_⟩
  refine R_aload_n rfl rfl ?_
  refine R_iload_n rfl rfl ?_
  refine R_iconst (v := 0) rfl rfl ?_
  refine R_bipush (v := 6) rfl (by decide) ?_
  refine R_cV (as := [.int 2, .int 0, .int 6]) rfl rfl iv_D_requireRange (sp_requireRange hrg) (by decide) rfl rfl rfl (by decide) rfl rfl (Nat.le_of_ble_eq_true rfl) (fun _ q => ?_)
  obtain rfl := q.symm
  refine R_iload_n rfl rfl ?_
  refine R_tswIn (off := 61) (tgt := 70) rfl (by decide) (by decide) rfl rfl ?_
  refine R_aload_n rfl rfl ?_
  refine R_gP (x := 26) rfl rfl fp_10_6 rfl ?_
  refine R_gIN (n := pn) rfl rfl fd_9_3 hv.2.2.2.1.1 ?_
  exact T_ireturn rfl rfl (am_oki rfl smP.refl)
set_option maxRecDepth 100000 in
set_option maxHeartbeats 4000000 in
theorem sp_D_prime {σ : am_G} {h w rh pn : Nat} {f v rl : am_Gr} {I : Nat → Int32} {p : Nat} (hv : vS σ 26 h w f v rh rl pn I) (p_p : p < pn) : am_Call am_TX 8 0 c_D_prime [.ref 0, .int (nI p)] (mm σ) (am_Ok (some (.int (I (8 + p)))) (fun σ1 => smP (plc 17 26) σ σ1)) := by
  have hh6 := hv.1.1.2
  have hw6 := hv.1.2.1.2
  have hr6 := hv.2.2.1.1.2
  have hp6 := hv.2.2.2.1.2
  refine ⟨mf_D_prime, Nat.le_of_ble_eq_true rfl, ?_⟩
  refine R_aload_n rfl rfl ?_
  refine R_iload_n rfl rfl ?_
  refine R_cV (as := [.int (nI p)]) rfl rfl iv_D_requirePlace (sp_requirePlace (r := p) hv (by omega)) (by decide) rfl rfl rfl (by decide) rfl rfl (Nat.le_of_ble_eq_true rfl) (fun _ q => ?_)
  obtain rfl := q.symm
  refine R_aload_n rfl rfl ?_
  refine R_gP (x := 26) rfl rfl fp_10_6 rfl ?_
  refine R_iload_n rfl rfl ?_
  refine R_cV (as := [.int (nI p)]) rfl rfl iv_State_primeAt (sp_primeAtV (p := p) hv (by omega)) (by decide) rfl rfl rfl (by decide) rfl rfl (Nat.le_of_ble_eq_true rfl) (fun _ q => ?_)
  obtain rfl := q.symm
  exact T_ireturn rfl rfl (am_oki rfl smP.refl)
set_option maxRecDepth 100000 in
set_option maxHeartbeats 4000000 in
theorem sp_D_entry {σ : am_G} {h w rh pn : Nat} {f v rl : am_Gr} {I : Nat → Int32} {i : Nat} {j : Nat} (hv : vS σ 26 h w f v rh rl pn I) (i_h : i < h) (j_w : j < w) : am_Call am_TX 8 0 c_D_entry [.ref 0, .int (nI i), .int (nI j)] (mm σ) (am_Ok (some (.int (f i j).toInt32)) (fun σ1 => smP (plc 17 26) σ σ1)) := by
  have hh6 := hv.1.1.2
  have hw6 := hv.1.2.1.2
  have hr6 := hv.2.2.1.1.2
  have hp6 := hv.2.2.2.1.2
  refine ⟨mf_D_entry, Nat.le_of_ble_eq_true rfl, ?_⟩
  refine R_aload_n rfl rfl ?_
  refine R_iload_n rfl rfl ?_
  refine R_iload_n rfl rfl ?_
  refine R_cV (as := [.int (nI i), .int (nI j)]) rfl rfl iv_D_requireCell (sp_requireCell (i := i) (j := j) hv (by omega) (by omega)) (by decide) rfl rfl rfl (by decide) rfl rfl (Nat.le_of_ble_eq_true rfl) (fun _ q => ?_)
  obtain rfl := q.symm
  refine R_aload_n rfl rfl ?_
  refine R_gP (x := 26) rfl rfl fp_10_6 rfl ?_
  refine R_gP (x := 27) rfl rfl fp_9_0 rfl ?_
  refine R_iload_n rfl rfl ?_
  refine R_iload_n rfl rfl ?_
  refine R_cV (as := [.int (nI i), .int (nI j)]) rfl rfl iv_Matrix_at ((by have z := sp_Matrix_at (σ := σ) (k := 27) (i := i) (j := j) im27 (by omega) (by omega); rw [(hv.1).at (by omega) (by omega)] at z; exact z)) (by decide) rfl rfl rfl (by decide) rfl rfl (Nat.le_of_ble_eq_true rfl) (fun _ q => ?_)
  obtain rfl := q.symm
  refine R_l2i rfl ?_
  exact T_ireturn rfl rfl (am_oki rfl smP.refl)
def ulF (f : am_Gr) (h w : Nat) (P : Nat → Nat) : Nat → Nat
  | 0 => 0
  | i + 1 => if rkO f (P i) (2 ^ h - 1) (2 ^ w - 1) h w < rkO f 0 (2 ^ h - 1) (2 ^ w - 1) h w then wi (ulF f h w P i) i else ulF f h w P i
theorem ulF_lt {f : am_Gr} {h w : Nat} {P : Nat → Nat} : ∀ i, i ≤ 6 → ulF f h w P i < 64
  | 0, _ => by show (0 : Nat) < 64; decide
  | i + 1, hi => by
    have ih := @ulF_lt f h w P i (by omega)
    simp only [ulF]
    split
    · exact wi_lt ih (by omega)
    · exact ih
def nuF (f : am_Gr) (h w : Nat) : Nat → Nat → Int32
  | 0, _ => -1
  | u + 1, t => if t ∈ prL ∧ rkO f t (2 ^ h - 1) (2 ^ w - 1) h w < rkO f 0 (2 ^ h - 1) (2 ^ w - 1) h w then nI t else nuF f h w u (t + 1)
set_option maxRecDepth 100000 in
set_option maxHeartbeats 4000000 in
theorem lp_unl {σ : am_G} {h w rh pn : Nat} {f v rl : am_Gr} {I : Nat → Int32} {P : Nat → Nat} {d k0 : Nat} (hv : vS σ 26 h w f v rh rl pn I) (hP : prP pn I P) (hd : 6 ≤ d)  : ∀ (uu i : Nat) (τ : am_G), i + uu = pn → (smP (plc 17 26) σ τ) → am_R am_TX d k0 c_D_unlucky 20 [some (.ref 0), some (.int (nI (rkO f 0 (2 ^ h - 1) (2 ^ w - 1) h w))), some (.int (nI (ulF f h w P i))), some (.int (nI i))] [] (mm τ) (am_Ok (some (.int (nI (ulF f h w P pn)))) (fun σ1 => smP (plc 17 26) σ σ1)) := by
  have hh6 := hv.1.1.2
  have hw6 := hv.1.2.1.2
  have hr6 := hv.2.2.1.1.2
  have hp6 := hv.2.2.2.1.2
  intro uu
  induction uu with
  | zero =>
    intro i τ hi hI
    obtain rfl : pn = i := by omega
    skip
    refine R_iload_n rfl rfl ?_
    refine R_aload_n rfl rfl ?_
    refine R_gP (x := 26) rfl rfl fp_10_6 rfl ?_
    refine R_gIN (n := pn) rfl rfl fd_9_3 ((hI.i (by unfold plc; omega)).trans hv.2.2.2.1.1) ?_
    refine R_nicmp_ge (x := pn) (y := pn) rfl rfl (by omega) (by omega) (fun h1 => ?_) (fun z => by omega)
    refine R_iload_n rfl rfl ?_
    exact T_ireturn rfl rfl (am_oki rfl hI)
  | succ uu ih =>
    intro i τ hi hI
    have hp97 := (prL_le _ (hP i (by omega)).2).2
    have hul := @ulF_lt f h w P i (by omega)
    have hk1 : rkO f 0 (2 ^ h - 1) (2 ^ w - 1) h w ≤ 6 := rkO_6 hh6
    have hk2 : rkO f (P i) (2 ^ h - 1) (2 ^ w - 1) h w ≤ 6 := rkO_6 hh6
    refine R_iload_n rfl rfl ?_
    refine R_aload_n rfl rfl ?_
    refine R_gP (x := 26) rfl rfl fp_10_6 rfl ?_
    refine R_gIN (n := pn) rfl rfl fd_9_3 ((hI.i (by unfold plc; omega)).trans hv.2.2.2.1.1) ?_
    refine R_nicmp_ge (x := i) (y := pn) rfl rfl (by omega) (by omega) (fun z => by omega) (fun h1 => ?_)
    refine R_aload_n rfl rfl ?_
    refine R_gP (x := 16) rfl rfl fp_10_4 rfl ?_
    refine R_aload_n rfl rfl ?_
    refine R_gP (x := 26) rfl rfl fp_10_6 rfl ?_
    refine R_gP (x := 27) rfl rfl fp_9_0 rfl ?_
    refine R_aload_n rfl rfl ?_
    refine R_gP (x := 26) rfl rfl fp_10_6 rfl ?_
    refine R_iload_n rfl rfl ?_
    refine R_cV (as := [.int (nI i)]) rfl rfl iv_State_primeAt ((by have z := sp_primeAtV (p := i) (hI.vS hv (fun a b _ _ => by unfold plc; omega)) (by omega); rw [(hP i (by omega)).1] at z; exact z)) (by omega) rfl rfl rfl (by decide) rfl rfl (Nat.le_of_ble_eq_true rfl) (fun _ q => ?_)
    obtain rfl := q.symm
    refine R_cV (as := [.ref 27, .int (nI (P i))]) rfl rfl iv_Reckoner_fullRank (sp_fullRank (m := (P i)) im27 (by omega) (hI.vM hv.1 (fun b => by unfold plc; omega) (fun b => by unfold plc; omega)) (by omega)) (by omega) rfl rfl rfl (by decide) rfl rfl (Nat.le_of_ble_eq_true rfl) (fun σ2 hσ2 => ?_)
    refine R_iload_n rfl rfl ?_
    refine R_nicmp_ge (x := (rkO f (P i) (2 ^ h - 1) (2 ^ w - 1) h w)) (y := (rkO f 0 (2 ^ h - 1) (2 ^ w - 1) h w)) rfl rfl (by omega) (by omega) (fun h2 => ?_) (fun h2 => ?_)
    · refine R_iincN (x := i) (m := 1) rfl rfl rfl (by decide) ?_
      refine R_goto rfl rfl ?_
      have e := ih (i + 1) _ (by omega) ((hI.trans (hσ2.mono (q := plc 17 26) (fun a b => by unfold plc; omega))))
      rw [show ulF f h w P (i + 1) = ulF f h w P i from by simp only [ulF]; exact if_neg (by omega)] at e
      exact e.weak ⟨rfl, rfl, rfl, rfl, trivial⟩
    · refine R_iload_n rfl rfl ?_
      refine R_iconst (v := 1) rfl rfl ?_
      refine R_iload_n rfl rfl ?_
      refine R_shl1N (y := i) rfl (by omega) ?_
      refine R_iorB (s := (ulF f h w P i)) (y := i) rfl (by first | assumption | omega) (by omega) ?_
      refine R_istore_n rfl (by decide) ?_
      refine R_iincN (x := i) (m := 1) rfl rfl rfl (by decide) ?_
      refine R_goto rfl rfl ?_
      have e := ih (i + 1) _ (by omega) ((hI.trans (hσ2.mono (q := plc 17 26) (fun a b => by unfold plc; omega))))
      rw [show ulF f h w P (i + 1) = wi (ulF f h w P i) i from by simp only [ulF]; exact if_pos (by omega)] at e
      exact e.weak ⟨rfl, rfl, rfl, rfl, trivial⟩
set_option maxRecDepth 100000 in
set_option maxHeartbeats 4000000 in
theorem sp_D_unlucky {σ : am_G} {h w rh pn : Nat} {f v rl : am_Gr} {I : Nat → Int32} {P : Nat → Nat} (hv : vS σ 26 h w f v rh rl pn I) (hP : prP pn I P) : am_Call am_TX 8 0 c_D_unlucky [.ref 0] (mm σ) (am_Ok (some (.int (nI (ulF f h w P pn)))) (fun σ1 => smP (plc 17 26) σ σ1)) := by
  have hh6 := hv.1.1.2
  have hw6 := hv.1.2.1.2
  have hr6 := hv.2.2.1.1.2
  have hp6 := hv.2.2.2.1.2
  refine ⟨mf_D_unlucky, Nat.le_of_ble_eq_true rfl, ?_⟩
  refine R_aload_n rfl rfl ?_
  refine R_gP (x := 16) rfl rfl fp_10_4 rfl ?_
  refine R_aload_n rfl rfl ?_
  refine R_gP (x := 26) rfl rfl fp_10_6 rfl ?_
  refine R_gP (x := 27) rfl rfl fp_9_0 rfl ?_
  refine R_iconst (v := 0) rfl rfl ?_
  refine R_cV (as := [.ref 27, .int 0]) rfl rfl iv_Reckoner_fullRank (sp_fullRank (m := 0) im27 (by omega) hv.1 (by omega)) (by decide) rfl rfl rfl (by decide) rfl rfl (Nat.le_of_ble_eq_true rfl) (fun σ1 hσ1 => ?_)
  refine R_istore_n rfl (by decide) ?_
  refine R_iconst (v := 0) rfl rfl ?_
  refine R_istore_n rfl (by decide) ?_
  refine R_iconst (v := 0) rfl rfl ?_
  refine R_istore_n rfl (by decide) ?_
  exact (lp_unl hv hP (by omega) pn 0 _ (by omega) ((hσ1.mono (q := plc 17 26) (fun a b => by unfold plc; omega)))).weak ⟨rfl, rfl, rfl, rfl, trivial⟩
set_option maxRecDepth 100000 in
set_option maxHeartbeats 4000000 in
theorem lp_nun {σ : am_G} {h w rh pn : Nat} {f v rl : am_Gr} {I : Nat → Int32} {d k0 : Nat} (hv : vS σ 26 h w f v rh rl pn I) (hd : 6 ≤ d)  : ∀ (uu i : Nat) (τ : am_G), i + uu = 98 → (smP (plc 17 26) σ τ ∧ 2 ≤ i) → am_R am_TX d k0 c_D_nextUnlucky 26 [some (.ref 0), none, some (.int (nI (rkO f 0 (2 ^ h - 1) (2 ^ w - 1) h w))), some (.int (nI i))] [] (mm τ) (am_Ok (some (.int (nuF f h w uu i))) (fun σ1 => smP (plc 17 26) σ σ1)) := by
  have hh6 := hv.1.1.2
  have hw6 := hv.1.2.1.2
  have hr6 := hv.2.2.1.1.2
  have hp6 := hv.2.2.2.1.2
  intro uu
  induction uu with
  | zero =>
    intro i τ hi hI
    obtain rfl : 98 = i := by omega
    skip
    refine R_iload_n rfl rfl ?_
    refine R_bipush (v := 97) rfl (by decide) ?_
    refine R_nicmp_gt (x := 98) (y := 97) rfl rfl (by omega) (by omega) (fun h1 => ?_) (fun z => by omega)
    refine R_iconst (v := -1) rfl rfl ?_
    exact T_ireturn rfl rfl (am_oki (by first | rfl | (simp only [nuF]; rfl)) hI.1)
  | succ uu ih =>
    intro i τ hi hI
    have hk1 : rkO f 0 (2 ^ h - 1) (2 ^ w - 1) h w ≤ 6 := rkO_6 hh6
    have hk2 : rkO f i (2 ^ h - 1) (2 ^ w - 1) h w ≤ 6 := rkO_6 hh6
    have hi2 : 2 ≤ i := hI.2
    refine R_iload_n rfl rfl ?_
    refine R_bipush (v := 97) rfl (by decide) ?_
    refine R_nicmp_gt (x := i) (y := 97) rfl rfl (by omega) (by omega) (fun z => by omega) (fun h1 => ?_)
    refine R_iload_n rfl rfl ?_
    refine R_cS (as := [.int (nI i)]) rfl rfl iv_D_isPrime (sp_prime (n := i) (by omega) (by omega)) (by omega) rfl rfl rfl rfl (Nat.le_of_ble_eq_true rfl) (fun _ q => ?_)
    obtain rfl := q.symm
    refine R_zif_eq rfl rfl (fun h2 => ?_) (fun h2 => ?_)
    · refine R_iincN (x := i) (m := 1) rfl rfl rfl (by decide) ?_
      refine R_goto rfl rfl ?_
      have e := ih (i + 1) _ (by omega) ⟨hI.1, by omega⟩
      rw [show nuF f h w (uu + 1) i = nuF f h w uu (i + 1) from by simp only [nuF]; exact if_neg (fun z => h2 z.1)]
      exact e.weak ⟨rfl, rfl, rfl, trivial⟩
    · refine R_aload_n rfl rfl ?_
      refine R_gP (x := 16) rfl rfl fp_10_4 rfl ?_
      refine R_aload_n rfl rfl ?_
      refine R_gP (x := 26) rfl rfl fp_10_6 rfl ?_
      refine R_gP (x := 27) rfl rfl fp_9_0 rfl ?_
      refine R_iload_n rfl rfl ?_
      refine R_cV (as := [.ref 27, .int (nI i)]) rfl rfl iv_Reckoner_fullRank (sp_fullRank (m := i) im27 (by omega) (hI.1.vM hv.1 (fun b => by unfold plc; omega) (fun b => by unfold plc; omega)) (by omega)) (by omega) rfl rfl rfl (by decide) rfl rfl (Nat.le_of_ble_eq_true rfl) (fun σ2 hσ2 => ?_)
      refine R_iload_n rfl rfl ?_
      refine R_nicmp_ge (x := (rkO f i (2 ^ h - 1) (2 ^ w - 1) h w)) (y := (rkO f 0 (2 ^ h - 1) (2 ^ w - 1) h w)) rfl rfl (by omega) (by omega) (fun h3 => ?_) (fun h3 => ?_)
      · refine R_iincN (x := i) (m := 1) rfl rfl rfl (by decide) ?_
        refine R_goto rfl rfl ?_
        have e := ih (i + 1) _ (by omega) ⟨(hI.1.trans (hσ2.mono (q := plc 17 26) (fun a b => by unfold plc; omega))), by omega⟩
        rw [show nuF f h w (uu + 1) i = nuF f h w uu (i + 1) from by simp only [nuF]; exact if_neg (fun z => by omega)]
        exact e.weak ⟨rfl, rfl, rfl, trivial⟩
      · refine R_iload_n rfl rfl ?_
        exact T_ireturn rfl rfl (am_oki (by simp only [nuF]; rw [if_pos ⟨h2, by omega⟩]) ((hI.1.trans (hσ2.mono (q := plc 17 26) (fun a b => by unfold plc; omega)))))
set_option maxRecDepth 100000 in
set_option maxHeartbeats 4000000 in
theorem sp_D_nextUnlucky {σ : am_G} {h w rh pn : Nat} {f v rl : am_Gr} {I : Nat → Int32} {n : Nat} (hv : vS σ 26 h w f v rh rl pn I) (n_k : 2 ≤ n ∧ n ≤ 97) : am_Call am_TX 8 0 c_D_nextUnlucky [.ref 0, .int (nI n)] (mm σ) (am_Ok (some (.int (nuF f h w (98 - n) n))) (fun σ1 => smP (plc 17 26) σ σ1)) := by
  have hh6 := hv.1.1.2
  have hw6 := hv.1.2.1.2
  have hr6 := hv.2.2.1.1.2
  have hp6 := hv.2.2.2.1.2
  have hrg : (2 : Int32) ≤ nI n ∧ nI n ≤ 97 := rg_g (lo := 2) (k := 97) (by omega) (by omega) (by omega)
  refine ⟨mf_D_nextUnlucky, Nat.le_of_ble_eq_true rfl, ?_⟩
  refine R_aload_n rfl rfl ?_
  refine R_iload_n rfl rfl ?_
  refine R_iconst (v := 2) rfl rfl ?_
  refine R_bipush (v := 97) rfl (by decide) ?_
  refine R_cV (as := [.int (nI n), .int 2, .int 97]) rfl rfl iv_D_requireRange (sp_requireRange hrg) (by decide) rfl rfl rfl (by decide) rfl rfl (Nat.le_of_ble_eq_true rfl) (fun _ q => ?_)
  obtain rfl := q.symm
  refine R_aload_n rfl rfl ?_
  refine R_gP (x := 16) rfl rfl fp_10_4 rfl ?_
  refine R_aload_n rfl rfl ?_
  refine R_gP (x := 26) rfl rfl fp_10_6 rfl ?_
  refine R_gP (x := 27) rfl rfl fp_9_0 rfl ?_
  refine R_iconst (v := 0) rfl rfl ?_
  refine R_cV (as := [.ref 27, .int 0]) rfl rfl iv_Reckoner_fullRank (sp_fullRank (m := 0) im27 (by omega) hv.1 (by omega)) (by decide) rfl rfl rfl (by decide) rfl rfl (Nat.le_of_ble_eq_true rfl) (fun σ2 hσ2 => ?_)
  refine R_istore_n rfl (by decide) ?_
  refine R_iload_n rfl rfl ?_
  refine R_istore_n rfl (by decide) ?_
  exact (lp_nun hv (by omega) (98 - n) n _ (by omega) ⟨(hσ2.mono (q := plc 17 26) (fun a b => by unfold plc; omega)), by omega⟩).weak ⟨rfl, rfl, rfl, trivial⟩
