/-! ===== the model: product, relations given, heads, flaw ===== -/
theorem mget_11 {σ : am_G} {h w rh pn : Nat} {f v rl : am_Gr} {I : Nat → Int32} (hn : nV σ h w f v rh rl pn I) (hc : ¬ I 2 = -1) : am_Call am_TX 0 0 c_M_get [.ref 120, .int 11] (mm σ) (am_Ok (some (.int (I 2))) (fun σ1 => σ1 = σ)) :=
  mget_x hn (j := 11) (by omega) (hn.1.2.2.2.2.1.elim (fun z => absurd z.1 hc) (fun z => z.2.2.1))
theorem mget_12 {σ : am_G} {h w rh pn : Nat} {f v rl : am_Gr} {I : Nat → Int32} (hn : nV σ h w f v rh rl pn I) (hc : ¬ I 2 = -1) : am_Call am_TX 0 0 c_M_get [.ref 120, .int 12] (mm σ) (am_Ok (some (.int (I 3))) (fun σ1 => σ1 = σ)) :=
  mget_x hn (j := 12) (by omega) (hn.1.2.2.2.2.1.elim (fun z => absurd z.1 hc) (fun z => z.2.2.2))
theorem mget_g {σ : am_G} {h w rh pn : Nat} {f v rl : am_Gr} {I : Nat → Int32} (hn : nV σ h w f v rh rl pn I) (hc : ¬ I 4 = -1) {j : Nat} (hj : j < 4) : am_Call am_TX 0 0 c_M_get [.ref 120, .int (nI (4 + j))] (mm σ) (am_Ok (some (.int (I (4 + j)))) (fun σ1 => σ1 = σ)) :=
  mget_x hn (j := 4 + j) (by omega) (hn.1.2.2.1.elim (fun z => absurd z.1 hc) (fun z => z.2.2 j hj))
theorem thF_pc {rl : am_Gr} {h rh : Nat} (hh : h ≤ 6) (hz : ∀ r, r < rh → ∃ j, j < h ∧ rl r j ≠ 0) : ∀ n, n ≤ rh → thF rl h n < 64 ∧ pc (thF rl h n) ≤ n ∧ (pc (thF rl h n) = n ↔ ¬ ∃ r, r < n ∧ (thF rl h r).testBit (hdN (rl r) h) = true)
  | 0, _ => ⟨by show (0 : Nat) < 64; decide, by show pc 0 ≤ 0; decide, by
      refine ⟨fun _ ⟨r, hr, _⟩ => absurd hr (Nat.not_lt_zero _), fun _ => by show pc 0 = 0; decide⟩⟩
  | n + 1, hn => by
    obtain ⟨h1, h2, h3⟩ := thF_pc hh hz n (by omega)
    have hk := (hdF_N h (hz n (by omega))).2
    simp only [thF]
    refine ⟨wi_lt h1 (by omega), ?_⟩
    by_cases hb : (thF rl h n).testBit (hdN (rl n) h) = true
    · have e : wi (thF rl h n) (hdN (rl n) h) = thF rl h n := by unfold wi; rw [if_pos hb]
      rw [e]
      exact ⟨by omega, fun z => absurd z (by omega), fun z => absurd ⟨n, by omega, hb⟩ z⟩
    · rw [pc_wi h1 (by omega) hb]
      refine ⟨by omega, fun z => ?_, fun z => ?_⟩
      · rintro ⟨r, hr, hr2⟩
        by_cases e : r = n
        · subst e; exact hb hr2
        · exact h3.mp (by omega) ⟨r, by omega, hr2⟩
      · have := h3.mpr (fun ⟨r, hr, hr2⟩ => z ⟨r, by omega, hr2⟩)
        omega
set_option maxRecDepth 100000 in
set_option maxHeartbeats 4000000 in
theorem sp_ofRel {σ : am_G} {h w rh pn : Nat} {f v rl : am_Gr} {I : Nat → Int32} {k r : Nat} (hn : nV σ h w f v rh rl pn I) (hk : k < rh) (hr : r < h) : am_Call am_TX 0 0 c_M_ofRelation [.ref 120, .int (nI k), .int (nI r)] (mm σ) (am_Ok (some (.long (rl k r))) (fun σ1 => σ1 = σ)) := by
  have hv := hn.toV
  have hs := hn.2.1.2.1
  have hh1 := hv.1.1.1
  have hh6 := hv.1.1.2
  have hw1 := hv.1.2.1
  have hw6 := hv.1.2.2
  have hp6 := hn.2.1.2.2.2.1.1
  have hr6 := hn.2.1.2.2.2.2.2.2.1
  have hs7 := lw_lt hh6
  have ws7 := lw_lt hw6
  refine ⟨mf_M_ofRelation, Nat.le_of_ble_eq_true rfl, ?_⟩
  refine R_aload_n rfl rfl ?_
  refine R_gP (x := 121) rfl rfl fp_11_1 rfl ?_
  refine R_bipush (v := 62) rfl (by decide) ?_
  refine R_bipush (v := 6) rfl (by decide) ?_
  refine R_iload_n rfl rfl ?_
  refine R_imulN (x := 6) (y := k) rfl ?_
  refine R_iaddN (x := 62) (y := (6 * k)) rfl ?_
  refine R_iload_n rfl rfl ?_
  refine R_iaddN (x := (62 + (6 * k))) (y := r) rfl ?_
  refine R_xL (j := ((62 + (6 * k)) + r)) rfl rfl rfl (by omega) (by decide) ?_
  exact T_lreturn rfl rfl (am_okl (hn.1.2.2.2.2.2.2.2 k r hk hr) rfl)
set_option maxRecDepth 100000 in
set_option maxHeartbeats 4000000 in
theorem isClaimed_0 {σ : am_G} {h w rh pn : Nat} {f v rl : am_Gr} {I : Nat → Int32} (hn : nV σ h w f v rh rl pn I) (hc : I 2 = -1) : am_Call am_TX 1 0 c_M_isClaimed [.ref 120] (mm σ) (am_Ok (some (.int 0)) (fun σ1 => σ1 = σ)) := by
  refine ⟨mf_M_isClaimed, Nat.le_of_ble_eq_true rfl, ?_⟩
  refine R_aload_n rfl rfl ?_
  refine R_bipush (v := 10) rfl (by decide) ?_
  refine R_cV (as := [.int 10]) rfl rfl iv_M_get ((by have z := mget_10 hn; rw [zP_f (fun y => y hc)] at z; exact z)) (by omega) rfl rfl rfl (by decide) rfl rfl (Nat.le_of_ble_eq_true rfl) (fun _ q => ?_)
  obtain rfl := q.symm
  refine R_iconst (v := 1) rfl rfl ?_
  refine R_icmp_ne rfl rfl (fun _ => ?_) (fun z => absurd z (by decide))
  refine R_iconst (v := 0) rfl rfl ?_
  exact T_zreturn rfl rfl rfl (am_oki rfl rfl)
set_option maxRecDepth 100000 in
set_option maxHeartbeats 4000000 in
theorem isClaimed_1 {σ : am_G} {h w rh pn : Nat} {f v rl : am_Gr} {I : Nat → Int32} (hn : nV σ h w f v rh rl pn I) (hc : ¬ I 2 = -1) : am_Call am_TX 1 0 c_M_isClaimed [.ref 120] (mm σ) (am_Ok (some (.int 1)) (fun σ1 => σ1 = σ)) := by
  refine ⟨mf_M_isClaimed, Nat.le_of_ble_eq_true rfl, ?_⟩
  refine R_aload_n rfl rfl ?_
  refine R_bipush (v := 10) rfl (by decide) ?_
  refine R_cV (as := [.int 10]) rfl rfl iv_M_get ((by have z := mget_10 hn; rw [zP_t hc] at z; exact z)) (by omega) rfl rfl rfl (by decide) rfl rfl (Nat.le_of_ble_eq_true rfl) (fun _ q => ?_)
  obtain rfl := q.symm
  refine R_iconst (v := 1) rfl rfl ?_
  refine R_icmp_ne rfl rfl (fun z => absurd z (by decide)) (fun _ => ?_)
  refine R_iconst (v := 1) rfl rfl ?_
  refine R_goto rfl rfl ?_
  exact T_zreturn rfl rfl rfl (am_oki rfl rfl)
set_option maxRecDepth 100000 in
set_option maxHeartbeats 4000000 in
theorem sp_M_claimed_0 {σ : am_G} {h w rh pn : Nat} {f v rl : am_Gr} {I : Nat → Int32} (hn : nV σ h w f v rh rl pn I) : am_Call am_TX 14 0 c_M_claimed [.ref 120, .int 0] (mm σ) (am_Ok (some (.int (I 2))) (fun σ1 => smP pQ σ σ1 ∧ σ1.1 120 0 = 0)) := by
  have hv := hn.toV
  have hs := hn.2.1.2.1
  have hh1 := hv.1.1.1
  have hh6 := hv.1.1.2
  have hw1 := hv.1.2.1
  have hw6 := hv.1.2.2
  have hp6 := hn.2.1.2.2.2.1.1
  have hr6 := hn.2.1.2.2.2.2.2.2.1
  have hs7 := lw_lt hh6
  have ws7 := lw_lt hw6
  have hrg : (0 : Int32) ≤ 0 ∧ (0 : Int32) ≤ 1 := by decide
  have hp2h := Nat.two_pow_pos h
  have hp2w := Nat.two_pow_pos w
  have h2h : 2 ^ h ≤ 2 ^ 6 := Nat.pow_le_pow_right (by omega) hv.1.1.2
  have h2w : 2 ^ w ≤ 2 ^ 6 := Nat.pow_le_pow_right (by omega) hv.1.2.2
  refine ⟨mf_M_claimed, Nat.le_of_ble_eq_true rfl, ?_⟩
  refine R_aload_n rfl rfl ?_
  refine R_iload_n rfl rfl ?_
  refine R_i2l rfl ?_
  refine R_lconst (v := 0) rfl rfl ?_
  refine R_lconst (v := 1) rfl rfl ?_
  refine R_cS (as := [.long ((0 : Int32).toInt64), .long 0, .long 1]) rfl rfl iv_M_in (in_1 (x := 0) (a := 0) (b := 1) hrg rfl rfl) (by omega) rfl rfl rfl rfl (Nat.le_of_ble_eq_true rfl) (fun _ q => ?_)
  obtain rfl := q.symm
  refine R_cV (as := [.int 1]) rfl rfl iv_M_passes (pass_1) (by omega) rfl rfl rfl (by decide) rfl rfl (Nat.le_of_ble_eq_true rfl) (fun _ q => ?_)
  obtain rfl := q.symm
  refine R_if_ne rfl rfl (fun _ => ?_) (fun z => absurd z (by decide))
  refine R_aload_n rfl rfl ?_
  by_cases g1 : I 2 = -1
  · refine R_cV (as := []) rfl rfl iv_M_isClaimed (isClaimed_0 (hn.fr (smP_sI (p := pQ) (k := 120) (j := 0) (x := 0) (by unfold pQ; omega)) (fun b => by unfold pQ; omega) (by unfold pQ; omega)) g1) (by omega) rfl rfl rfl (by decide) rfl rfl (Nat.le_of_ble_eq_true rfl) (fun _ q => ?_)
    obtain rfl := q.symm
    refine R_if_eq rfl rfl (fun _ => ?_) (fun z => absurd z (by decide))
    refine R_iconst (v := -1) rfl rfl ?_
    exact T_ireturn rfl rfl (am_oki (g1.symm) ⟨(smP_sI (p := pQ) (k := 120) (j := 0) (x := 0) (by unfold pQ; omega)), sI_s⟩)
  · refine R_cV (as := []) rfl rfl iv_M_isClaimed (isClaimed_1 (hn.fr (smP_sI (p := pQ) (k := 120) (j := 0) (x := 0) (by unfold pQ; omega)) (fun b => by unfold pQ; omega) (by unfold pQ; omega)) g1) (by omega) rfl rfl rfl (by decide) rfl rfl (Nat.le_of_ble_eq_true rfl) (fun _ q => ?_)
    obtain rfl := q.symm
    refine R_if_eq rfl rfl (fun z => absurd z (by decide)) (fun _ => ?_)
    refine R_aload_n rfl rfl ?_
    refine R_bipush (v := 11) rfl (by decide) ?_
    refine R_iload_n rfl rfl ?_
    refine R_iadd rfl ?_
    rw [show (11 + 0 : Int32) = 11 from rfl]
    refine R_cV (as := [.int 11]) rfl rfl iv_M_get (mget_11 (hn.fr (smP_sI (p := pQ) (k := 120) (j := 0) (x := 0) (by unfold pQ; omega)) (fun b => by unfold pQ; omega) (by unfold pQ; omega)) g1) (by omega) rfl rfl rfl (by decide) rfl rfl (Nat.le_of_ble_eq_true rfl) (fun _ q => ?_)
    obtain rfl := q.symm
    refine R_goto rfl rfl ?_
    exact T_ireturn rfl rfl (am_oki rfl ⟨(smP_sI (p := pQ) (k := 120) (j := 0) (x := 0) (by unfold pQ; omega)), sI_s⟩)
set_option maxRecDepth 100000 in
set_option maxHeartbeats 4000000 in
theorem sp_M_claimed_1 {σ : am_G} {h w rh pn : Nat} {f v rl : am_Gr} {I : Nat → Int32} (hn : nV σ h w f v rh rl pn I) : am_Call am_TX 14 0 c_M_claimed [.ref 120, .int 1] (mm σ) (am_Ok (some (.int (I 3))) (fun σ1 => smP pQ σ σ1 ∧ σ1.1 120 0 = 0)) := by
  have hv := hn.toV
  have hs := hn.2.1.2.1
  have hh1 := hv.1.1.1
  have hh6 := hv.1.1.2
  have hw1 := hv.1.2.1
  have hw6 := hv.1.2.2
  have hp6 := hn.2.1.2.2.2.1.1
  have hr6 := hn.2.1.2.2.2.2.2.2.1
  have hs7 := lw_lt hh6
  have ws7 := lw_lt hw6
  have hrg : (0 : Int32) ≤ 1 ∧ (1 : Int32) ≤ 1 := by decide
  have hp2h := Nat.two_pow_pos h
  have hp2w := Nat.two_pow_pos w
  have h2h : 2 ^ h ≤ 2 ^ 6 := Nat.pow_le_pow_right (by omega) hv.1.1.2
  have h2w : 2 ^ w ≤ 2 ^ 6 := Nat.pow_le_pow_right (by omega) hv.1.2.2
  refine ⟨mf_M_claimed, Nat.le_of_ble_eq_true rfl, ?_⟩
  refine R_aload_n rfl rfl ?_
  refine R_iload_n rfl rfl ?_
  refine R_i2l rfl ?_
  refine R_lconst (v := 0) rfl rfl ?_
  refine R_lconst (v := 1) rfl rfl ?_
  refine R_cS (as := [.long ((1 : Int32).toInt64), .long 0, .long 1]) rfl rfl iv_M_in (in_1 (x := 1) (a := 0) (b := 1) hrg rfl rfl) (by omega) rfl rfl rfl rfl (Nat.le_of_ble_eq_true rfl) (fun _ q => ?_)
  obtain rfl := q.symm
  refine R_cV (as := [.int 1]) rfl rfl iv_M_passes (pass_1) (by omega) rfl rfl rfl (by decide) rfl rfl (Nat.le_of_ble_eq_true rfl) (fun _ q => ?_)
  obtain rfl := q.symm
  refine R_if_ne rfl rfl (fun _ => ?_) (fun z => absurd z (by decide))
  refine R_aload_n rfl rfl ?_
  by_cases g1 : I 2 = -1
  · refine R_cV (as := []) rfl rfl iv_M_isClaimed (isClaimed_0 (hn.fr (smP_sI (p := pQ) (k := 120) (j := 0) (x := 0) (by unfold pQ; omega)) (fun b => by unfold pQ; omega) (by unfold pQ; omega)) g1) (by omega) rfl rfl rfl (by decide) rfl rfl (Nat.le_of_ble_eq_true rfl) (fun _ q => ?_)
    obtain rfl := q.symm
    refine R_if_eq rfl rfl (fun _ => ?_) (fun z => absurd z (by decide))
    refine R_iconst (v := -1) rfl rfl ?_
    exact T_ireturn rfl rfl (am_oki (g1.symm.trans ((hn.2.1.2.2.2.2.2.1.elim (fun z => z.1.trans z.2.symm) (fun ⟨S, T, a, _, b, _⟩ => absurd (g1.symm.trans a).symm (nI_m1 (by omega)))))) ⟨(smP_sI (p := pQ) (k := 120) (j := 0) (x := 0) (by unfold pQ; omega)), sI_s⟩)
  · refine R_cV (as := []) rfl rfl iv_M_isClaimed (isClaimed_1 (hn.fr (smP_sI (p := pQ) (k := 120) (j := 0) (x := 0) (by unfold pQ; omega)) (fun b => by unfold pQ; omega) (by unfold pQ; omega)) g1) (by omega) rfl rfl rfl (by decide) rfl rfl (Nat.le_of_ble_eq_true rfl) (fun _ q => ?_)
    obtain rfl := q.symm
    refine R_if_eq rfl rfl (fun z => absurd z (by decide)) (fun _ => ?_)
    refine R_aload_n rfl rfl ?_
    refine R_bipush (v := 11) rfl (by decide) ?_
    refine R_iload_n rfl rfl ?_
    refine R_iadd rfl ?_
    rw [show (11 + 1 : Int32) = 12 from rfl]
    refine R_cV (as := [.int 12]) rfl rfl iv_M_get (mget_12 (hn.fr (smP_sI (p := pQ) (k := 120) (j := 0) (x := 0) (by unfold pQ; omega)) (fun b => by unfold pQ; omega) (by unfold pQ; omega)) g1) (by omega) rfl rfl rfl (by decide) rfl rfl (Nat.le_of_ble_eq_true rfl) (fun _ q => ?_)
    obtain rfl := q.symm
    refine R_goto rfl rfl ?_
    exact T_ireturn rfl rfl (am_oki rfl ⟨(smP_sI (p := pQ) (k := 120) (j := 0) (x := 0) (by unfold pQ; omega)), sI_s⟩)
set_option maxRecDepth 100000 in
set_option maxHeartbeats 4000000 in
theorem sp_M_claimed_x0 {σ : am_G} {h w rh pn : Nat} {f v rl : am_Gr} {I : Nat → Int32} {x : Int32} (hn : nV σ h w f v rh rl pn I) (hb : ¬ (0 ≤ x ∧ x ≤ 1)) : am_Call am_TX 14 0 c_M_claimed [.ref 120, .int x] (mm σ) (am_Ok (some (.int 0)) (fun σ1 => smP pQ σ σ1 ∧ σ1.1 120 0 = 1)) := by
  have hv := hn.toV
  have hs := hn.2.1.2.1
  have hh1 := hv.1.1.1
  have hh6 := hv.1.1.2
  have hw1 := hv.1.2.1
  have hw6 := hv.1.2.2
  have hp6 := hn.2.1.2.2.2.1.1
  have hr6 := hn.2.1.2.2.2.2.2.2.1
  have hs7 := lw_lt hh6
  have ws7 := lw_lt hw6
  refine ⟨mf_M_claimed, Nat.le_of_ble_eq_true rfl, ?_⟩
  refine R_aload_n rfl rfl ?_
  refine R_iload_n rfl rfl ?_
  refine R_i2l rfl ?_
  refine R_lconst (v := 0) rfl rfl ?_
  refine R_lconst (v := 1) rfl rfl ?_
  refine R_cS (as := [.long x.toInt64, .long 0, .long 1]) rfl rfl iv_M_in (in_0 (x := x) (a := 0) (b := 1) hb rfl rfl) (by omega) rfl rfl rfl rfl (Nat.le_of_ble_eq_true rfl) (fun _ q => ?_)
  obtain rfl := q.symm
  refine R_cV (as := [.int 0]) rfl rfl iv_M_passes (pass_0) (by omega) rfl rfl rfl (by decide) rfl rfl (Nat.le_of_ble_eq_true rfl) (fun _ q => ?_)
  obtain rfl := q.symm
  refine R_if_ne rfl rfl (fun z => absurd z (by decide)) (fun _ => ?_)
  refine R_iconst (v := 0) rfl rfl ?_
  exact T_ireturn rfl rfl (am_oki rfl ⟨(smP_sI (p := pQ) (k := 120) (j := 0) (x := 1) (by unfold pQ; omega)), sI_s⟩)
set_option maxRecDepth 100000 in
set_option maxHeartbeats 4000000 in
theorem sp_M_relationOf {σ : am_G} {h w rh pn : Nat} {f v rl : am_Gr} {I : Nat → Int32} {k : Nat} {r : Nat} (hn : nV σ h w f v rh rl pn I) (k_r : k < rh) (r_h : r < h) : am_Call am_TX 14 0 c_M_relationOf [.ref 120, .int (nI k), .int (nI r)] (mm σ) (am_Ok (some (.long (rl k r))) (fun σ1 => smP pQ σ σ1 ∧ σ1.1 120 0 = 0)) := by
  have hv := hn.toV
  have hs := hn.2.1.2.1
  have hh1 := hv.1.1.1
  have hh6 := hv.1.1.2
  have hw1 := hv.1.2.1
  have hw6 := hv.1.2.2
  have hp6 := hn.2.1.2.2.2.1.1
  have hr6 := hn.2.1.2.2.2.2.2.2.1
  have hs7 := lw_lt hh6
  have ws7 := lw_lt hw6
  refine ⟨mf_M_relationOf, Nat.le_of_ble_eq_true rfl, ?_⟩
  refine R_aload_n rfl rfl ?_
  refine R_aload_n rfl rfl ?_
  refine R_iload_n rfl rfl ?_
  refine R_cV (as := [.int (nI k)]) rfl rfl iv_M_isRelation (isRel_1 hn (k := k) (by omega)) (by omega) rfl rfl rfl (by decide) rfl rfl (Nat.le_of_ble_eq_true rfl) (fun _ q => ?_)
  obtain rfl := q.symm
  refine R_if_eq rfl rfl (fun z => absurd z (by decide)) (fun _ => ?_)
  refine R_aload_n rfl rfl ?_
  refine R_iload_n rfl rfl ?_
  refine R_cV (as := [.int (nI r)]) rfl rfl iv_M_isRow (isRow_1 (n := r) hv (by omega)) (by omega) rfl rfl rfl (by decide) rfl rfl (Nat.le_of_ble_eq_true rfl) (fun _ q => ?_)
  obtain rfl := q.symm
  refine R_if_eq rfl rfl (fun z => absurd z (by decide)) (fun _ => ?_)
  refine R_iconst (v := 1) rfl rfl ?_
  refine R_goto rfl rfl ?_
  refine R_cV (as := [.int 1]) rfl rfl iv_M_passes (pass_1) (by omega) rfl rfl rfl (by decide) rfl rfl (Nat.le_of_ble_eq_true rfl) (fun _ q => ?_)
  obtain rfl := q.symm
  refine R_if_eq rfl rfl (fun z => absurd z (by decide)) (fun _ => ?_)
  refine R_aload_n rfl rfl ?_
  refine R_iload_n rfl rfl ?_
  refine R_iload_n rfl rfl ?_
  refine R_cV (as := [.int (nI k), .int (nI r)]) rfl rfl iv_M_ofRelation (sp_ofRel (k := k) (r := r) (hn.fr (smP_sI (p := pQ) (k := 120) (j := 0) (x := 0) (by unfold pQ; omega)) (fun b => by unfold pQ; omega) (by unfold pQ; omega)) (by omega) (by omega)) (by omega) rfl rfl rfl (by decide) rfl rfl (Nat.le_of_ble_eq_true rfl) (fun _ q => ?_)
  obtain rfl := q.symm
  refine R_goto rfl rfl ?_
  exact T_lreturn rfl rfl (am_okl rfl ⟨(smP_sI (p := pQ) (k := 120) (j := 0) (x := 0) (by unfold pQ; omega)), sI_s⟩)
set_option maxRecDepth 100000 in
set_option maxHeartbeats 4000000 in
theorem sp_M_relationOf_x0 {σ : am_G} {h w rh pn : Nat} {f v rl : am_Gr} {I : Nat → Int32} {r_ : Int32} {x : Int32} (hn : nV σ h w f v rh rl pn I) (hb : ¬ (0 ≤ x ∧ x < nI rh)) : am_Call am_TX 14 0 c_M_relationOf [.ref 120, .int x, .int r_] (mm σ) (am_Ok (some (.long 0)) (fun σ1 => smP pQ σ σ1 ∧ σ1.1 120 0 = 1)) := by
  have hv := hn.toV
  have hs := hn.2.1.2.1
  have hh1 := hv.1.1.1
  have hh6 := hv.1.1.2
  have hw1 := hv.1.2.1
  have hw6 := hv.1.2.2
  have hp6 := hn.2.1.2.2.2.1.1
  have hr6 := hn.2.1.2.2.2.2.2.2.1
  have hs7 := lw_lt hh6
  have ws7 := lw_lt hw6
  refine ⟨mf_M_relationOf, Nat.le_of_ble_eq_true rfl, ?_⟩
  refine R_aload_n rfl rfl ?_
  refine R_aload_n rfl rfl ?_
  refine R_iload_n rfl rfl ?_
  refine R_cV (as := [.int x]) rfl rfl iv_M_isRelation (isRel_0 hn hb) (by omega) rfl rfl rfl (by decide) rfl rfl (Nat.le_of_ble_eq_true rfl) (fun _ q => ?_)
  obtain rfl := q.symm
  refine R_if_eq rfl rfl (fun _ => ?_) (fun z => absurd z (by decide))
  refine R_iconst (v := 0) rfl rfl ?_
  refine R_cV (as := [.int 0]) rfl rfl iv_M_passes (pass_0) (by omega) rfl rfl rfl (by decide) rfl rfl (Nat.le_of_ble_eq_true rfl) (fun _ q => ?_)
  obtain rfl := q.symm
  refine R_if_eq rfl rfl (fun _ => ?_) (fun z => absurd z (by decide))
  refine R_lconst (v := 0) rfl rfl ?_
  exact T_lreturn rfl rfl (am_okl rfl ⟨(smP_sI (p := pQ) (k := 120) (j := 0) (x := 1) (by unfold pQ; omega)), sI_s⟩)
set_option maxRecDepth 100000 in
set_option maxHeartbeats 4000000 in
theorem sp_M_relationOf_x1 {σ : am_G} {h w rh pn : Nat} {f v rl : am_Gr} {I : Nat → Int32} {k : Nat} {x : Int32} (hn : nV σ h w f v rh rl pn I) (k_r : k < rh) (hb : ¬ (0 ≤ x ∧ x < nI h)) : am_Call am_TX 14 0 c_M_relationOf [.ref 120, .int (nI k), .int x] (mm σ) (am_Ok (some (.long 0)) (fun σ1 => smP pQ σ σ1 ∧ σ1.1 120 0 = 1)) := by
  have hv := hn.toV
  have hs := hn.2.1.2.1
  have hh1 := hv.1.1.1
  have hh6 := hv.1.1.2
  have hw1 := hv.1.2.1
  have hw6 := hv.1.2.2
  have hp6 := hn.2.1.2.2.2.1.1
  have hr6 := hn.2.1.2.2.2.2.2.2.1
  have hs7 := lw_lt hh6
  have ws7 := lw_lt hw6
  refine ⟨mf_M_relationOf, Nat.le_of_ble_eq_true rfl, ?_⟩
  refine R_aload_n rfl rfl ?_
  refine R_aload_n rfl rfl ?_
  refine R_iload_n rfl rfl ?_
  refine R_cV (as := [.int (nI k)]) rfl rfl iv_M_isRelation (isRel_1 hn (k := k) (by omega)) (by omega) rfl rfl rfl (by decide) rfl rfl (Nat.le_of_ble_eq_true rfl) (fun _ q => ?_)
  obtain rfl := q.symm
  refine R_if_eq rfl rfl (fun z => absurd z (by decide)) (fun _ => ?_)
  refine R_aload_n rfl rfl ?_
  refine R_iload_n rfl rfl ?_
  refine R_cV (as := [.int x]) rfl rfl iv_M_isRow (isRow_0 hv hb) (by omega) rfl rfl rfl (by decide) rfl rfl (Nat.le_of_ble_eq_true rfl) (fun _ q => ?_)
  obtain rfl := q.symm
  refine R_if_eq rfl rfl (fun _ => ?_) (fun z => absurd z (by decide))
  refine R_iconst (v := 0) rfl rfl ?_
  refine R_cV (as := [.int 0]) rfl rfl iv_M_passes (pass_0) (by omega) rfl rfl rfl (by decide) rfl rfl (Nat.le_of_ble_eq_true rfl) (fun _ q => ?_)
  obtain rfl := q.symm
  refine R_if_eq rfl rfl (fun _ => ?_) (fun z => absurd z (by decide))
  refine R_lconst (v := 0) rfl rfl ?_
  exact T_lreturn rfl rfl (am_okl rfl ⟨(smP_sI (p := pQ) (k := 120) (j := 0) (x := 1) (by unfold pQ; omega)), sI_s⟩)
set_option maxRecDepth 100000 in
set_option maxHeartbeats 4000000 in
theorem lp_mpro {σ : am_G} {h w rh pn : Nat} {f v rl : am_Gr} {I : Nat → Int32} {c : Nat} {d k0 : Nat} (hn : nV σ h w f v rh rl pn I) (c_w : c < w) (hd : 4 ≤ d)  : ∀ (uu i : Nat) (τ : am_G), i + uu = h → (smP pQ σ τ ∧ τ.1 120 0 = 0) → am_R am_TX d k0 c_M_product 18 [some (.ref 120), some (.int (nI c)), some (.int ((smL (fun a => v 0 a * f a c) i).toInt32)), some (.int (nI i))] [] (mm τ) (am_Ok (some (.int (smL (fun a => v 0 a * f a c) h).toInt32)) (fun σ1 => smP pQ σ σ1 ∧ σ1.1 120 0 = 0)) := by
  have hv := hn.toV
  have hs := hn.2.1.2.1
  have hh1 := hv.1.1.1
  have hh6 := hv.1.1.2
  have hw1 := hv.1.2.1
  have hw6 := hv.1.2.2
  have hp6 := hn.2.1.2.2.2.1.1
  have hr6 := hn.2.1.2.2.2.2.2.2.1
  have hs7 := lw_lt hh6
  have ws7 := lw_lt hw6
  intro uu
  induction uu with
  | zero =>
    intro i τ hi hI
    obtain rfl : h = i := by omega
    refine R_iload_n rfl rfl ?_
    refine R_aload_n rfl rfl ?_
    refine R_cV (as := []) rfl rfl iv_M_rows (sp_rows (hI.1.mV hv (fun b => by unfold pQ; omega) (fun b => by unfold pQ; omega) (by unfold pQ; omega))) (by omega) rfl rfl rfl (by decide) rfl rfl (Nat.le_of_ble_eq_true rfl) (fun _ q => ?_)
    obtain rfl := q.symm
    refine R_nicmp_ge (x := h) (y := h) rfl rfl (by omega) (by omega) (fun g1 => ?_) (fun z => by omega)
    refine R_iload_n rfl rfl ?_
    exact T_ireturn rfl rfl (am_oki rfl hI)
  | succ uu ih =>
    intro i τ hi hI
    refine R_iload_n rfl rfl ?_
    refine R_aload_n rfl rfl ?_
    refine R_cV (as := []) rfl rfl iv_M_rows (sp_rows (hI.1.mV hv (fun b => by unfold pQ; omega) (fun b => by unfold pQ; omega) (by unfold pQ; omega))) (by omega) rfl rfl rfl (by decide) rfl rfl (Nat.le_of_ble_eq_true rfl) (fun _ q => ?_)
    obtain rfl := q.symm
    refine R_nicmp_ge (x := i) (y := h) rfl rfl (by omega) (by omega) (fun z => by omega) (fun g1 => ?_)
    refine R_iload_n rfl rfl ?_
    refine R_aload_n rfl rfl ?_
    refine R_bipush (v := 56) rfl (by decide) ?_
    refine R_iload_n rfl rfl ?_
    refine R_iaddN (x := 56) (y := i) rfl ?_
    refine R_cV (as := [.int (nI (56 + i))]) rfl rfl iv_M_get (mget_n (hn.fr hI.1 (fun b => by unfold pQ; omega) (by unfold pQ; omega)) (j := (56 + i)) (by omega) ((hn.fr hI.1 (fun b => by unfold pQ; omega) (by unfold pQ; omega)).1.2.2.2.2.2.2.1 _ (by omega))) (by omega) rfl rfl rfl (by decide) rfl rfl (Nat.le_of_ble_eq_true rfl) (fun _ q => ?_)
    obtain rfl := q.symm
    refine R_aload_n rfl rfl ?_
    refine R_iload_n rfl rfl ?_
    refine R_iload_n rfl rfl ?_
    refine R_cV (as := [.int (nI i), .int (nI c)]) rfl rfl iv_M_at (sp_at (i := i) (j := c) (hI.1.mV hv (fun b => by unfold pQ; omega) (fun b => by unfold pQ; omega) (by unfold pQ; omega)) (by omega) (by omega)) (by omega) rfl rfl rfl (by decide) rfl rfl (Nat.le_of_ble_eq_true rfl) (fun _ q => ?_)
    obtain rfl := q.symm
    refine R_imul rfl ?_
    refine R_iadd rfl ?_
    refine R_istore_n rfl (by decide) ?_
    refine R_iincN (x := i) (m := 1) rfl rfl rfl (by decide) ?_
    refine R_goto rfl rfl ?_
    have e := ih (i + 1) _ (by omega) ⟨hI.1, hI.2⟩
    rw [show (smL (fun a => v 0 a * f a c) (i + 1)).toInt32 = (smL (fun a => v 0 a * f a c) i).toInt32 + (v 0 i).toInt32 * (f i c).toInt32 from by rw [← Int64.toInt32_mul, ← Int64.toInt32_add]; rfl] at e
    exact e.weak ⟨rfl, rfl, rfl, rfl, trivial⟩
set_option maxRecDepth 100000 in
set_option maxHeartbeats 4000000 in
theorem sp_M_product {σ : am_G} {h w rh pn : Nat} {f v rl : am_Gr} {I : Nat → Int32} {c : Nat} (hn : nV σ h w f v rh rl pn I) (c_w : c < w) : am_Call am_TX 14 0 c_M_product [.ref 120, .int (nI c)] (mm σ) (am_Ok (some (.int (smL (fun a => v 0 a * f a c) h).toInt32)) (fun σ1 => smP pQ σ σ1 ∧ σ1.1 120 0 = 0)) := by
  have hv := hn.toV
  have hs := hn.2.1.2.1
  have hh1 := hv.1.1.1
  have hh6 := hv.1.1.2
  have hw1 := hv.1.2.1
  have hw6 := hv.1.2.2
  have hp6 := hn.2.1.2.2.2.1.1
  have hr6 := hn.2.1.2.2.2.2.2.2.1
  have hs7 := lw_lt hh6
  have ws7 := lw_lt hw6
  refine ⟨mf_M_product, Nat.le_of_ble_eq_true rfl, ?_⟩
  refine R_aload_n rfl rfl ?_
  refine R_aload_n rfl rfl ?_
  refine R_iload_n rfl rfl ?_
  refine R_cV (as := [.int (nI c)]) rfl rfl iv_M_isColumn (isColumn_1 (n := c) hv (by omega)) (by omega) rfl rfl rfl (by decide) rfl rfl (Nat.le_of_ble_eq_true rfl) (fun _ q => ?_)
  obtain rfl := q.symm
  refine R_cV (as := [.int 1]) rfl rfl iv_M_passes (pass_1) (by omega) rfl rfl rfl (by decide) rfl rfl (Nat.le_of_ble_eq_true rfl) (fun _ q => ?_)
  obtain rfl := q.symm
  refine R_if_ne rfl rfl (fun _ => ?_) (fun z => absurd z (by decide))
  refine R_iconst (v := 0) rfl rfl ?_
  refine R_istore_n rfl (by decide) ?_
  refine R_iconst (v := 0) rfl rfl ?_
  refine R_istore_n rfl (by decide) ?_
  exact (lp_mpro hn c_w (by omega) h 0 _ (by omega) ⟨(smP_sI (p := pQ) (k := 120) (j := 0) (x := 0) (by unfold pQ; omega)), sI_s⟩).weak ⟨rfl, rfl, rfl, rfl, trivial⟩
set_option maxRecDepth 100000 in
set_option maxHeartbeats 4000000 in
theorem sp_M_product_x0 {σ : am_G} {h w rh pn : Nat} {f v rl : am_Gr} {I : Nat → Int32} {x : Int32} (hn : nV σ h w f v rh rl pn I) (hb : ¬ (0 ≤ x ∧ x < nI w)) : am_Call am_TX 14 0 c_M_product [.ref 120, .int x] (mm σ) (am_Ok (some (.int 0)) (fun σ1 => smP pQ σ σ1 ∧ σ1.1 120 0 = 1)) := by
  have hv := hn.toV
  have hs := hn.2.1.2.1
  have hh1 := hv.1.1.1
  have hh6 := hv.1.1.2
  have hw1 := hv.1.2.1
  have hw6 := hv.1.2.2
  have hp6 := hn.2.1.2.2.2.1.1
  have hr6 := hn.2.1.2.2.2.2.2.2.1
  have hs7 := lw_lt hh6
  have ws7 := lw_lt hw6
  refine ⟨mf_M_product, Nat.le_of_ble_eq_true rfl, ?_⟩
  refine R_aload_n rfl rfl ?_
  refine R_aload_n rfl rfl ?_
  refine R_iload_n rfl rfl ?_
  refine R_cV (as := [.int x]) rfl rfl iv_M_isColumn (isColumn_0 hv hb) (by omega) rfl rfl rfl (by decide) rfl rfl (Nat.le_of_ble_eq_true rfl) (fun _ q => ?_)
  obtain rfl := q.symm
  refine R_cV (as := [.int 0]) rfl rfl iv_M_passes (pass_0) (by omega) rfl rfl rfl (by decide) rfl rfl (Nat.le_of_ble_eq_true rfl) (fun _ q => ?_)
  obtain rfl := q.symm
  refine R_if_ne rfl rfl (fun z => absurd z (by decide)) (fun _ => ?_)
  refine R_iconst (v := 0) rfl rfl ?_
  exact T_ireturn rfl rfl (am_oki rfl ⟨(smP_sI (p := pQ) (k := 120) (j := 0) (x := 1) (by unfold pQ; omega)), sI_s⟩)
set_option maxRecDepth 100000 in
set_option maxHeartbeats 4000000 in
theorem lp_mhd {σ : am_G} {h w rh pn : Nat} {f v rl : am_Gr} {I : Nat → Int32} {k : Nat} {d k0 : Nat} (hn : nV σ h w f v rh rl pn I) (hk : k < rh) (hd : 2 ≤ d) : ∀ j, j ≤ h → (∃ i, i < j ∧ rl k i ≠ 0) → am_R am_TX d k0 c_M_headOf 7 [some (.ref 120), some (.int (nI k)), some (.int (nI (j - 1)))] [] (mm σ) (am_Ok (some (.int (nI (hdN (rl k) j)))) (fun σ1 => σ1 = σ)) := by
  have hv := hn.toV
  have hs := hn.2.1.2.1
  have hh1 := hv.1.1.1
  have hh6 := hv.1.1.2
  have hw1 := hv.1.2.1
  have hw6 := hv.1.2.2
  have hp6 := hn.2.1.2.2.2.1.1
  have hr6 := hn.2.1.2.2.2.2.2.2.1
  have hs7 := lw_lt hh6
  have ws7 := lw_lt hw6
  intro j
  induction j with
  | zero => intro _ hex; obtain ⟨i, hi, -⟩ := hex; exact absurd hi (Nat.not_lt_zero _)
  | succ j ih =>
    intro hj hex
    show am_R am_TX d k0 c_M_headOf 7 [some (.ref 120), some (.int (nI k)), some (.int (nI j))] [] (mm σ) _
    refine R_aload_n rfl rfl ?_
    refine R_iload_n rfl rfl ?_
    refine R_iload_n rfl rfl ?_
    refine R_cV (as := [.int (nI k), .int (nI j)]) rfl rfl iv_M_ofRelation (sp_ofRel (k := k) (r := j) hn (by omega) (by omega)) (by omega) rfl rfl rfl (by decide) rfl rfl (Nat.le_of_ble_eq_true rfl) (fun _ q => ?_)
    obtain rfl := q.symm
    refine R_lconst (v := 0) rfl rfl ?_
    refine R_l_ne rfl rfl rfl (fun g1 => ?_) (fun g1 => ?_)
    · refine R_iload_n rfl rfl ?_
      exact T_ireturn rfl rfl (am_oki (by simp only [hdN]; rw [if_neg g1]) rfl)
    · have e2 : ∃ i, i < j ∧ rl k i ≠ 0 := by
        obtain ⟨i, hi, hz⟩ := hex
        refine ⟨i, ?_, hz⟩
        rcases Nat.lt_or_eq_of_le (Nat.le_of_lt_succ hi) with a | a
        · exact a
        · subst a; exact absurd g1 hz
      have hj1 : 1 ≤ j := by obtain ⟨i, hi, -⟩ := e2; omega
      refine R_idecN (x := j) rfl rfl rfl (by omega) (by decide) ?_
      refine R_goto rfl rfl ?_
      have z := ih (by omega) e2
      simp only [hdN]
      rw [if_pos g1]
      exact z.weak ⟨rfl, rfl, rfl, trivial⟩
set_option maxRecDepth 100000 in
set_option maxHeartbeats 4000000 in
theorem sp_mheadOf {σ : am_G} {h w rh pn : Nat} {f v rl : am_Gr} {I : Nat → Int32} {k : Nat} (hn : nV σ h w f v rh rl pn I) (hk : k < rh) : am_Call am_TX 2 0 c_M_headOf [.ref 120, .int (nI k)] (mm σ) (am_Ok (some (.int (nI (hdN (rl k) h)))) (fun σ1 => σ1 = σ)) := by
  have hv := hn.toV
  have hs := hn.2.1.2.1
  have hh1 := hv.1.1.1
  have hh6 := hv.1.1.2
  have hw1 := hv.1.2.1
  have hw6 := hv.1.2.2
  have hp6 := hn.2.1.2.2.2.1.1
  have hr6 := hn.2.1.2.2.2.2.2.2.1
  have hs7 := lw_lt hh6
  have ws7 := lw_lt hw6
  refine ⟨mf_M_headOf, Nat.le_of_ble_eq_true rfl, ?_⟩
  refine R_aload_n rfl rfl ?_
  refine R_cV (as := []) rfl rfl iv_M_rows (sp_rows hv) (by omega) rfl rfl rfl (by decide) rfl rfl (Nat.le_of_ble_eq_true rfl) (fun _ q => ?_)
  obtain rfl := q.symm
  refine R_iconst (v := 1) rfl rfl ?_
  refine R_isubN (x := h) (y := 1) rfl (by omega) ?_
  refine R_istore_n rfl (by decide) ?_
  exact (lp_mhd hn hk (by omega) h (Nat.le_refl h) (hn.2.1.2.2.2.2.2.2.2.2 k hk)).weak ⟨rfl, rfl, rfl, trivial⟩
set_option maxRecDepth 100000 in
set_option maxHeartbeats 4000000 in
theorem sp_M_head {σ : am_G} {h w rh pn : Nat} {f v rl : am_Gr} {I : Nat → Int32} {k : Nat} (hn : nV σ h w f v rh rl pn I) (k_r : k < rh) : am_Call am_TX 14 0 c_M_head [.ref 120, .int (nI k)] (mm σ) (am_Ok (some (.int (hdF (rl k) h))) (fun σ1 => smP pQ σ σ1 ∧ σ1.1 120 0 = 0)) := by
  have hv := hn.toV
  have hs := hn.2.1.2.1
  have hh1 := hv.1.1.1
  have hh6 := hv.1.1.2
  have hw1 := hv.1.2.1
  have hw6 := hv.1.2.2
  have hp6 := hn.2.1.2.2.2.1.1
  have hr6 := hn.2.1.2.2.2.2.2.2.1
  have hs7 := lw_lt hh6
  have ws7 := lw_lt hw6
  refine ⟨mf_M_head, Nat.le_of_ble_eq_true rfl, ?_⟩
  refine R_aload_n rfl rfl ?_
  refine R_aload_n rfl rfl ?_
  refine R_iload_n rfl rfl ?_
  refine R_cV (as := [.int (nI k)]) rfl rfl iv_M_isRelation (isRel_1 hn (k := k) (by omega)) (by omega) rfl rfl rfl (by decide) rfl rfl (Nat.le_of_ble_eq_true rfl) (fun _ q => ?_)
  obtain rfl := q.symm
  refine R_cV (as := [.int 1]) rfl rfl iv_M_passes (pass_1) (by omega) rfl rfl rfl (by decide) rfl rfl (Nat.le_of_ble_eq_true rfl) (fun _ q => ?_)
  obtain rfl := q.symm
  refine R_if_eq rfl rfl (fun z => absurd z (by decide)) (fun _ => ?_)
  refine R_aload_n rfl rfl ?_
  refine R_iload_n rfl rfl ?_
  refine R_cV (as := [.int (nI k)]) rfl rfl iv_M_headOf (sp_mheadOf (k := k) (hn.fr (smP_sI (p := pQ) (k := 120) (j := 0) (x := 0) (by unfold pQ; omega)) (fun b => by unfold pQ; omega) (by unfold pQ; omega)) (by omega)) (by omega) rfl rfl rfl (by decide) rfl rfl (Nat.le_of_ble_eq_true rfl) (fun _ q => ?_)
  obtain rfl := q.symm
  refine R_goto rfl rfl ?_
  exact T_ireturn rfl rfl (am_oki (hdF_N h (hn.2.1.2.2.2.2.2.2.2.2 k k_r)).1.symm ⟨(smP_sI (p := pQ) (k := 120) (j := 0) (x := 0) (by unfold pQ; omega)), sI_s⟩)
set_option maxRecDepth 100000 in
set_option maxHeartbeats 4000000 in
theorem sp_M_head_x0 {σ : am_G} {h w rh pn : Nat} {f v rl : am_Gr} {I : Nat → Int32} {x : Int32} (hn : nV σ h w f v rh rl pn I) (hb : ¬ (0 ≤ x ∧ x < nI rh)) : am_Call am_TX 14 0 c_M_head [.ref 120, .int x] (mm σ) (am_Ok (some (.int 0)) (fun σ1 => smP pQ σ σ1 ∧ σ1.1 120 0 = 1)) := by
  have hv := hn.toV
  have hs := hn.2.1.2.1
  have hh1 := hv.1.1.1
  have hh6 := hv.1.1.2
  have hw1 := hv.1.2.1
  have hw6 := hv.1.2.2
  have hp6 := hn.2.1.2.2.2.1.1
  have hr6 := hn.2.1.2.2.2.2.2.2.1
  have hs7 := lw_lt hh6
  have ws7 := lw_lt hw6
  refine ⟨mf_M_head, Nat.le_of_ble_eq_true rfl, ?_⟩
  refine R_aload_n rfl rfl ?_
  refine R_aload_n rfl rfl ?_
  refine R_iload_n rfl rfl ?_
  refine R_cV (as := [.int x]) rfl rfl iv_M_isRelation (isRel_0 hn hb) (by omega) rfl rfl rfl (by decide) rfl rfl (Nat.le_of_ble_eq_true rfl) (fun _ q => ?_)
  obtain rfl := q.symm
  refine R_cV (as := [.int 0]) rfl rfl iv_M_passes (pass_0) (by omega) rfl rfl rfl (by decide) rfl rfl (Nat.le_of_ble_eq_true rfl) (fun _ q => ?_)
  obtain rfl := q.symm
  refine R_if_eq rfl rfl (fun _ => ?_) (fun z => absurd z (by decide))
  refine R_iconst (v := 0) rfl rfl ?_
  exact T_ireturn rfl rfl (am_oki rfl ⟨(smP_sI (p := pQ) (k := 120) (j := 0) (x := 1) (by unfold pQ; omega)), sI_s⟩)
set_option maxRecDepth 100000 in
set_option maxHeartbeats 4000000 in
theorem lp_mit1 {σ : am_G} {h w rh pn : Nat} {f v rl : am_Gr} {I : Nat → Int32} {k c : Nat} {d k0 : Nat} {Q : am_Res → Prop} (hn : nV σ h w f v rh rl pn I) (hk : k < rh) (hc : c < w) (hd : 2 ≤ d) (hx : am_R am_TX d k0 c_M_isTrue 49 [some (.ref 120), some (.int (nI k)), some (.int (nI c)), some (.long (smL (fun a => rl k a * f a c) h)), none, some (.int (nI h))] [] (mm σ) Q) : ∀ (uu i : Nat), i + uu = h → am_R am_TX d k0 c_M_isTrue 15 [some (.ref 120), some (.int (nI k)), some (.int (nI c)), some (.long (smL (fun a => rl k a * f a c) i)), none, some (.int (nI i))] [] (mm σ) Q := by
  have hv := hn.toV
  have hs := hn.2.1.2.1
  have hh1 := hv.1.1.1
  have hh6 := hv.1.1.2
  have hw1 := hv.1.2.1
  have hw6 := hv.1.2.2
  have hp6 := hn.2.1.2.2.2.1.1
  have hr6 := hn.2.1.2.2.2.2.2.2.1
  have hs7 := lw_lt hh6
  have ws7 := lw_lt hw6
  intro uu
  induction uu with
  | zero =>
    intro i hi
    obtain rfl : h = i := by omega
    refine R_iload rfl rfl ?_
    refine R_aload_n rfl rfl ?_
    refine R_cV (as := []) rfl rfl iv_M_rows (sp_rows hv) (by omega) rfl rfl rfl (by decide) rfl rfl (Nat.le_of_ble_eq_true rfl) (fun _ q => ?_)
    obtain rfl := q.symm
    refine R_nicmp_ge (x := h) (y := h) rfl rfl (by omega) (by omega) (fun g1 => ?_) (fun z => by omega)
    exact hx
  | succ uu ih =>
    intro i hi
    refine R_iload rfl rfl ?_
    refine R_aload_n rfl rfl ?_
    refine R_cV (as := []) rfl rfl iv_M_rows (sp_rows hv) (by omega) rfl rfl rfl (by decide) rfl rfl (Nat.le_of_ble_eq_true rfl) (fun _ q => ?_)
    obtain rfl := q.symm
    refine R_nicmp_ge (x := i) (y := h) rfl rfl (by omega) (by omega) (fun z => by omega) (fun g1 => ?_)
    refine R_lload_n rfl rfl ?_
    refine R_aload_n rfl rfl ?_
    refine R_iload_n rfl rfl ?_
    refine R_iload rfl rfl ?_
    refine R_cV (as := [.int (nI k), .int (nI i)]) rfl rfl iv_M_ofRelation (sp_ofRel (k := k) (r := i) hn (by omega) (by omega)) (by omega) rfl rfl rfl (by decide) rfl rfl (Nat.le_of_ble_eq_true rfl) (fun _ q => ?_)
    obtain rfl := q.symm
    refine R_aload_n rfl rfl ?_
    refine R_iload rfl rfl ?_
    refine R_iload_n rfl rfl ?_
    refine R_cV (as := [.int (nI i), .int (nI c)]) rfl rfl iv_M_at (sp_at (i := i) (j := c) hv (by omega) (by omega)) (by omega) rfl rfl rfl (by decide) rfl rfl (Nat.le_of_ble_eq_true rfl) (fun _ q => ?_)
    obtain rfl := q.symm
    refine R_i2l rfl ?_
    refine R_lmul rfl ?_
    refine R_ladd rfl ?_
    refine R_lstore_n rfl (by decide) ?_
    refine R_iincN (x := i) (m := 1) rfl rfl rfl (by decide) ?_
    refine R_goto rfl rfl ?_
    have e := ih (i + 1) (by omega)
    rw [show smL (fun a => rl k a * f a c) (i + 1) = smL (fun a => rl k a * f a c) i + rl k i * (f i c).toInt32.toInt64 from by rw [sm3264 (hs i c (by omega) hc)]; rfl] at e
    exact e.weak ⟨rfl, rfl, rfl, rfl, rfl, trivial⟩
set_option maxRecDepth 100000 in
set_option maxHeartbeats 4000000 in
theorem lp_mit0 {σ : am_G} {h w rh pn : Nat} {f v rl : am_Gr} {I : Nat → Int32} {k : Nat} {d k0 : Nat} (hn : nV σ h w f v rh rl pn I) (hk : k < rh) (hd : 2 ≤ d)  : ∀ (uu i : Nat) (hall : ∀ c, c < i → smL (fun a => rl k a * f a c) h = 0), i + uu = w → am_R am_TX d k0 c_M_isTrue 2 [some (.ref 120), some (.int (nI k)), some (.int (nI i)), none, none, none] [] (mm σ) (am_Ok (some (.int (zP (∀ c, c < w → smL (fun a => rl k a * f a c) h = 0)))) (fun σ1 => σ1 = σ)) := by
  have hv := hn.toV
  have hs := hn.2.1.2.1
  have hh1 := hv.1.1.1
  have hh6 := hv.1.1.2
  have hw1 := hv.1.2.1
  have hw6 := hv.1.2.2
  have hp6 := hn.2.1.2.2.2.1.1
  have hr6 := hn.2.1.2.2.2.2.2.2.1
  have hs7 := lw_lt hh6
  have ws7 := lw_lt hw6
  intro uu
  induction uu with
  | zero =>
    intro i hall hi
    obtain rfl : w = i := by omega
    refine R_iload_n rfl rfl ?_
    refine R_aload_n rfl rfl ?_
    refine R_cV (as := []) rfl rfl iv_M_columns (sp_columns hv) (by omega) rfl rfl rfl (by decide) rfl rfl (Nat.le_of_ble_eq_true rfl) (fun _ q => ?_)
    obtain rfl := q.symm
    refine R_nicmp_ge (x := w) (y := w) rfl rfl (by omega) (by omega) (fun g1 => ?_) (fun z => by omega)
    refine R_iconst (v := 1) rfl rfl ?_
    exact T_zreturn rfl rfl rfl (am_oki (zP_t hall).symm rfl)
  | succ uu ih =>
    intro i hall hi
    refine R_iload_n rfl rfl ?_
    refine R_aload_n rfl rfl ?_
    refine R_cV (as := []) rfl rfl iv_M_columns (sp_columns hv) (by omega) rfl rfl rfl (by decide) rfl rfl (Nat.le_of_ble_eq_true rfl) (fun _ q => ?_)
    obtain rfl := q.symm
    refine R_nicmp_ge (x := i) (y := w) rfl rfl (by omega) (by omega) (fun z => by omega) (fun g1 => ?_)
    refine R_lconst (v := 0) rfl rfl ?_
    refine R_lstore_n rfl (by decide) ?_
    refine R_iconst (v := 0) rfl rfl ?_
    refine R_istore rfl (by decide) ?_
    refine (lp_mit1 (k := k) (c := i) hn hk (by omega) (by omega) ?_ h 0 (by omega)).weak ⟨rfl, rfl, rfl, rfl, rfl, trivial⟩
    refine R_lload_n rfl rfl ?_
    refine R_lconst (v := 0) rfl rfl ?_
    refine R_l_eq rfl rfl rfl (fun g2 => ?_) (fun g2 => ?_)
    · refine R_iincN (x := i) (m := 1) rfl rfl rfl (by decide) ?_
      refine R_goto rfl rfl ?_
      refine (ih (i + 1) (fun c hc => ?_) (by omega)).weak ⟨rfl, rfl, rfl, trivial⟩
      rcases Nat.lt_or_eq_of_le (Nat.le_of_lt_succ hc) with a | a
      · exact hall c a
      · subst a; exact g2
    · refine R_iconst (v := 0) rfl rfl ?_
      exact T_zreturn rfl rfl rfl (am_oki (zP_f (fun z => g2 (z i (by omega)))).symm rfl)
set_option maxRecDepth 100000 in
set_option maxHeartbeats 4000000 in
theorem sp_misTrue {σ : am_G} {h w rh pn : Nat} {f v rl : am_Gr} {I : Nat → Int32} {k : Nat} (hn : nV σ h w f v rh rl pn I) (hk : k < rh) : am_Call am_TX 2 0 c_M_isTrue [.ref 120, .int (nI k)] (mm σ) (am_Ok (some (.int (zP (∀ c, c < w → smL (fun a => rl k a * f a c) h = 0)))) (fun σ1 => σ1 = σ)) := by
  have hv := hn.toV
  have hs := hn.2.1.2.1
  have hh1 := hv.1.1.1
  have hh6 := hv.1.1.2
  have hw1 := hv.1.2.1
  have hw6 := hv.1.2.2
  have hp6 := hn.2.1.2.2.2.1.1
  have hr6 := hn.2.1.2.2.2.2.2.2.1
  have hs7 := lw_lt hh6
  have ws7 := lw_lt hw6
  refine ⟨mf_M_isTrue, Nat.le_of_ble_eq_true rfl, ?_⟩
  refine R_iconst (v := 0) rfl rfl ?_
  refine R_istore_n rfl (by decide) ?_
  exact (lp_mit0 hn hk (by omega) w 0 (fun c hc => absurd hc (Nat.not_lt_zero _)) (by omega)).weak ⟨rfl, rfl, rfl, trivial⟩
set_option maxRecDepth 100000 in
set_option maxHeartbeats 4000000 in
theorem sp_M_holds {σ : am_G} {h w rh pn : Nat} {f v rl : am_Gr} {I : Nat → Int32} {k : Nat} (hn : nV σ h w f v rh rl pn I) (k_r : k < rh) : am_Call am_TX 14 0 c_M_holds [.ref 120, .int (nI k)] (mm σ) (am_Ok (some (.int (zP (∀ c, c < w → smL (fun a => rl k a * f a c) h = 0)))) (fun σ1 => smP pQ σ σ1 ∧ σ1.1 120 0 = 0)) := by
  have hv := hn.toV
  have hs := hn.2.1.2.1
  have hh1 := hv.1.1.1
  have hh6 := hv.1.1.2
  have hw1 := hv.1.2.1
  have hw6 := hv.1.2.2
  have hp6 := hn.2.1.2.2.2.1.1
  have hr6 := hn.2.1.2.2.2.2.2.2.1
  have hs7 := lw_lt hh6
  have ws7 := lw_lt hw6
  refine ⟨mf_M_holds, Nat.le_of_ble_eq_true rfl, ?_⟩
  refine R_aload_n rfl rfl ?_
  refine R_aload_n rfl rfl ?_
  refine R_iload_n rfl rfl ?_
  refine R_cV (as := [.int (nI k)]) rfl rfl iv_M_isRelation (isRel_1 hn (k := k) (by omega)) (by omega) rfl rfl rfl (by decide) rfl rfl (Nat.le_of_ble_eq_true rfl) (fun _ q => ?_)
  obtain rfl := q.symm
  refine R_cV (as := [.int 1]) rfl rfl iv_M_passes (pass_1) (by omega) rfl rfl rfl (by decide) rfl rfl (Nat.le_of_ble_eq_true rfl) (fun _ q => ?_)
  obtain rfl := q.symm
  refine R_if_eq rfl rfl (fun z => absurd z (by decide)) (fun _ => ?_)
  refine R_aload_n rfl rfl ?_
  refine R_iload_n rfl rfl ?_
  refine R_cV (as := [.int (nI k)]) rfl rfl iv_M_isTrue (sp_misTrue (k := k) (hn.fr (smP_sI (p := pQ) (k := 120) (j := 0) (x := 0) (by unfold pQ; omega)) (fun b => by unfold pQ; omega) (by unfold pQ; omega)) (by omega)) (by omega) rfl rfl rfl (by decide) rfl rfl (Nat.le_of_ble_eq_true rfl) (fun _ q => ?_)
  obtain rfl := q.symm
  refine R_zif_eq rfl rfl (fun g1 => ?_) (fun g1 => ?_)
  · refine R_iconst (v := 0) rfl rfl ?_
    exact T_zreturn rfl rfl rfl (am_oki (zP_f g1).symm ⟨(smP_sI (p := pQ) (k := 120) (j := 0) (x := 0) (by unfold pQ; omega)), sI_s⟩)
  · refine R_iconst (v := 1) rfl rfl ?_
    refine R_goto rfl rfl ?_
    exact T_zreturn rfl rfl rfl (am_oki (zP_t g1).symm ⟨(smP_sI (p := pQ) (k := 120) (j := 0) (x := 0) (by unfold pQ; omega)), sI_s⟩)
set_option maxRecDepth 100000 in
set_option maxHeartbeats 4000000 in
theorem sp_M_holds_x0 {σ : am_G} {h w rh pn : Nat} {f v rl : am_Gr} {I : Nat → Int32} {x : Int32} (hn : nV σ h w f v rh rl pn I) (hb : ¬ (0 ≤ x ∧ x < nI rh)) : am_Call am_TX 14 0 c_M_holds [.ref 120, .int x] (mm σ) (am_Ok (some (.int 0)) (fun σ1 => smP pQ σ σ1 ∧ σ1.1 120 0 = 1)) := by
  have hv := hn.toV
  have hs := hn.2.1.2.1
  have hh1 := hv.1.1.1
  have hh6 := hv.1.1.2
  have hw1 := hv.1.2.1
  have hw6 := hv.1.2.2
  have hp6 := hn.2.1.2.2.2.1.1
  have hr6 := hn.2.1.2.2.2.2.2.2.1
  have hs7 := lw_lt hh6
  have ws7 := lw_lt hw6
  refine ⟨mf_M_holds, Nat.le_of_ble_eq_true rfl, ?_⟩
  refine R_aload_n rfl rfl ?_
  refine R_aload_n rfl rfl ?_
  refine R_iload_n rfl rfl ?_
  refine R_cV (as := [.int x]) rfl rfl iv_M_isRelation (isRel_0 hn hb) (by omega) rfl rfl rfl (by decide) rfl rfl (Nat.le_of_ble_eq_true rfl) (fun _ q => ?_)
  obtain rfl := q.symm
  refine R_cV (as := [.int 0]) rfl rfl iv_M_passes (pass_0) (by omega) rfl rfl rfl (by decide) rfl rfl (Nat.le_of_ble_eq_true rfl) (fun _ q => ?_)
  obtain rfl := q.symm
  refine R_if_eq rfl rfl (fun _ => ?_) (fun z => absurd z (by decide))
  refine R_iconst (v := 0) rfl rfl ?_
  exact T_zreturn rfl rfl rfl (am_oki rfl ⟨(smP_sI (p := pQ) (k := 120) (j := 0) (x := 1) (by unfold pQ; omega)), sI_s⟩)
