/-! ===== the model: invariant, isNeeded, count, pivot, unlucky ===== -/
theorem cd_0 {a b : Int64} (ha : mB a) (hb : mB b) : cdL a b = 0 ↔ a = 0 ∧ b = 0 := by
  have e := cdL_t ha hb
  rw [← Int64.toInt_inj, ← Int64.toInt_inj, ← Int64.toInt_inj, e, l0]
  constructor
  · intro z
    have z2 : Nat.gcd a.toInt.natAbs b.toInt.natAbs = 0 := by omega
    have := Nat.gcd_eq_zero_iff.mp z2
    omega
  · rintro ⟨x, y⟩
    rw [x, y]; rfl
theorem dvC_0 {f : am_Gr} {S w n : Nat} {a : Int64} (ha : mB a) : ∀ i, (∀ j, j < i → pc j = n → mB (mnF f S w j)) → mB (dvC f S w n a i) ∧ (dvC f S w n a i = 0 ↔ a = 0 ∧ ∀ j, j < i → pc j = n → mnF f S w j = 0)
  | 0, _ => ⟨ha, fun z => ⟨z, fun _ hj => absurd hj (Nat.not_lt_zero _)⟩, fun z => z.1⟩
  | i + 1, hb => by
    obtain ⟨h1, h2⟩ := dvC_0 ha i (fun j hj => hb j (by omega))
    simp only [dvC]
    by_cases hp : pc i = n
    · rw [if_pos hp]
      have hm := hb i (by omega) hp
      refine ⟨cdL_B h1 hm, ?_⟩
      rw [cd_0 h1 hm, h2]
      constructor
      · rintro ⟨⟨x, y⟩, z⟩
        refine ⟨x, fun j hj hn => ?_⟩
        by_cases e : j = i
        · subst e; exact z
        · exact y j (by omega) hn
      · rintro ⟨x, y⟩
        exact ⟨⟨x, fun j hj hn => y j (by omega) hn⟩, y i (by omega) hp⟩
    · rw [if_neg hp]
      refine ⟨h1, h2.trans ⟨fun ⟨x, y⟩ => ⟨x, fun j hj hn => ?_⟩, fun ⟨x, y⟩ => ⟨x, fun j hj hn => y j (by omega) hn⟩⟩⟩
      by_cases e : j = i
      · subst e; exact absurd hn hp
      · exact y j (by omega) hn
theorem dvR_0 {f : am_Gr} {h w n : Nat} (hs : fSm f h w) (hh : h ≤ 6) (hw : w ≤ 6) : ∀ i, i ≤ 2 ^ h → mB (dvR f w n i) ∧ (dvR f w n i = 0 ↔ ∀ S, S < i → pc S = n → ∀ T, T < 2 ^ w → pc T = n → mnF f S w T = 0)
  | 0, _ => ⟨mB_0, fun _ S hS => absurd hS (Nat.not_lt_zero _), fun _ => rfl⟩
  | i + 1, hi => by
    obtain ⟨h1, h2⟩ := @dvR_0 f h w n hs hh hw i (by omega)
    simp only [dvR]
    by_cases hp : pc i = n
    · rw [if_pos hp]
      have hm : ∀ j, j < 2 ^ w → pc j = n → mB (mnF f i w j) := fun j hj hn => Nat.le_trans (mnF_t hs hh hw (by omega) hj (by omega)).2 (bdN_6 _ pc_le)
      obtain ⟨h3, h4⟩ := dvC_0 h1 (2 ^ w) hm
      refine ⟨h3, ?_⟩
      rw [h4, h2]
      constructor
      · rintro ⟨x, y⟩ S hS hn T hT hT2
        by_cases e : S = i
        · subst e; exact y T hT hT2
        · exact x S (by omega) hn T hT hT2
      · intro x
        exact ⟨fun S hS => x S (by omega), fun j hj hn => x i (by omega) hp j hj hn⟩
    · rw [if_neg hp]
      refine ⟨h1, h2.trans ⟨fun x S hS hn => ?_, fun x S hS hn => x S (by omega) hn⟩⟩
      by_cases e : S = i
      · subst e; exact absurd hn hp
      · exact x S (by omega) hn
theorem dvF_0 {f : am_Gr} {h w n : Nat} (hs : fSm f h w) (hh : h ≤ 6) (hw : w ≤ 6) : dvF f h w n = 0 ↔ ∀ S, S < 2 ^ h → pc S = n → ∀ T, T < 2 ^ w → pc T = n → mnF f S w T = 0 := (dvR_0 hs hh hw (2 ^ h) (Nat.le_refl _)).2
theorem dvF_up {f : am_Gr} {h w n : Nat} (hs : fSm f h w) (hh : h ≤ 6) (hw : w ≤ 6) (h0 : dvF f h w n = 0) : dvF f h w (n + 1) = 0 := by
  rw [dvF_0 hs hh hw] at h0 ⊢
  intro S hS hSn T hT hTn
  have hS6 := p2_64 hS hh
  have hT6 := p2_64 hT hw
  rw [← Int64.toInt_inj, (mnF_t hs hh hw hS hT (by omega)).1, l0, hTn, zzD_s]
  refine zzS_zero _ (fun j hj => ?_)
  obtain ⟨-, a2, a3, a4⟩ := pc_above (s := S) (j := 0) hS6 (by omega)
  obtain ⟨-, b2, b3, b4⟩ := pc_above (s := T) (j := j) hT6 (by omega)
  have a5 := (pc_wo hS6 a2 a3).2
  have b5 := (pc_wo hT6 b2 b3).2
  have z := h0 (wo S (sel S 0)) (by omega) (by omega) (wo T (sel T j)) (by omega) (by omega)
  rw [← Int64.toInt_inj, (mnF_t hs hh hw (by omega) (by omega) (by omega)).1, l0, show pc (wo T (sel T j)) = n by omega] at z
  rw [zzD_congr n (B := fun i j1 => fZ f (sel (wo S (sel S 0)) i) (sel (wo T (sel T j)) j1)) (fun i k hi hk => by rw [sel_wo hS6 (by omega) (by omega), sel_wo hT6 (by omega) (by omega), zk_0]), z, Int.mul_zero]
theorem qtL_z {y : Int64} : qtL 0 y = 0 := by
  unfold qtL
  by_cases e : y = 0
  · rw [if_pos e]
  · rw [if_neg e]; exact z_div e
theorem f32_z {x : Int64} (h : x.toInt.natAbs ≤ 20) : x.toInt32 = 0 ↔ x = 0 := by
  constructor
  · intro e
    rw [← Int64.toInt_inj, l0]
    exact f32_0 h e
  · intro e
    rw [e]; rfl
set_option maxRecDepth 100000 in
set_option maxHeartbeats 4000000 in
theorem sp_M_invariant {σ : am_G} {h w rh pn : Nat} {f v rl : am_Gr} {I : Nat → Int32} {n : Nat} (hn : nV σ h w f v rh rl pn I) (n_k : 1 ≤ n ∧ n ≤ 6) : am_Call am_TX 14 0 c_M_invariant [.ref 120, .int (nI n)] (mm σ) (am_Ok (some (.long (qtL (dvF f h w n) (dvF f h w (n - 1))))) (fun σ1 => smP pQ σ σ1 ∧ σ1.1 120 0 = 0)) := by
  have hv := hn.toV
  have hs := hn.2.1.2.1
  have hh1 := hv.1.1.1
  have hh6 := hv.1.1.2
  have hw1 := hv.1.2.1
  have hw6 := hv.1.2.2
  have hp6 := hn.2.1.2.2.2.1.1
  have hr6 := hn.2.1.2.2.2.2.2.2.1
  have hs7 := lw_lt hh6
  have ws7 := lw_lt hw6
  have hrg : (1 : Int32) ≤ nI n ∧ nI n ≤ 6 := rg_1 (k := 6) (by omega) (by omega) (by omega)
  have hup := fun z => dvF_up (n := n - 1) hs hh6 hw6 z
  rw [show n - 1 + 1 = n by omega] at hup
  refine ⟨mf_M_invariant, Nat.le_of_ble_eq_true rfl, ?_⟩
  refine R_aload_n rfl rfl ?_
  refine R_iload_n rfl rfl ?_
  refine R_i2l rfl ?_
  refine R_lconst (v := 1) rfl rfl ?_
  refine R_ldc2 (v := 6) rfl (by decide) ?_
  refine R_cS (as := [.long ((nI n).toInt64), .long 1, .long 6]) rfl rfl iv_M_in (in_1 (x := (nI n)) (a := 1) (b := 6) hrg rfl rfl) (by omega) rfl rfl rfl rfl (Nat.le_of_ble_eq_true rfl) (fun _ q => ?_)
  obtain rfl := q.symm
  refine R_cV (as := [.int 1]) rfl rfl iv_M_passes (pass_1) (by omega) rfl rfl rfl (by decide) rfl rfl (Nat.le_of_ble_eq_true rfl) (fun _ q => ?_)
  obtain rfl := q.symm
  refine R_if_ne rfl rfl (fun _ => ?_) (fun z => absurd z (by decide))
  refine R_aload_n rfl rfl ?_
  refine R_iload_n rfl rfl ?_
  refine R_cV (as := [.int (nI n)]) rfl rfl iv_M_divisorOf (sp_divisorOf (n := n) ((smP_sI (p := pQ) (k := 120) (j := 0) (x := 0) (by unfold pQ; omega)).mV hv (fun b => by unfold pQ; omega) (fun b => by unfold pQ; omega) (by unfold pQ; omega)) hs (by omega)) (by omega) rfl rfl rfl (by decide) rfl rfl (Nat.le_of_ble_eq_true rfl) (fun σ3 hσ3 => ?_)
  refine R_lstore_n rfl (by decide) ?_
  refine R_lload_n rfl rfl ?_
  refine R_lconst (v := 0) rfl rfl ?_
  refine R_l_ne rfl rfl rfl (fun g1 => ?_) (fun g1 => ?_)
  · refine R_lload_n rfl rfl ?_
    refine R_aload_n rfl rfl ?_
    refine R_iload_n rfl rfl ?_
    refine R_iconst (v := 1) rfl rfl ?_
    refine R_isubN (x := n) (y := 1) rfl (by omega) ?_
    refine R_cV (as := [.int (nI (n - 1))]) rfl rfl iv_M_divisorOf (sp_divisorOf (n := (n - 1)) (((smP_sI (p := pQ) (k := 120) (j := 0) (x := 0) (by unfold pQ; omega)).trans (hσ3.mono (q := pQ) pQ_K)).mV hv (fun b => by unfold pQ; omega) (fun b => by unfold pQ; omega) (by unfold pQ; omega)) hs (by omega)) (by omega) rfl rfl rfl (by decide) rfl rfl (Nat.le_of_ble_eq_true rfl) (fun σ5 hσ5 => ?_)
    refine R_ldiv rfl (fun z => g1 (hup z)) ?_
    exact T_lreturn rfl rfl (am_okl ((by unfold qtL; rw [if_neg (fun z => g1 (hup z))])) ⟨(((smP_sI (p := pQ) (k := 120) (j := 0) (x := 0) (by unfold pQ; omega)).trans (hσ3.mono (q := pQ) pQ_K)).trans (hσ5.mono (q := pQ) pQ_K)), ((hσ5.i (by unfold pK; omega)).trans ((hσ3.i (by unfold pK; omega)).trans sI_s))⟩)
  · refine R_lconst (v := 0) rfl rfl ?_
    refine R_goto rfl rfl ?_
    exact T_lreturn rfl rfl (am_okl ((by rw [g1]; exact qtL_z.symm)) ⟨((smP_sI (p := pQ) (k := 120) (j := 0) (x := 0) (by unfold pQ; omega)).trans (hσ3.mono (q := pQ) pQ_K)), ((hσ3.i (by unfold pK; omega)).trans sI_s)⟩)
set_option maxRecDepth 100000 in
set_option maxHeartbeats 4000000 in
theorem sp_M_invariant_x0 {σ : am_G} {h w rh pn : Nat} {f v rl : am_Gr} {I : Nat → Int32} {x : Int32} (hn : nV σ h w f v rh rl pn I) (hb : ¬ (1 ≤ x ∧ x ≤ 6)) : am_Call am_TX 14 0 c_M_invariant [.ref 120, .int x] (mm σ) (am_Ok (some (.long 0)) (fun σ1 => smP pQ σ σ1 ∧ σ1.1 120 0 = 1)) := by
  have hv := hn.toV
  have hs := hn.2.1.2.1
  have hh1 := hv.1.1.1
  have hh6 := hv.1.1.2
  have hw1 := hv.1.2.1
  have hw6 := hv.1.2.2
  have hp6 := hn.2.1.2.2.2.1.1
  have hr6 := hn.2.1.2.2.2.2.2.2.1
  have hs7 := lw_lt hh6
  have ws7 := lw_lt hw6
  refine ⟨mf_M_invariant, Nat.le_of_ble_eq_true rfl, ?_⟩
  refine R_aload_n rfl rfl ?_
  refine R_iload_n rfl rfl ?_
  refine R_i2l rfl ?_
  refine R_lconst (v := 1) rfl rfl ?_
  refine R_ldc2 (v := 6) rfl (by decide) ?_
  refine R_cS (as := [.long x.toInt64, .long 1, .long 6]) rfl rfl iv_M_in (in_0 (x := x) (a := 1) (b := 6) hb rfl rfl) (by omega) rfl rfl rfl rfl (Nat.le_of_ble_eq_true rfl) (fun _ q => ?_)
  obtain rfl := q.symm
  refine R_cV (as := [.int 0]) rfl rfl iv_M_passes (pass_0) (by omega) rfl rfl rfl (by decide) rfl rfl (Nat.le_of_ble_eq_true rfl) (fun _ q => ?_)
  obtain rfl := q.symm
  refine R_if_ne rfl rfl (fun z => absurd z (by decide)) (fun _ => ?_)
  refine R_lconst (v := 0) rfl rfl ?_
  exact T_lreturn rfl rfl (am_okl rfl ⟨(smP_sI (p := pQ) (k := 120) (j := 0) (x := 1) (by unfold pQ; omega)), sI_s⟩)
set_option maxRecDepth 100000 in
set_option maxHeartbeats 4000000 in
theorem sp_M_isNeeded {σ : am_G} {h w rh pn : Nat} {f v rl : am_Gr} {I : Nat → Int32} {r : Nat} {m : Nat} (hn : nV σ h w f v rh rl pn I) (r_h : r < h) (hmd : m ∈ mdL) : am_Call am_TX 14 0 c_M_isNeeded [.ref 120, .int (nI m), .int (nI r)] (mm σ) (am_Ok (some (.int (zP (rkO f m (wo (2 ^ h - 1) r) (2 ^ w - 1) h w < rkO f m (2 ^ h - 1) (2 ^ w - 1) h w)))) (fun σ1 => smP pQ σ σ1 ∧ σ1.1 120 0 = 0)) := by
  have hv := hn.toV
  have hs := hn.2.1.2.1
  have hh1 := hv.1.1.1
  have hh6 := hv.1.1.2
  have hw1 := hv.1.2.1
  have hw6 := hv.1.2.2
  have hp6 := hn.2.1.2.2.2.1.1
  have hr6 := hn.2.1.2.2.2.2.2.2.1
  have hs7 := lw_lt hh6
  have ws7 := lw_lt hw6
  have hm97 := md_97 hmd
  have h64 := lw_lt hh6
  have hk1 : rkO f m (wo (2 ^ h - 1) r) (2 ^ w - 1) h w ≤ 6 := rkO_6 hh6
  have hk2 : rkO f m (2 ^ h - 1) (2 ^ w - 1) h w ≤ 6 := rkO_6 hh6
  refine ⟨mf_M_isNeeded, Nat.le_of_ble_eq_true rfl, ?_⟩
  refine R_aload_n rfl rfl ?_
  refine R_aload_n rfl rfl ?_
  refine R_iload_n rfl rfl ?_
  refine R_cV (as := [.int (nI r)]) rfl rfl iv_M_isRow (isRow_1 (n := r) hv (by omega)) (by omega) rfl rfl rfl (by decide) rfl rfl (Nat.le_of_ble_eq_true rfl) (fun _ q => ?_)
  obtain rfl := q.symm
  refine R_iload_n rfl rfl ?_
  refine R_cS (as := [.int (nI m)]) rfl rfl iv_M_isModulus (isMod_1 hmd) (by omega) rfl rfl rfl rfl (Nat.le_of_ble_eq_true rfl) (fun _ q => ?_)
  obtain rfl := q.symm
  refine R_cV (as := [.int 1, .int 1]) rfl rfl iv_M_passes2 (pass2_11) (by omega) rfl rfl rfl (by decide) rfl rfl (Nat.le_of_ble_eq_true rfl) (fun _ q => ?_)
  obtain rfl := q.symm
  refine R_if_eq rfl rfl (fun z => absurd z (by decide)) (fun _ => ?_)
  refine R_aload_n rfl rfl ?_
  refine R_iload_n rfl rfl ?_
  refine R_aload_n rfl rfl ?_
  refine R_cV (as := []) rfl rfl iv_M_allRows (sp_mallRows ((smP_sI (p := pQ) (k := 120) (j := 0) (x := 0) (by unfold pQ; omega)).mV hv (fun b => by unfold pQ; omega) (fun b => by unfold pQ; omega) (by unfold pQ; omega))) (by omega) rfl rfl rfl (by decide) rfl rfl (Nat.le_of_ble_eq_true rfl) (fun _ q => ?_)
  obtain rfl := q.symm
  refine R_iconst (v := 1) rfl rfl ?_
  refine R_iload_n rfl rfl ?_
  refine R_shl1N (y := r) rfl (by omega) ?_
  refine R_iconst (v := -1) rfl rfl ?_
  refine R_ixor rfl ?_
  refine R_iandB (s := (2 ^ h - 1)) (y := r) rfl (by first | assumption | omega) (by omega) ?_
  refine R_cV (as := [.int (nI m), .int (nI (wo (2 ^ h - 1) r))]) rfl rfl iv_M_rankOfRows (sp_rankOfRows (m := m) (S := (wo (2 ^ h - 1) r)) ((smP_sI (p := pQ) (k := 120) (j := 0) (x := 0) (by unfold pQ; omega)).mV hv (fun b => by unfold pQ; omega) (fun b => by unfold pQ; omega) (by unfold pQ; omega)) hs (by omega) (by first | assumption | exact lw_lt (by omega) | exact wi_lt (by first | assumption | omega) (by omega) | exact wo_lt (by first | assumption | omega) (by omega) | omega)) (by omega) rfl rfl rfl (by decide) rfl rfl (Nat.le_of_ble_eq_true rfl) (fun σ5 hσ5 => ?_)
  refine R_aload_n rfl rfl ?_
  refine R_iload_n rfl rfl ?_
  refine R_cV (as := [.int (nI m)]) rfl rfl iv_M_rankAll (sp_rankAll (m := m) (((smP_sI (p := pQ) (k := 120) (j := 0) (x := 0) (by unfold pQ; omega)).trans (hσ5.mono (q := pQ) pQ_W)).mV hv (fun b => by unfold pQ; omega) (fun b => by unfold pQ; omega) (by unfold pQ; omega)) hs (by omega)) (by omega) rfl rfl rfl (by decide) rfl rfl (Nat.le_of_ble_eq_true rfl) (fun σ7 hσ7 => ?_)
  refine R_nicmp_ge (x := (rkO f m (wo (2 ^ h - 1) r) (2 ^ w - 1) h w)) (y := (rkO f m (2 ^ h - 1) (2 ^ w - 1) h w)) rfl rfl (by omega) (by omega) (fun g1 => ?_) (fun g1 => ?_)
  · refine R_iconst (v := 0) rfl rfl ?_
    exact T_zreturn rfl rfl rfl (am_oki (zP_f (by omega)).symm ⟨(((smP_sI (p := pQ) (k := 120) (j := 0) (x := 0) (by unfold pQ; omega)).trans (hσ5.mono (q := pQ) pQ_W)).trans (hσ7.mono (q := pQ) pQ_W)), ((hσ7.i (by unfold pW; omega)).trans ((hσ5.i (by unfold pW; omega)).trans sI_s))⟩)
  · refine R_iconst (v := 1) rfl rfl ?_
    refine R_goto rfl rfl ?_
    exact T_zreturn rfl rfl rfl (am_oki (zP_t (by omega)).symm ⟨(((smP_sI (p := pQ) (k := 120) (j := 0) (x := 0) (by unfold pQ; omega)).trans (hσ5.mono (q := pQ) pQ_W)).trans (hσ7.mono (q := pQ) pQ_W)), ((hσ7.i (by unfold pW; omega)).trans ((hσ5.i (by unfold pW; omega)).trans sI_s))⟩)
set_option maxRecDepth 100000 in
set_option maxHeartbeats 4000000 in
theorem sp_M_isNeeded_x0 {σ : am_G} {h w rh pn : Nat} {f v rl : am_Gr} {I : Nat → Int32} {m_ : Int32} {x : Int32} (hn : nV σ h w f v rh rl pn I) (hb : ¬ (0 ≤ x ∧ x < nI h)) : am_Call am_TX 14 0 c_M_isNeeded [.ref 120, .int m_, .int x] (mm σ) (am_Ok (some (.int 0)) (fun σ1 => smP pQ σ σ1 ∧ σ1.1 120 0 = 1)) := by
  have hv := hn.toV
  have hs := hn.2.1.2.1
  have hh1 := hv.1.1.1
  have hh6 := hv.1.1.2
  have hw1 := hv.1.2.1
  have hw6 := hv.1.2.2
  have hp6 := hn.2.1.2.2.2.1.1
  have hr6 := hn.2.1.2.2.2.2.2.2.1
  have hs7 := lw_lt hh6
  have ws7 := lw_lt hw6
  refine ⟨mf_M_isNeeded, Nat.le_of_ble_eq_true rfl, ?_⟩
  refine R_aload_n rfl rfl ?_
  refine R_aload_n rfl rfl ?_
  refine R_iload_n rfl rfl ?_
  refine R_cV (as := [.int x]) rfl rfl iv_M_isRow (isRow_0 hv hb) (by omega) rfl rfl rfl (by decide) rfl rfl (Nat.le_of_ble_eq_true rfl) (fun _ q => ?_)
  obtain rfl := q.symm
  refine R_iload_n rfl rfl ?_
  refine R_cS (as := [.int m_]) rfl rfl iv_M_isModulus (isMod_u (x := m_)) (by omega) rfl rfl rfl rfl (Nat.le_of_ble_eq_true rfl) (fun _ q => ?_)
  obtain rfl := q.symm
  refine R_cV (as := [.int 0, .int (zP (mdB m_ = true))]) rfl rfl iv_M_passes2 (pass2_0u (P := mdB m_ = true)) (by omega) rfl rfl rfl (by decide) rfl rfl (Nat.le_of_ble_eq_true rfl) (fun _ q => ?_)
  obtain rfl := q.symm
  refine R_if_eq rfl rfl (fun _ => ?_) (fun z => absurd z (by decide))
  refine R_iconst (v := 0) rfl rfl ?_
  exact T_zreturn rfl rfl rfl (am_oki rfl ⟨(smP_sI (p := pQ) (k := 120) (j := 0) (x := 1) (by unfold pQ; omega)), sI_s⟩)
set_option maxRecDepth 100000 in
set_option maxHeartbeats 4000000 in
theorem sp_M_isNeeded_x1 {σ : am_G} {h w rh pn : Nat} {f v rl : am_Gr} {I : Nat → Int32} {r : Nat} {x : Int32} (hn : nV σ h w f v rh rl pn I) (r_h : r < h) (hb : ∀ n, n ∈ mdL → x ≠ nI n) : am_Call am_TX 14 0 c_M_isNeeded [.ref 120, .int x, .int (nI r)] (mm σ) (am_Ok (some (.int 0)) (fun σ1 => smP pQ σ σ1 ∧ σ1.1 120 0 = 2)) := by
  have hv := hn.toV
  have hs := hn.2.1.2.1
  have hh1 := hv.1.1.1
  have hh6 := hv.1.1.2
  have hw1 := hv.1.2.1
  have hw6 := hv.1.2.2
  have hp6 := hn.2.1.2.2.2.1.1
  have hr6 := hn.2.1.2.2.2.2.2.2.1
  have hs7 := lw_lt hh6
  have ws7 := lw_lt hw6
  refine ⟨mf_M_isNeeded, Nat.le_of_ble_eq_true rfl, ?_⟩
  refine R_aload_n rfl rfl ?_
  refine R_aload_n rfl rfl ?_
  refine R_iload_n rfl rfl ?_
  refine R_cV (as := [.int (nI r)]) rfl rfl iv_M_isRow (isRow_1 (n := r) hv (by omega)) (by omega) rfl rfl rfl (by decide) rfl rfl (Nat.le_of_ble_eq_true rfl) (fun _ q => ?_)
  obtain rfl := q.symm
  refine R_iload_n rfl rfl ?_
  refine R_cS (as := [.int x]) rfl rfl iv_M_isModulus (isMod_0 hb) (by omega) rfl rfl rfl rfl (Nat.le_of_ble_eq_true rfl) (fun _ q => ?_)
  obtain rfl := q.symm
  refine R_cV (as := [.int 1, .int 0]) rfl rfl iv_M_passes2 (pass2_10) (by omega) rfl rfl rfl (by decide) rfl rfl (Nat.le_of_ble_eq_true rfl) (fun _ q => ?_)
  obtain rfl := q.symm
  refine R_if_eq rfl rfl (fun _ => ?_) (fun z => absurd z (by decide))
  refine R_iconst (v := 0) rfl rfl ?_
  exact T_zreturn rfl rfl rfl (am_oki rfl ⟨(smP_sI (p := pQ) (k := 120) (j := 0) (x := 2) (by unfold pQ; omega)), sI_s⟩)
set_option maxRecDepth 100000 in
set_option maxHeartbeats 4000000 in
theorem lp_fil1 {σ : am_G} {h w rh pn : Nat} {f v rl : am_Gr} {I : Nat → Int32} {k : Nat} {d k0 : Nat} {Q : am_Res → Prop} (hn : nV σ h w f v rh rl pn I) (hk : k < h) (hd : 4 ≤ d) (hx : am_R am_TX d k0 c_M_filled 45 [some (.ref 120), some (.int (nI (cnG f w k + cn (f k) w))), some (.int (nI k)), some (.int (nI w))] [] (mm σ) Q) : ∀ (uu i : Nat), i + uu = w → am_R am_TX d k0 c_M_filled 14 [some (.ref 120), some (.int (nI (cnG f w k + cn (f k) i))), some (.int (nI k)), some (.int (nI i))] [] (mm σ) Q := by
  have hv := hn.toV
  have hs := hn.2.1.2.1
  have hh1 := hv.1.1.1
  have hh6 := hv.1.1.2
  have hw1 := hv.1.2.1
  have hw6 := hv.1.2.2
  have hp6 := hn.2.1.2.2.2.1.1
  have hr6 := hn.2.1.2.2.2.2.2.2.1
  have hs7 := lw_lt hh6
  have ws7 := lw_lt hw6
  have hc1 := @cnG_le f w k
  intro uu
  induction uu with
  | zero =>
    intro i hi
    obtain rfl : w = i := by omega
    skip
    refine R_iload_n rfl rfl ?_
    refine R_aload_n rfl rfl ?_
    refine R_cV (as := []) rfl rfl iv_M_columns (sp_columns hv) (by omega) rfl rfl rfl (by decide) rfl rfl (Nat.le_of_ble_eq_true rfl) (fun _ q => ?_)
    obtain rfl := q.symm
    refine R_nicmp_ge (x := w) (y := w) rfl rfl (by omega) (by omega) (fun g1 => ?_) (fun z => by omega)
    exact hx
  | succ uu ih =>
    intro i hi
    have hc2 := @cn_le (f k) i
    have hc3 : k * w ≤ 36 := Nat.le_trans (Nat.mul_le_mul (show k ≤ 6 by omega) hw6) (by decide)
    refine R_iload_n rfl rfl ?_
    refine R_aload_n rfl rfl ?_
    refine R_cV (as := []) rfl rfl iv_M_columns (sp_columns hv) (by omega) rfl rfl rfl (by decide) rfl rfl (Nat.le_of_ble_eq_true rfl) (fun _ q => ?_)
    obtain rfl := q.symm
    refine R_nicmp_ge (x := i) (y := w) rfl rfl (by omega) (by omega) (fun z => by omega) (fun g1 => ?_)
    refine R_iload_n rfl rfl ?_
    refine R_aload_n rfl rfl ?_
    refine R_iload_n rfl rfl ?_
    refine R_iload_n rfl rfl ?_
    refine R_cV (as := [.int (nI k), .int (nI i)]) rfl rfl iv_M_at (sp_at (i := k) (j := i) hv (by omega) (by omega)) (by omega) rfl rfl rfl (by decide) rfl rfl (Nat.le_of_ble_eq_true rfl) (fun _ q => ?_)
    obtain rfl := q.symm
    refine R_if_eq rfl rfl (fun g2 => ?_) (fun g2 => ?_)
    · refine R_iconst (v := 0) rfl rfl ?_
      refine R_iaddN (x := (cnG f w k + cn (f k) i)) (y := 0) rfl ?_
      refine R_istore_n rfl (by decide) ?_
      refine R_iincN (x := i) (m := 1) rfl rfl rfl (by decide) ?_
      refine R_goto rfl rfl ?_
      have e := ih (i + 1) (by omega)
      rw [show cnG f w k + cn (f k) (i + 1) = cnG f w k + cn (f k) i + 0 from by simp only [cn]; rw [if_pos ((f32_z (hs k i hk (by omega))).mp g2)]; omega] at e
      exact e.weak ⟨rfl, rfl, rfl, rfl, trivial⟩
    · refine R_iconst (v := 1) rfl rfl ?_
      refine R_goto rfl rfl ?_
      refine R_iaddN (x := (cnG f w k + cn (f k) i)) (y := 1) rfl ?_
      refine R_istore_n rfl (by decide) ?_
      refine R_iincN (x := i) (m := 1) rfl rfl rfl (by decide) ?_
      refine R_goto rfl rfl ?_
      have e := ih (i + 1) (by omega)
      rw [show cnG f w k + cn (f k) (i + 1) = cnG f w k + cn (f k) i + 1 from by simp only [cn]; rw [if_neg (fun z => g2 ((f32_z (hs k i hk (by omega))).mpr z))]; omega] at e
      exact e.weak ⟨rfl, rfl, rfl, rfl, trivial⟩
set_option maxRecDepth 100000 in
set_option maxHeartbeats 4000000 in
theorem lp_fil0 {σ : am_G} {h w rh pn : Nat} {f v rl : am_Gr} {I : Nat → Int32} {d k0 : Nat} (hn : nV σ h w f v rh rl pn I) (hd : 4 ≤ d)  : ∀ (uu i : Nat), i + uu = h → am_R am_TX d k0 c_M_filled 4 [some (.ref 120), some (.int (nI (cnG f w i))), some (.int (nI i)), none] [] (mm σ) (am_Ok (some (.int (nI (cnG f w h)))) (fun σ1 => σ1 = σ)) := by
  have hv := hn.toV
  have hs := hn.2.1.2.1
  have hh1 := hv.1.1.1
  have hh6 := hv.1.1.2
  have hw1 := hv.1.2.1
  have hw6 := hv.1.2.2
  have hp6 := hn.2.1.2.2.2.1.1
  have hr6 := hn.2.1.2.2.2.2.2.2.1
  have hs7 := lw_lt hh6
  have ws7 := lw_lt hw6
  intro uu
  induction uu with
  | zero =>
    intro i hi
    obtain rfl : h = i := by omega
    skip
    refine R_iload_n rfl rfl ?_
    refine R_aload_n rfl rfl ?_
    refine R_cV (as := []) rfl rfl iv_M_rows (sp_rows hv) (by omega) rfl rfl rfl (by decide) rfl rfl (Nat.le_of_ble_eq_true rfl) (fun _ q => ?_)
    obtain rfl := q.symm
    refine R_nicmp_ge (x := h) (y := h) rfl rfl (by omega) (by omega) (fun g1 => ?_) (fun z => by omega)
    refine R_iload_n rfl rfl ?_
    exact T_ireturn rfl rfl (am_oki rfl rfl)
  | succ uu ih =>
    intro i hi
    have hc1 := @cnG_le f w i
    have hc3 : i * w ≤ 36 := Nat.le_trans (Nat.mul_le_mul (show i ≤ 6 by omega) hw6) (by decide)
    refine R_iload_n rfl rfl ?_
    refine R_aload_n rfl rfl ?_
    refine R_cV (as := []) rfl rfl iv_M_rows (sp_rows hv) (by omega) rfl rfl rfl (by decide) rfl rfl (Nat.le_of_ble_eq_true rfl) (fun _ q => ?_)
    obtain rfl := q.symm
    refine R_nicmp_ge (x := i) (y := h) rfl rfl (by omega) (by omega) (fun z => by omega) (fun g1 => ?_)
    refine R_iconst (v := 0) rfl rfl ?_
    refine R_istore_n rfl (by decide) ?_
    refine (lp_fil1 (k := i) hn (by omega) (by omega) ?_ w 0 (by omega)).weak ⟨rfl, rfl, rfl, rfl, trivial⟩
    refine R_iincN (x := i) (m := 1) rfl rfl rfl (by decide) ?_
    refine R_goto rfl rfl ?_
    have e := ih (i + 1) (by omega)
    exact e.weak ⟨rfl, rfl, rfl, trivial⟩
set_option maxRecDepth 100000 in
set_option maxHeartbeats 4000000 in
theorem sp_filled {σ : am_G} {h w rh pn : Nat} {f v rl : am_Gr} {I : Nat → Int32} (hn : nV σ h w f v rh rl pn I) : am_Call am_TX 4 0 c_M_filled [.ref 120] (mm σ) (am_Ok (some (.int (nI (cnG f w h)))) (fun σ1 => σ1 = σ)) := by
  have hv := hn.toV
  have hs := hn.2.1.2.1
  have hh1 := hv.1.1.1
  have hh6 := hv.1.1.2
  have hw1 := hv.1.2.1
  have hw6 := hv.1.2.2
  have hp6 := hn.2.1.2.2.2.1.1
  have hr6 := hn.2.1.2.2.2.2.2.2.1
  have hs7 := lw_lt hh6
  have ws7 := lw_lt hw6
  refine ⟨mf_M_filled, Nat.le_of_ble_eq_true rfl, ?_⟩
  refine R_iconst (v := 0) rfl rfl ?_
  refine R_istore_n rfl (by decide) ?_
  refine R_iconst (v := 0) rfl rfl ?_
  refine R_istore_n rfl (by decide) ?_
  exact (lp_fil0 hn (by omega) h 0 (by omega)).weak ⟨rfl, rfl, rfl, trivial⟩
set_option maxRecDepth 100000 in
set_option maxHeartbeats 4000000 in
theorem sp_M_count_0 {σ : am_G} {h w rh pn : Nat} {f v rl : am_Gr} {I : Nat → Int32} (hn : nV σ h w f v rh rl pn I) : am_Call am_TX 14 0 c_M_count [.ref 120, .int 0] (mm σ) (am_Ok (some (.int (nI h))) (fun σ1 => smP pQ σ σ1 ∧ σ1.1 120 0 = 0)) := by
  have hv := hn.toV
  have hs := hn.2.1.2.1
  have hh1 := hv.1.1.1
  have hh6 := hv.1.1.2
  have hw1 := hv.1.2.1
  have hw6 := hv.1.2.2
  have hp6 := hn.2.1.2.2.2.1.1
  have hr6 := hn.2.1.2.2.2.2.2.2.1
  have hs7 := lw_lt hh6
  have ws7 := lw_lt hw6
  have hrg : (0 : Int32) ≤ 0 ∧ (0 : Int32) ≤ 6 := by decide
  refine ⟨mf_M_count, Nat.le_of_ble_eq_true rfl, ?_⟩
  refine R_aload_n rfl rfl ?_
  refine R_iload_n rfl rfl ?_
  refine R_i2l rfl ?_
  refine R_lconst (v := 0) rfl rfl ?_
  refine R_ldc2 (v := 6) rfl (by decide) ?_
  refine R_cS (as := [.long ((0 : Int32).toInt64), .long 0, .long 6]) rfl rfl iv_M_in (in_1 (x := 0) (a := 0) (b := 6) hrg rfl rfl) (by omega) rfl rfl rfl rfl (Nat.le_of_ble_eq_true rfl) (fun _ q => ?_)
  obtain rfl := q.symm
  refine R_cV (as := [.int 1]) rfl rfl iv_M_passes (pass_1) (by omega) rfl rfl rfl (by decide) rfl rfl (Nat.le_of_ble_eq_true rfl) (fun _ q => ?_)
  obtain rfl := q.symm
  refine R_if_ne rfl rfl (fun _ => ?_) (fun z => absurd z (by decide))
  refine R_iload_n rfl rfl ?_
  refine R_tswIn (off := 37) (tgt := 56) rfl (by decide) (by decide) rfl rfl ?_
  refine R_aload_n rfl rfl ?_
  refine R_cV (as := []) rfl rfl iv_M_rows (sp_rows ((smP_sI (p := pQ) (k := 120) (j := 0) (x := 0) (by unfold pQ; omega)).mV hv (fun b => by unfold pQ; omega) (fun b => by unfold pQ; omega) (by unfold pQ; omega))) (by omega) rfl rfl rfl (by decide) rfl rfl (Nat.le_of_ble_eq_true rfl) (fun _ q => ?_)
  obtain rfl := q.symm
  exact T_ireturn rfl rfl (am_oki rfl ⟨(smP_sI (p := pQ) (k := 120) (j := 0) (x := 0) (by unfold pQ; omega)), sI_s⟩)
set_option maxRecDepth 100000 in
set_option maxHeartbeats 4000000 in
theorem sp_M_count_1 {σ : am_G} {h w rh pn : Nat} {f v rl : am_Gr} {I : Nat → Int32} (hn : nV σ h w f v rh rl pn I) : am_Call am_TX 14 0 c_M_count [.ref 120, .int 1] (mm σ) (am_Ok (some (.int (nI w))) (fun σ1 => smP pQ σ σ1 ∧ σ1.1 120 0 = 0)) := by
  have hv := hn.toV
  have hs := hn.2.1.2.1
  have hh1 := hv.1.1.1
  have hh6 := hv.1.1.2
  have hw1 := hv.1.2.1
  have hw6 := hv.1.2.2
  have hp6 := hn.2.1.2.2.2.1.1
  have hr6 := hn.2.1.2.2.2.2.2.2.1
  have hs7 := lw_lt hh6
  have ws7 := lw_lt hw6
  have hrg : (0 : Int32) ≤ 1 ∧ (1 : Int32) ≤ 6 := by decide
  refine ⟨mf_M_count, Nat.le_of_ble_eq_true rfl, ?_⟩
  refine R_aload_n rfl rfl ?_
  refine R_iload_n rfl rfl ?_
  refine R_i2l rfl ?_
  refine R_lconst (v := 0) rfl rfl ?_
  refine R_ldc2 (v := 6) rfl (by decide) ?_
  refine R_cS (as := [.long ((1 : Int32).toInt64), .long 0, .long 6]) rfl rfl iv_M_in (in_1 (x := 1) (a := 0) (b := 6) hrg rfl rfl) (by omega) rfl rfl rfl rfl (Nat.le_of_ble_eq_true rfl) (fun _ q => ?_)
  obtain rfl := q.symm
  refine R_cV (as := [.int 1]) rfl rfl iv_M_passes (pass_1) (by omega) rfl rfl rfl (by decide) rfl rfl (Nat.le_of_ble_eq_true rfl) (fun _ q => ?_)
  obtain rfl := q.symm
  refine R_if_ne rfl rfl (fun _ => ?_) (fun z => absurd z (by decide))
  refine R_iload_n rfl rfl ?_
  refine R_tswIn (off := 42) (tgt := 61) rfl (by decide) (by decide) rfl rfl ?_
  refine R_aload_n rfl rfl ?_
  refine R_cV (as := []) rfl rfl iv_M_columns (sp_columns ((smP_sI (p := pQ) (k := 120) (j := 0) (x := 0) (by unfold pQ; omega)).mV hv (fun b => by unfold pQ; omega) (fun b => by unfold pQ; omega) (by unfold pQ; omega))) (by omega) rfl rfl rfl (by decide) rfl rfl (Nat.le_of_ble_eq_true rfl) (fun _ q => ?_)
  obtain rfl := q.symm
  exact T_ireturn rfl rfl (am_oki rfl ⟨(smP_sI (p := pQ) (k := 120) (j := 0) (x := 0) (by unfold pQ; omega)), sI_s⟩)
set_option maxRecDepth 100000 in
set_option maxHeartbeats 4000000 in
theorem sp_M_count_2 {σ : am_G} {h w rh pn : Nat} {f v rl : am_Gr} {I : Nat → Int32} (hn : nV σ h w f v rh rl pn I) : am_Call am_TX 14 0 c_M_count [.ref 120, .int 2] (mm σ) (am_Ok (some (.int (nI pn))) (fun σ1 => smP pQ σ σ1 ∧ σ1.1 120 0 = 0)) := by
  have hv := hn.toV
  have hs := hn.2.1.2.1
  have hh1 := hv.1.1.1
  have hh6 := hv.1.1.2
  have hw1 := hv.1.2.1
  have hw6 := hv.1.2.2
  have hp6 := hn.2.1.2.2.2.1.1
  have hr6 := hn.2.1.2.2.2.2.2.2.1
  have hs7 := lw_lt hh6
  have ws7 := lw_lt hw6
  have hrg : (0 : Int32) ≤ 2 ∧ (2 : Int32) ≤ 6 := by decide
  refine ⟨mf_M_count, Nat.le_of_ble_eq_true rfl, ?_⟩
  refine R_aload_n rfl rfl ?_
  refine R_iload_n rfl rfl ?_
  refine R_i2l rfl ?_
  refine R_lconst (v := 0) rfl rfl ?_
  refine R_ldc2 (v := 6) rfl (by decide) ?_
  refine R_cS (as := [.long ((2 : Int32).toInt64), .long 0, .long 6]) rfl rfl iv_M_in (in_1 (x := 2) (a := 0) (b := 6) hrg rfl rfl) (by omega) rfl rfl rfl rfl (Nat.le_of_ble_eq_true rfl) (fun _ q => ?_)
  obtain rfl := q.symm
  refine R_cV (as := [.int 1]) rfl rfl iv_M_passes (pass_1) (by omega) rfl rfl rfl (by decide) rfl rfl (Nat.le_of_ble_eq_true rfl) (fun _ q => ?_)
  obtain rfl := q.symm
  refine R_if_ne rfl rfl (fun _ => ?_) (fun z => absurd z (by decide))
  refine R_iload_n rfl rfl ?_
  refine R_tswIn (off := 47) (tgt := 66) rfl (by decide) (by decide) rfl rfl ?_
  refine R_aload_n rfl rfl ?_
  refine R_iconst (v := 2) rfl rfl ?_
  refine R_cV (as := [.int 2]) rfl rfl iv_M_get (mget_x (hn.fr (smP_sI (p := pQ) (k := 120) (j := 0) (x := 0) (by unfold pQ; omega)) (fun b => by unfold pQ; omega) (by unfold pQ; omega)) (j := 2) (by omega) (hn.fr (smP_sI (p := pQ) (k := 120) (j := 0) (x := 0) (by unfold pQ; omega)) (fun b => by unfold pQ; omega) (by unfold pQ; omega)).1.2.1.1) (by omega) rfl rfl rfl (by decide) rfl rfl (Nat.le_of_ble_eq_true rfl) (fun _ q => ?_)
  obtain rfl := q.symm
  exact T_ireturn rfl rfl (am_oki rfl ⟨(smP_sI (p := pQ) (k := 120) (j := 0) (x := 0) (by unfold pQ; omega)), sI_s⟩)
set_option maxRecDepth 100000 in
set_option maxHeartbeats 4000000 in
theorem sp_M_count_3 {σ : am_G} {h w rh pn : Nat} {f v rl : am_Gr} {I : Nat → Int32} (hn : nV σ h w f v rh rl pn I) : am_Call am_TX 14 0 c_M_count [.ref 120, .int 3] (mm σ) (am_Ok (some (.int (nI (cnG f w h)))) (fun σ1 => smP pQ σ σ1 ∧ σ1.1 120 0 = 0)) := by
  have hv := hn.toV
  have hs := hn.2.1.2.1
  have hh1 := hv.1.1.1
  have hh6 := hv.1.1.2
  have hw1 := hv.1.2.1
  have hw6 := hv.1.2.2
  have hp6 := hn.2.1.2.2.2.1.1
  have hr6 := hn.2.1.2.2.2.2.2.2.1
  have hs7 := lw_lt hh6
  have ws7 := lw_lt hw6
  have hrg : (0 : Int32) ≤ 3 ∧ (3 : Int32) ≤ 6 := by decide
  refine ⟨mf_M_count, Nat.le_of_ble_eq_true rfl, ?_⟩
  refine R_aload_n rfl rfl ?_
  refine R_iload_n rfl rfl ?_
  refine R_i2l rfl ?_
  refine R_lconst (v := 0) rfl rfl ?_
  refine R_ldc2 (v := 6) rfl (by decide) ?_
  refine R_cS (as := [.long ((3 : Int32).toInt64), .long 0, .long 6]) rfl rfl iv_M_in (in_1 (x := 3) (a := 0) (b := 6) hrg rfl rfl) (by omega) rfl rfl rfl rfl (Nat.le_of_ble_eq_true rfl) (fun _ q => ?_)
  obtain rfl := q.symm
  refine R_cV (as := [.int 1]) rfl rfl iv_M_passes (pass_1) (by omega) rfl rfl rfl (by decide) rfl rfl (Nat.le_of_ble_eq_true rfl) (fun _ q => ?_)
  obtain rfl := q.symm
  refine R_if_ne rfl rfl (fun _ => ?_) (fun z => absurd z (by decide))
  refine R_iload_n rfl rfl ?_
  refine R_tswIn (off := 53) (tgt := 72) rfl (by decide) (by decide) rfl rfl ?_
  refine R_aload_n rfl rfl ?_
  refine R_cV (as := []) rfl rfl iv_M_filled (sp_filled (hn.fr (smP_sI (p := pQ) (k := 120) (j := 0) (x := 0) (by unfold pQ; omega)) (fun b => by unfold pQ; omega) (by unfold pQ; omega))) (by omega) rfl rfl rfl (by decide) rfl rfl (Nat.le_of_ble_eq_true rfl) (fun _ q => ?_)
  obtain rfl := q.symm
  exact T_ireturn rfl rfl (am_oki rfl ⟨(smP_sI (p := pQ) (k := 120) (j := 0) (x := 0) (by unfold pQ; omega)), sI_s⟩)
set_option maxRecDepth 100000 in
set_option maxHeartbeats 4000000 in
theorem sp_M_count_4 {σ : am_G} {h w rh pn : Nat} {f v rl : am_Gr} {I : Nat → Int32} (hn : nV σ h w f v rh rl pn I) : am_Call am_TX 14 0 c_M_count [.ref 120, .int 4] (mm σ) (am_Ok (some (.int (nI rh))) (fun σ1 => smP pQ σ σ1 ∧ σ1.1 120 0 = 0)) := by
  have hv := hn.toV
  have hs := hn.2.1.2.1
  have hh1 := hv.1.1.1
  have hh6 := hv.1.1.2
  have hw1 := hv.1.2.1
  have hw6 := hv.1.2.2
  have hp6 := hn.2.1.2.2.2.1.1
  have hr6 := hn.2.1.2.2.2.2.2.2.1
  have hs7 := lw_lt hh6
  have ws7 := lw_lt hw6
  have hrg : (0 : Int32) ≤ 4 ∧ (4 : Int32) ≤ 6 := by decide
  refine ⟨mf_M_count, Nat.le_of_ble_eq_true rfl, ?_⟩
  refine R_aload_n rfl rfl ?_
  refine R_iload_n rfl rfl ?_
  refine R_i2l rfl ?_
  refine R_lconst (v := 0) rfl rfl ?_
  refine R_ldc2 (v := 6) rfl (by decide) ?_
  refine R_cS (as := [.long ((4 : Int32).toInt64), .long 0, .long 6]) rfl rfl iv_M_in (in_1 (x := 4) (a := 0) (b := 6) hrg rfl rfl) (by omega) rfl rfl rfl rfl (Nat.le_of_ble_eq_true rfl) (fun _ q => ?_)
  obtain rfl := q.symm
  refine R_cV (as := [.int 1]) rfl rfl iv_M_passes (pass_1) (by omega) rfl rfl rfl (by decide) rfl rfl (Nat.le_of_ble_eq_true rfl) (fun _ q => ?_)
  obtain rfl := q.symm
  refine R_if_ne rfl rfl (fun _ => ?_) (fun z => absurd z (by decide))
  refine R_iload_n rfl rfl ?_
  refine R_tswIn (off := 58) (tgt := 77) rfl (by decide) (by decide) rfl rfl ?_
  refine R_aload_n rfl rfl ?_
  refine R_bipush (v := 13) rfl (by decide) ?_
  refine R_cV (as := [.int 13]) rfl rfl iv_M_get (mget_x (hn.fr (smP_sI (p := pQ) (k := 120) (j := 0) (x := 0) (by unfold pQ; omega)) (fun b => by unfold pQ; omega) (by unfold pQ; omega)) (j := 13) (by omega) (hn.fr (smP_sI (p := pQ) (k := 120) (j := 0) (x := 0) (by unfold pQ; omega)) (fun b => by unfold pQ; omega) (by unfold pQ; omega)).1.2.2.2.2.2.1) (by omega) rfl rfl rfl (by decide) rfl rfl (Nat.le_of_ble_eq_true rfl) (fun _ q => ?_)
  obtain rfl := q.symm
  exact T_ireturn rfl rfl (am_oki rfl ⟨(smP_sI (p := pQ) (k := 120) (j := 0) (x := 0) (by unfold pQ; omega)), sI_s⟩)
set_option maxRecDepth 100000 in
set_option maxHeartbeats 4000000 in
theorem sp_M_count_5 {σ : am_G} {h w rh pn : Nat} {f v rl : am_Gr} {I : Nat → Int32} (hn : nV σ h w f v rh rl pn I) : am_Call am_TX 14 0 c_M_count [.ref 120, .int 5] (mm σ) (am_Ok (some (.int (I 0))) (fun σ1 => smP pQ σ σ1 ∧ σ1.1 120 0 = 0)) := by
  have hv := hn.toV
  have hs := hn.2.1.2.1
  have hh1 := hv.1.1.1
  have hh6 := hv.1.1.2
  have hw1 := hv.1.2.1
  have hw6 := hv.1.2.2
  have hp6 := hn.2.1.2.2.2.1.1
  have hr6 := hn.2.1.2.2.2.2.2.2.1
  have hs7 := lw_lt hh6
  have ws7 := lw_lt hw6
  have hrg : (0 : Int32) ≤ 5 ∧ (5 : Int32) ≤ 6 := by decide
  refine ⟨mf_M_count, Nat.le_of_ble_eq_true rfl, ?_⟩
  refine R_aload_n rfl rfl ?_
  refine R_iload_n rfl rfl ?_
  refine R_i2l rfl ?_
  refine R_lconst (v := 0) rfl rfl ?_
  refine R_ldc2 (v := 6) rfl (by decide) ?_
  refine R_cS (as := [.long ((5 : Int32).toInt64), .long 0, .long 6]) rfl rfl iv_M_in (in_1 (x := 5) (a := 0) (b := 6) hrg rfl rfl) (by omega) rfl rfl rfl rfl (Nat.le_of_ble_eq_true rfl) (fun _ q => ?_)
  obtain rfl := q.symm
  refine R_cV (as := [.int 1]) rfl rfl iv_M_passes (pass_1) (by omega) rfl rfl rfl (by decide) rfl rfl (Nat.le_of_ble_eq_true rfl) (fun _ q => ?_)
  obtain rfl := q.symm
  refine R_if_ne rfl rfl (fun _ => ?_) (fun z => absurd z (by decide))
  refine R_iload_n rfl rfl ?_
  refine R_tswIn (off := 65) (tgt := 84) rfl (by decide) (by decide) rfl rfl ?_
  refine R_aload_n rfl rfl ?_
  refine R_bipush (v := 8) rfl (by decide) ?_
  refine R_cV (as := [.int 8]) rfl rfl iv_M_get (mget_y (j := 8) (hn.fr (smP_sI (p := pQ) (k := 120) (j := 0) (x := 0) (by unfold pQ; omega)) (fun b => by unfold pQ; omega) (by unfold pQ; omega)) (by omega) (hn.fr (smP_sI (p := pQ) (k := 120) (j := 0) (x := 0) (by unfold pQ; omega)) (fun b => by unfold pQ; omega) (by unfold pQ; omega)).1.2.2.2.1.1) (by omega) rfl rfl rfl (by decide) rfl rfl (Nat.le_of_ble_eq_true rfl) (fun _ q => ?_)
  obtain rfl := q.symm
  exact T_ireturn rfl rfl (am_oki rfl ⟨(smP_sI (p := pQ) (k := 120) (j := 0) (x := 0) (by unfold pQ; omega)), sI_s⟩)
set_option maxRecDepth 100000 in
set_option maxHeartbeats 4000000 in
theorem sp_M_count_6 {σ : am_G} {h w rh pn : Nat} {f v rl : am_Gr} {I : Nat → Int32} (hn : nV σ h w f v rh rl pn I) : am_Call am_TX 14 0 c_M_count [.ref 120, .int 6] (mm σ) (am_Ok (some (.int (I 1))) (fun σ1 => smP pQ σ σ1 ∧ σ1.1 120 0 = 0)) := by
  have hv := hn.toV
  have hs := hn.2.1.2.1
  have hh1 := hv.1.1.1
  have hh6 := hv.1.1.2
  have hw1 := hv.1.2.1
  have hw6 := hv.1.2.2
  have hp6 := hn.2.1.2.2.2.1.1
  have hr6 := hn.2.1.2.2.2.2.2.2.1
  have hs7 := lw_lt hh6
  have ws7 := lw_lt hw6
  have hrg : (0 : Int32) ≤ 6 ∧ (6 : Int32) ≤ 6 := by decide
  refine ⟨mf_M_count, Nat.le_of_ble_eq_true rfl, ?_⟩
  refine R_aload_n rfl rfl ?_
  refine R_iload_n rfl rfl ?_
  refine R_i2l rfl ?_
  refine R_lconst (v := 0) rfl rfl ?_
  refine R_ldc2 (v := 6) rfl (by decide) ?_
  refine R_cS (as := [.long ((6 : Int32).toInt64), .long 0, .long 6]) rfl rfl iv_M_in (in_1 (x := 6) (a := 0) (b := 6) hrg rfl rfl) (by omega) rfl rfl rfl rfl (Nat.le_of_ble_eq_true rfl) (fun _ q => ?_)
  obtain rfl := q.symm
  refine R_cV (as := [.int 1]) rfl rfl iv_M_passes (pass_1) (by omega) rfl rfl rfl (by decide) rfl rfl (Nat.le_of_ble_eq_true rfl) (fun _ q => ?_)
  obtain rfl := q.symm
  refine R_if_ne rfl rfl (fun _ => ?_) (fun z => absurd z (by decide))
  refine R_iload_n rfl rfl ?_
  refine R_tswOut (tgt := 91) rfl (by decide) rfl ?_
  refine R_aload_n rfl rfl ?_
  refine R_bipush (v := 9) rfl (by decide) ?_
  refine R_cV (as := [.int 9]) rfl rfl iv_M_get (mget_y (j := 9) (hn.fr (smP_sI (p := pQ) (k := 120) (j := 0) (x := 0) (by unfold pQ; omega)) (fun b => by unfold pQ; omega) (by unfold pQ; omega)) (by omega) (hn.fr (smP_sI (p := pQ) (k := 120) (j := 0) (x := 0) (by unfold pQ; omega)) (fun b => by unfold pQ; omega) (by unfold pQ; omega)).1.2.2.2.1.2) (by omega) rfl rfl rfl (by decide) rfl rfl (Nat.le_of_ble_eq_true rfl) (fun _ q => ?_)
  obtain rfl := q.symm
  exact T_ireturn rfl rfl (am_oki rfl ⟨(smP_sI (p := pQ) (k := 120) (j := 0) (x := 0) (by unfold pQ; omega)), sI_s⟩)
set_option maxRecDepth 100000 in
set_option maxHeartbeats 4000000 in
theorem sp_M_count_x0 {σ : am_G} {h w rh pn : Nat} {f v rl : am_Gr} {I : Nat → Int32} {x : Int32} (hn : nV σ h w f v rh rl pn I) (hb : ¬ (0 ≤ x ∧ x ≤ 6)) : am_Call am_TX 14 0 c_M_count [.ref 120, .int x] (mm σ) (am_Ok (some (.int 0)) (fun σ1 => smP pQ σ σ1 ∧ σ1.1 120 0 = 1)) := by
  have hv := hn.toV
  have hs := hn.2.1.2.1
  have hh1 := hv.1.1.1
  have hh6 := hv.1.1.2
  have hw1 := hv.1.2.1
  have hw6 := hv.1.2.2
  have hp6 := hn.2.1.2.2.2.1.1
  have hr6 := hn.2.1.2.2.2.2.2.2.1
  have hs7 := lw_lt hh6
  have ws7 := lw_lt hw6
  refine ⟨mf_M_count, Nat.le_of_ble_eq_true rfl, ?_⟩
  refine R_aload_n rfl rfl ?_
  refine R_iload_n rfl rfl ?_
  refine R_i2l rfl ?_
  refine R_lconst (v := 0) rfl rfl ?_
  refine R_ldc2 (v := 6) rfl (by decide) ?_
  refine R_cS (as := [.long x.toInt64, .long 0, .long 6]) rfl rfl iv_M_in (in_0 (x := x) (a := 0) (b := 6) hb rfl rfl) (by omega) rfl rfl rfl rfl (Nat.le_of_ble_eq_true rfl) (fun _ q => ?_)
  obtain rfl := q.symm
  refine R_cV (as := [.int 0]) rfl rfl iv_M_passes (pass_0) (by omega) rfl rfl rfl (by decide) rfl rfl (Nat.le_of_ble_eq_true rfl) (fun _ q => ?_)
  obtain rfl := q.symm
  refine R_if_ne rfl rfl (fun z => absurd z (by decide)) (fun _ => ?_)
  refine R_iconst (v := 0) rfl rfl ?_
  exact T_ireturn rfl rfl (am_oki rfl ⟨(smP_sI (p := pQ) (k := 120) (j := 0) (x := 1) (by unfold pQ; omega)), sI_s⟩)
