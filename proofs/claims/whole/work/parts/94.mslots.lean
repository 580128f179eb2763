/-! ===== the model: slots, undo ===== -/
/-- a slot of the model tells a desk -/
def slM (σ : am_G) (s : Nat) (D : am_Sn) : Prop := σ.1 129 s = 1 ∧ nLD (fun k => σ.2.1 128 (98 * s + k)) D ∧ okD D
theorem slM.fr {P : Nat → Nat → Prop} {σ σ1 : am_G} (q : smP P σ σ1) {s : Nat} {D : am_Sn} (h : slM σ s D) (h1 : ¬ P 129 s) (h2 : ∀ k, k < 98 → ¬ P 128 (98 * s + k)) : slM σ1 s D :=
  ⟨(q.i h1).trans h.1, nLD_cg h.2.2 h.2.1 (fun k hk => (q.1 128 _ (h2 k hk)).2), h.2.2⟩
def pKm (s a b : Nat) : Prop := pQ a b ∨ (a = 129 ∧ b = s) ∨ (a = 128 ∧ 98 * s ≤ b ∧ b < 98 * s + 98)
def p128 (s a b : Nat) : Prop := a = 128 ∧ 98 * s ≤ b ∧ b < 98 * s + 98
theorem isSlot_1 {σ : am_G} {k : Nat} (hk : k < 2) : am_Call am_TX 1 0 c_M_isSlot [.int (nI k)] (mm σ) (am_Ok (some (.int 1)) (fun σ1 => σ1 = σ)) := by
  have e : (0 : Int32) ≤ nI k ∧ nI k ≤ 1 := rg_n (k := 1) (by omega) (by omega)
  refine ⟨mf_M_isSlot, Nat.le_of_ble_eq_true rfl, ?_⟩
  refine R_iload_n rfl rfl ?_
  refine R_i2l rfl ?_
  refine R_lconst (v := 0) rfl rfl ?_
  refine R_lconst (v := 1) rfl rfl ?_
  refine R_cS (as := [.long (nI k).toInt64, .long 0, .long 1]) rfl rfl iv_M_in (in_1 (a := 0) (b := 1) e rfl rfl) (by omega) rfl rfl rfl rfl (Nat.le_of_ble_eq_true rfl) (fun _ q => ?_)
  obtain rfl := q.symm
  exact T_zreturn rfl rfl rfl (am_oki rfl rfl)
theorem isSlot_0 {σ : am_G} {x : Int32} (hb : ¬ (0 ≤ x ∧ x < 2)) : am_Call am_TX 1 0 c_M_isSlot [.int x] (mm σ) (am_Ok (some (.int 0)) (fun σ1 => σ1 = σ)) := by
  have e : ¬ ((0 : Int32) ≤ x ∧ x ≤ 1) := fun z => hb ⟨z.1, by
    have h := z.2
    rw [Int32.le_iff_toInt_le] at h
    rw [Int32.lt_iff_toInt_lt]
    exact Int.lt_of_le_of_lt h (by decide)⟩
  refine ⟨mf_M_isSlot, Nat.le_of_ble_eq_true rfl, ?_⟩
  refine R_iload_n rfl rfl ?_
  refine R_i2l rfl ?_
  refine R_lconst (v := 0) rfl rfl ?_
  refine R_lconst (v := 1) rfl rfl ?_
  refine R_cS (as := [.long x.toInt64, .long 0, .long 1]) rfl rfl iv_M_in (in_0 (a := 0) (b := 1) e rfl rfl) (by omega) rfl rfl rfl rfl (Nat.le_of_ble_eq_true rfl) (fun _ q => ?_)
  obtain rfl := q.symm
  exact T_zreturn rfl rfl rfl (am_oki rfl rfl)
set_option maxRecDepth 100000 in
set_option maxHeartbeats 4000000 in
theorem lp_mke {σ : am_G} {r : Nat} {d k0 : Nat} {Q : am_Res → Prop} (hr : r < 2) (hd : 0 ≤ d) (hx : ∀ (τ : am_G), (smP (p128 r) σ τ ∧ ∀ j, j < 98 → τ.2.1 128 (98 * r + j) = σ.2.1 121 j) → am_R am_TX d k0 c_M_keep 44 [some (.ref 120), some (.int (nI r)), some (.int (nI 98))] [] (mm τ) Q) : ∀ (uu i : Nat) (τ : am_G), i + uu = 98 → (smP (p128 r) σ τ ∧ ∀ j, j < i → τ.2.1 128 (98 * r + j) = σ.2.1 121 j) → am_R am_TX d k0 c_M_keep 15 [some (.ref 120), some (.int (nI r)), some (.int (nI i))] [] (mm τ) Q := by
  intro uu
  induction uu with
  | zero =>
    intro i τ hi hI
    obtain rfl : 98 = i := by omega
    refine R_iload_n rfl rfl ?_
    refine R_bipush (v := 98) rfl (by decide) ?_
    refine R_nicmp_ge (x := 98) (y := 98) rfl rfl (by omega) (by omega) (fun g1 => ?_) (fun z => by omega)
    exact hx τ hI
  | succ uu ih =>
    intro i τ hi hI
    refine R_iload_n rfl rfl ?_
    refine R_bipush (v := 98) rfl (by decide) ?_
    refine R_nicmp_ge (x := i) (y := 98) rfl rfl (by omega) (by omega) (fun z => by omega) (fun g1 => ?_)
    refine R_aload_n rfl rfl ?_
    refine R_gP (x := 128) rfl rfl fp_11_22 rfl ?_
    refine R_bipush (v := 98) rfl (by decide) ?_
    refine R_iload_n rfl rfl ?_
    refine R_imulN (x := 98) (y := r) rfl ?_
    refine R_iload_n rfl rfl ?_
    refine R_iaddN (x := (98 * r)) (y := i) rfl ?_
    refine R_aload_n rfl rfl ?_
    refine R_gP (x := 121) rfl rfl fp_11_1 rfl ?_
    refine R_iload_n rfl rfl ?_
    refine R_xL (j := i) rfl rfl rfl (by omega) (by decide) ?_
    refine R_wL (j := ((98 * r) + i)) rfl rfl rfl (by omega) (by decide) ?_
    refine R_iincN (x := i) (m := 1) rfl rfl rfl (by decide) ?_
    refine R_goto rfl rfl ?_
    refine (ih (i + 1) (sL τ 128 ((98 * r) + i) (τ.2.1 121 i)) (by omega) ⟨hI.1.trans (smP_sL (p := p128 r) (by unfold p128; omega)), fun j hj => ?_⟩).weak ⟨rfl, rfl, rfl, trivial⟩
    by_cases e : j = i
    · subst e; rw [sL_s]; exact (hI.1.1 121 _ (by unfold p128; omega)).2
    · rw [sL_o (Or.inr (by omega))]; exact hI.2 j (by omega)
set_option maxRecDepth 100000 in
set_option maxHeartbeats 4000000 in
theorem sp_M_keep {σ : am_G} {h w rh pn : Nat} {f v rl : am_Gr} {I : Nat → Int32} {r : Nat} (hn : nV σ h w f v rh rl pn I) (r_s : r < 2) : am_Call am_TX 14 0 c_M_keep [.ref 120, .int (nI r)] (mm σ) (am_Ok (some (.int (nI (rkO f 0 (2 ^ h - 1) (2 ^ w - 1) h w)))) (fun σ1 => smP (pKm r) σ σ1 ∧ σ1.1 120 0 = 0 ∧ slM σ1 r (h, w, f, v, rh, rl, pn, I))) := by
  have hv := hn.toV
  have hs := hn.2.1.2.1
  have hh1 := hv.1.1.1
  have hh6 := hv.1.1.2
  have hw1 := hv.1.2.1
  have hw6 := hv.1.2.2
  have hp6 := hn.2.1.2.2.2.1.1
  have hr6 := hn.2.1.2.2.2.2.2.2.1
  have hs7 := lw_lt hh6
  have ws7 := lw_lt hw6
  refine ⟨mf_M_keep, Nat.le_of_ble_eq_true rfl, ?_⟩
  refine R_aload_n rfl rfl ?_
  refine R_iload_n rfl rfl ?_
  refine R_cS (as := [.int (nI r)]) rfl rfl iv_M_isSlot (isSlot_1 (k := r) (by omega)) (by omega) rfl rfl rfl rfl (Nat.le_of_ble_eq_true rfl) (fun _ q => ?_)
  obtain rfl := q.symm
  refine R_cV (as := [.int 1]) rfl rfl iv_M_passes (pass_1) (by omega) rfl rfl rfl (by decide) rfl rfl (Nat.le_of_ble_eq_true rfl) (fun _ q => ?_)
  obtain rfl := q.symm
  refine R_if_ne rfl rfl (fun _ => ?_) (fun z => absurd z (by decide))
  refine R_iconst (v := 0) rfl rfl ?_
  refine R_istore_n rfl (by decide) ?_
  refine (lp_mke (σ := (sI σ 120 0 0)) (r := r) (by omega) (by omega) (fun τ hτ => ?_) 98 0 _ (by omega) ⟨smP.refl, fun j hj => absurd hj (Nat.not_lt_zero _)⟩).weak ⟨rfl, rfl, rfl, trivial⟩
  have hq : smP (pKm r) σ τ := ((smP_sI (p := pQ) (k := 120) (j := 0) (x := 0) (by unfold pQ; omega)).mono (fun a b z => Or.inl z)).trans (hτ.1.mono (fun a b z => Or.inr (Or.inr z)))
  have hnt : nV (sI τ 129 r (vp_nar .boolean 1)) h w f v rh rl pn I := ((hn.fr (smP_sI (p := pQ) (k := 120) (j := 0) (x := 0) (by unfold pQ; omega)) (fun b => by unfold pQ; omega) (by unfold pQ; omega)).fr hτ.1 (fun b => by unfold p128; omega) (by unfold p128; omega)).fr (smP_sI (p := fun a b => a = 129) rfl) (fun b => by omega) (by omega)
  refine R_aload_n rfl rfl ?_
  refine R_gP (x := 129) rfl rfl fp_11_23 rfl ?_
  refine R_iload_n rfl rfl ?_
  refine R_iconst (v := 1) rfl rfl ?_
  refine R_wZ (j := r) rfl rfl rfl (by omega) (by decide) ?_
  refine R_aload_n rfl rfl ?_
  refine R_iconst (v := 0) rfl rfl ?_
  refine R_cV (as := [.int 0]) rfl rfl iv_M_rankAll (sp_rankAll (m := 0) hnt.toV hs (by omega)) (by omega) rfl rfl rfl (by decide) rfl rfl (Nat.le_of_ble_eq_true rfl) (fun ρ9 hρ9 => ?_)
  have hs1 : slM (sI τ 129 r (vp_nar .boolean 1)) r (h, w, f, v, rh, rl, pn, I) := ⟨sI_s, nLD_cg hn.2.1 hn.1 (fun k hk => hτ.2 k hk), hn.2.1⟩
  exact T_ireturn rfl rfl (am_oki rfl ⟨(hq.trans (smP_sI (p := pKm r) (Or.inr (Or.inl ⟨rfl, rfl⟩)))).trans (hρ9.mono (fun a b z => Or.inl (pQ_W a b z))), (hρ9.i (by unfold pW; omega)).trans ((hτ.1.i (by unfold p128; omega)).trans sI_s), hs1.fr hρ9 (by unfold pW; omega) (fun k _ => by unfold pW; omega)⟩)
set_option maxRecDepth 100000 in
set_option maxHeartbeats 4000000 in
theorem sp_M_keep_x0 {σ : am_G} {h w rh pn : Nat} {f v rl : am_Gr} {I : Nat → Int32} {x : Int32} (hn : nV σ h w f v rh rl pn I) (hb : ¬ (0 ≤ x ∧ x < 2)) : am_Call am_TX 14 0 c_M_keep [.ref 120, .int x] (mm σ) (am_Ok (some (.int 0)) (fun σ1 => smP pQ σ σ1 ∧ σ1.1 120 0 = 1)) := by
  have hv := hn.toV
  have hs := hn.2.1.2.1
  have hh1 := hv.1.1.1
  have hh6 := hv.1.1.2
  have hw1 := hv.1.2.1
  have hw6 := hv.1.2.2
  have hp6 := hn.2.1.2.2.2.1.1
  have hr6 := hn.2.1.2.2.2.2.2.2.1
  have hs7 := lw_lt hh6
  have ws7 := lw_lt hw6
  refine ⟨mf_M_keep, Nat.le_of_ble_eq_true rfl, ?_⟩
  refine R_aload_n rfl rfl ?_
  refine R_iload_n rfl rfl ?_
  refine R_cS (as := [.int x]) rfl rfl iv_M_isSlot (isSlot_0 hb) (by omega) rfl rfl rfl rfl (Nat.le_of_ble_eq_true rfl) (fun _ q => ?_)
  obtain rfl := q.symm
  refine R_cV (as := [.int 0]) rfl rfl iv_M_passes (pass_0) (by omega) rfl rfl rfl (by decide) rfl rfl (Nat.le_of_ble_eq_true rfl) (fun _ q => ?_)
  obtain rfl := q.symm
  refine R_if_ne rfl rfl (fun z => absurd z (by decide)) (fun _ => ?_)
  refine R_iconst (v := 0) rfl rfl ?_
  exact T_ireturn rfl rfl (am_oki rfl ⟨(smP_sI (p := pQ) (k := 120) (j := 0) (x := 1) (by unfold pQ; omega)), sI_s⟩)
set_option maxRecDepth 100000 in
set_option maxHeartbeats 4000000 in
theorem lp_mrs {σ : am_G} {r : Nat} {d k0 : Nat} {Q : am_Res → Prop} (hr : r < 2) (hd : 0 ≤ d) (hx : ∀ (τ : am_G), (smP p121 σ τ ∧ ∀ j, j < 98 → τ.2.1 121 j = σ.2.1 128 (98 * r + j)) → am_R am_TX d k0 c_M_restore 69 [some (.ref 120), some (.int (nI r)), some (.int (nI 98))] [] (mm τ) Q) : ∀ (uu i : Nat) (τ : am_G), i + uu = 98 → (smP p121 σ τ ∧ ∀ j, j < i → τ.2.1 121 j = σ.2.1 128 (98 * r + j)) → am_R am_TX d k0 c_M_restore 40 [some (.ref 120), some (.int (nI r)), some (.int (nI i))] [] (mm τ) Q := by
  intro uu
  induction uu with
  | zero =>
    intro i τ hi hI
    obtain rfl : 98 = i := by omega
    refine R_iload_n rfl rfl ?_
    refine R_bipush (v := 98) rfl (by decide) ?_
    refine R_nicmp_ge (x := 98) (y := 98) rfl rfl (by omega) (by omega) (fun g1 => ?_) (fun z => by omega)
    exact hx τ hI
  | succ uu ih =>
    intro i τ hi hI
    refine R_iload_n rfl rfl ?_
    refine R_bipush (v := 98) rfl (by decide) ?_
    refine R_nicmp_ge (x := i) (y := 98) rfl rfl (by omega) (by omega) (fun z => by omega) (fun g1 => ?_)
    refine R_aload_n rfl rfl ?_
    refine R_gP (x := 121) rfl rfl fp_11_1 rfl ?_
    refine R_iload_n rfl rfl ?_
    refine R_aload_n rfl rfl ?_
    refine R_gP (x := 128) rfl rfl fp_11_22 rfl ?_
    refine R_bipush (v := 98) rfl (by decide) ?_
    refine R_iload_n rfl rfl ?_
    refine R_imulN (x := 98) (y := r) rfl ?_
    refine R_iload_n rfl rfl ?_
    refine R_iaddN (x := (98 * r)) (y := i) rfl ?_
    refine R_xL (j := ((98 * r) + i)) rfl rfl rfl (by omega) (by decide) ?_
    refine R_wL (j := i) rfl rfl rfl (by omega) (by decide) ?_
    refine R_iincN (x := i) (m := 1) rfl rfl rfl (by decide) ?_
    refine R_goto rfl rfl ?_
    refine (ih (i + 1) (sL τ 121 i (τ.2.1 128 ((98 * r) + i))) (by omega) ⟨hI.1.trans (smP_sL (p := p121) rfl), fun j hj => ?_⟩).weak ⟨rfl, rfl, rfl, trivial⟩
    by_cases e : j = i
    · subst e; rw [sL_s]; exact (hI.1.1 128 _ (by unfold p121; omega)).2
    · rw [sL_o (Or.inr e)]; exact hI.2 j (by omega)
set_option maxRecDepth 100000 in
set_option maxHeartbeats 4000000 in
theorem ch_restore {σ : am_G} {h w rh pn : Nat} {f v rl : am_Gr} {I : Nat → Int32} {D2 : am_Sn} {r : Nat} {d k0 : Nat} (hn : nV σ h w f v rh rl pn I) (r_s : r < 2) (hk : slM σ r D2) (t0 : σ.1 120 0 = 0) (hd : 15 ≤ d) : am_R am_TX d k0 c_M_restore 38 [some (.ref 120), some (.int (nI r)), none] [] (mm σ) (am_Ok (some (.int (nI (rkO D2.2.2.1 0 (2 ^ D2.1 - 1) (2 ^ D2.2.1 - 1) D2.1 D2.2.1)))) (fun σ1 => smP pN σ σ1 ∧ σ1.1 120 0 = 0 ∧ nVD σ1 D2)) := by
  have hv := hn.toV
  have hs := hn.2.1.2.1
  have hh1 := hv.1.1.1
  have hh6 := hv.1.1.2
  have hw1 := hv.1.2.1
  have hw6 := hv.1.2.2
  have hp6 := hn.2.1.2.2.2.1.1
  have hr6 := hn.2.1.2.2.2.2.2.2.1
  have hs7 := lw_lt hh6
  have ws7 := lw_lt hw6
  refine R_iconst (v := 0) rfl rfl ?_
  refine R_istore_n rfl (by decide) ?_
  refine (lp_mrs (σ := σ) (r := r) (by omega) (by omega) (fun τ hτ => ?_) 98 0 _ (by omega) ⟨smP.refl, fun j hj => absurd hj (Nat.not_lt_zero _)⟩).weak ⟨rfl, rfl, rfl, trivial⟩
  have hn2 : nVD τ D2 := ⟨nLD_cg hk.2.2 hk.2.1 (fun k hk => hτ.2 k hk), hk.2.2, hτ.1.2.trans hn.2.2.1, (hτ.1.i (by unfold p121; omega)).trans hn.2.2.2⟩
  refine R_aload_n rfl rfl ?_
  refine R_iconst (v := 0) rfl rfl ?_
  refine R_cV (as := [.int 0]) rfl rfl iv_M_rankAll (sp_rankAll (m := 0) hn2.toV hn2.2.1.2.1 (by omega)) (by omega) rfl rfl rfl (by decide) rfl rfl (Nat.le_of_ble_eq_true rfl) (fun ρ9 hρ9 => ?_)
  exact T_ireturn rfl rfl (am_oki rfl (ch_rk (hτ.1.mono pN_1) ((hτ.1.i (by unfold p121; omega)).trans t0) hn2 hρ9))
set_option maxRecDepth 100000 in
set_option maxHeartbeats 4000000 in
theorem sp_M_restore {σ : am_G} {h w rh pn : Nat} {f v rl : am_Gr} {I : Nat → Int32} {n : Nat} {Hs : Nat → am_Sn} {r : Nat} {D2 : am_Sn} (hn : nV σ h w f v rh rl pn I) (hH : mH σ n Hs) (r_s : r < 2) (hk : slM σ r D2) : am_Call am_TX 16 0 c_M_restore [.ref 120, .int (nI r)] (mm σ) (am_Ok (some (.int (nI (rkO D2.2.2.1 0 (2 ^ D2.1 - 1) (2 ^ D2.2.1 - 1) D2.1 D2.2.1)))) (fun σ1 => smP pC σ σ1 ∧ σ1.1 120 0 = 0 ∧ nVD σ1 D2 ∧ mH σ1 (nxZ n) (hC (h, w, f, v, rh, rl, pn, I) Hs))) := by
  have hv := hn.toV
  have hs := hn.2.1.2.1
  have hh1 := hv.1.1.1
  have hh6 := hv.1.1.2
  have hw1 := hv.1.2.1
  have hw6 := hv.1.2.2
  have hp6 := hn.2.1.2.2.2.1.1
  have hr6 := hn.2.1.2.2.2.2.2.2.1
  have hs7 := lw_lt hh6
  have ws7 := lw_lt hw6
  refine ⟨mf_M_restore, Nat.le_of_ble_eq_true rfl, ?_⟩
  refine R_aload_n rfl rfl ?_
  refine R_iload_n rfl rfl ?_
  refine R_cS (as := [.int (nI r)]) rfl rfl iv_M_isSlot (isSlot_1 (k := r) (by omega)) (by omega) rfl rfl rfl rfl (Nat.le_of_ble_eq_true rfl) (fun _ q => ?_)
  obtain rfl := q.symm
  refine R_iload_n rfl rfl ?_
  refine R_cS (as := [.int (nI r)]) rfl rfl iv_M_isSlot (isSlot_1 (k := r) (by omega)) (by omega) rfl rfl rfl rfl (Nat.le_of_ble_eq_true rfl) (fun _ q => ?_)
  obtain rfl := q.symm
  refine R_if_eq rfl rfl (fun z => absurd z (by decide)) (fun _ => ?_)
  refine R_aload_n rfl rfl ?_
  refine R_gP (x := 129) rfl rfl fp_11_23 rfl ?_
  refine R_iload_n rfl rfl ?_
  refine R_xZ (j := r) rfl rfl rfl (by omega) (by decide) ?_
  rw [hk.1]
  refine R_if_eq rfl rfl (fun z => absurd z (by decide)) (fun _ => ?_)
  refine R_iconst (v := 1) rfl rfl ?_
  refine R_goto rfl rfl ?_
  refine R_cV (as := [.int 1, .int 1]) rfl rfl iv_M_passes2 (pass2_11) (by omega) rfl rfl rfl (by decide) rfl rfl (Nat.le_of_ble_eq_true rfl) (fun _ q => ?_)
  obtain rfl := q.symm
  refine R_if_ne rfl rfl (fun _ => ?_) (fun z => absurd z (by decide))
  refine R_aload_n rfl rfl ?_
  refine R_cV (as := []) rfl rfl iv_M_remember (sp_remember (hn.fr (smP_sI (p := pQ) (k := 120) (j := 0) (x := 0) (by unfold pQ; omega)) (fun b => by unfold pQ; omega) (by unfold pQ; omega)) (hH.fr (smP_sI (p := pQ) (k := 120) (j := 0) (x := 0) (by unfold pQ; omega)) (by unfold pQ; omega) (fun b => by unfold pQ; omega))) (by omega) rfl rfl rfl (by decide) rfl rfl (Nat.le_of_ble_eq_true rfl) (fun ρ hρ => ?_)
  obtain ⟨hρ, hρH⟩ := hρ
  exact ((ch_restore (pR_f hρ (hn.fr (smP_sI (p := pQ) (k := 120) (j := 0) (x := 0) (by unfold pQ; omega)) (fun b => by unfold pQ; omega) (by unfold pQ; omega))) r_s ((hk.fr (smP_sI (p := pQ) (k := 120) (j := 0) (x := 0) (by unfold pQ; omega)) (by unfold pQ; omega) (fun k _ => by unfold pQ; omega)).fr hρ (by unfold pR; omega) (fun k _ => by unfold pR; omega)) ((hρ.i (by unfold pR; omega)).trans sI_s) (by omega)).mono (am_Ok.mono (fun τ e => ⟨(ch_end (smP_sI (p := pQ) (k := 120) (j := 0) (x := 0) (by unfold pQ; omega)) hρ hρH e.1).1, e.2.1, e.2.2, (ch_end (smP_sI (p := pQ) (k := 120) (j := 0) (x := 0) (by unfold pQ; omega)) hρ hρH e.1).2⟩))).weak ⟨rfl, rfl, trivial⟩
set_option maxRecDepth 100000 in
set_option maxHeartbeats 4000000 in
theorem sp_M_restore_x {σ : am_G} {h w rh pn : Nat} {f v rl : am_Gr} {I : Nat → Int32} {r : Nat} (hn : nV σ h w f v rh rl pn I) (r_s : r < 2) (hk : σ.1 129 r = 0) : am_Call am_TX 14 0 c_M_restore [.ref 120, .int (nI r)] (mm σ) (am_Ok (some (.int 0)) (fun σ1 => smP pQ σ σ1 ∧ σ1.1 120 0 = 2)) := by
  have hv := hn.toV
  have hs := hn.2.1.2.1
  have hh1 := hv.1.1.1
  have hh6 := hv.1.1.2
  have hw1 := hv.1.2.1
  have hw6 := hv.1.2.2
  have hp6 := hn.2.1.2.2.2.1.1
  have hr6 := hn.2.1.2.2.2.2.2.2.1
  have hs7 := lw_lt hh6
  have ws7 := lw_lt hw6
  refine ⟨mf_M_restore, Nat.le_of_ble_eq_true rfl, ?_⟩
  refine R_aload_n rfl rfl ?_
  refine R_iload_n rfl rfl ?_
  refine R_cS (as := [.int (nI r)]) rfl rfl iv_M_isSlot (isSlot_1 (k := r) (by omega)) (by omega) rfl rfl rfl rfl (Nat.le_of_ble_eq_true rfl) (fun _ q => ?_)
  obtain rfl := q.symm
  refine R_iload_n rfl rfl ?_
  refine R_cS (as := [.int (nI r)]) rfl rfl iv_M_isSlot (isSlot_1 (k := r) (by omega)) (by omega) rfl rfl rfl rfl (Nat.le_of_ble_eq_true rfl) (fun _ q => ?_)
  obtain rfl := q.symm
  refine R_if_eq rfl rfl (fun z => absurd z (by decide)) (fun _ => ?_)
  refine R_aload_n rfl rfl ?_
  refine R_gP (x := 129) rfl rfl fp_11_23 rfl ?_
  refine R_iload_n rfl rfl ?_
  refine R_xZ (j := r) rfl rfl rfl (by omega) (by decide) ?_
  rw [hk]
  refine R_if_eq rfl rfl (fun _ => ?_) (fun z => absurd z (by decide))
  refine R_iconst (v := 0) rfl rfl ?_
  refine R_cV (as := [.int 1, .int 0]) rfl rfl iv_M_passes2 (pass2_10) (by omega) rfl rfl rfl (by decide) rfl rfl (Nat.le_of_ble_eq_true rfl) (fun _ q => ?_)
  obtain rfl := q.symm
  refine R_if_ne rfl rfl (fun z => absurd z (by decide)) (fun _ => ?_)
  refine R_iconst (v := 0) rfl rfl ?_
  exact T_ireturn rfl rfl (am_oki rfl ⟨(smP_sI (p := pQ) (k := 120) (j := 0) (x := 2) (by unfold pQ; omega)), sI_s⟩)
set_option maxRecDepth 100000 in
set_option maxHeartbeats 4000000 in
theorem sp_M_restore_x0 {σ : am_G} {h w rh pn : Nat} {f v rl : am_Gr} {I : Nat → Int32} {x : Int32} (hn : nV σ h w f v rh rl pn I) (hb : ¬ (0 ≤ x ∧ x < 2)) : am_Call am_TX 14 0 c_M_restore [.ref 120, .int x] (mm σ) (am_Ok (some (.int 0)) (fun σ1 => smP pQ σ σ1 ∧ σ1.1 120 0 = 1)) := by
  have hv := hn.toV
  have hs := hn.2.1.2.1
  have hh1 := hv.1.1.1
  have hh6 := hv.1.1.2
  have hw1 := hv.1.2.1
  have hw6 := hv.1.2.2
  have hp6 := hn.2.1.2.2.2.1.1
  have hr6 := hn.2.1.2.2.2.2.2.2.1
  have hs7 := lw_lt hh6
  have ws7 := lw_lt hw6
  refine ⟨mf_M_restore, Nat.le_of_ble_eq_true rfl, ?_⟩
  refine R_aload_n rfl rfl ?_
  refine R_iload_n rfl rfl ?_
  refine R_cS (as := [.int x]) rfl rfl iv_M_isSlot (isSlot_0 hb) (by omega) rfl rfl rfl rfl (Nat.le_of_ble_eq_true rfl) (fun _ q => ?_)
  obtain rfl := q.symm
  refine R_iload_n rfl rfl ?_
  refine R_cS (as := [.int x]) rfl rfl iv_M_isSlot (isSlot_0 hb) (by omega) rfl rfl rfl rfl (Nat.le_of_ble_eq_true rfl) (fun _ q => ?_)
  obtain rfl := q.symm
  refine R_if_eq rfl rfl (fun _ => ?_) (fun z => absurd z (by decide))
  refine R_iconst (v := 1) rfl rfl ?_
  refine R_goto rfl rfl ?_
  refine R_cV (as := [.int 0, .int 1]) rfl rfl iv_M_passes2 (pass2_01) (by omega) rfl rfl rfl (by decide) rfl rfl (Nat.le_of_ble_eq_true rfl) (fun _ q => ?_)
  obtain rfl := q.symm
  refine R_if_ne rfl rfl (fun z => absurd z (by decide)) (fun _ => ?_)
  refine R_iconst (v := 0) rfl rfl ?_
  exact T_ireturn rfl rfl (am_oki rfl ⟨(smP_sI (p := pQ) (k := 120) (j := 0) (x := 1) (by unfold pQ; omega)), sI_s⟩)
set_option maxRecDepth 100000 in
set_option maxHeartbeats 4000000 in
theorem lp_mud {σ : am_G} {n : Nat} {d k0 : Nat} {Q : am_Res → Prop} (h25 : σ.1 120 25 = nI n) (hn6 : n < 6) (hd : 0 ≤ d) (hx : ∀ (τ : am_G), (smP p121 σ τ ∧ ∀ j, j < 98 → τ.2.1 121 j = σ.2.1 130 (98 * n + j)) → am_R am_TX d k0 c_M_undo 65 [some (.ref 120), some (.int (nI 98))] [] (mm τ) Q) : ∀ (uu i : Nat) (τ : am_G), i + uu = 98 → (smP p121 σ τ ∧ ∀ j, j < i → τ.2.1 121 j = σ.2.1 130 (98 * n + j)) → am_R am_TX d k0 c_M_undo 33 [some (.ref 120), some (.int (nI i))] [] (mm τ) Q := by
  intro uu
  induction uu with
  | zero =>
    intro i τ hi hI
    obtain rfl : 98 = i := by omega
    refine R_iload_n rfl rfl ?_
    refine R_bipush (v := 98) rfl (by decide) ?_
    refine R_nicmp_ge (x := 98) (y := 98) rfl rfl (by omega) (by omega) (fun g1 => ?_) (fun z => by omega)
    exact hx τ hI
  | succ uu ih =>
    intro i τ hi hI
    refine R_iload_n rfl rfl ?_
    refine R_bipush (v := 98) rfl (by decide) ?_
    refine R_nicmp_ge (x := i) (y := 98) rfl rfl (by omega) (by omega) (fun z => by omega) (fun g1 => ?_)
    refine R_aload_n rfl rfl ?_
    refine R_gP (x := 121) rfl rfl fp_11_1 rfl ?_
    refine R_iload_n rfl rfl ?_
    refine R_aload_n rfl rfl ?_
    refine R_gP (x := 130) rfl rfl fp_11_24 rfl ?_
    refine R_bipush (v := 98) rfl (by decide) ?_
    refine R_aload_n rfl rfl ?_
    refine R_gIN (n := n) rfl rfl fd_11_25 ((hI.1.i (by unfold p121; omega)).trans h25) ?_
    refine R_imulN (x := 98) (y := n) rfl ?_
    refine R_iload_n rfl rfl ?_
    refine R_iaddN (x := (98 * n)) (y := i) rfl ?_
    refine R_xL (j := ((98 * n) + i)) rfl rfl rfl (by omega) (by decide) ?_
    refine R_wL (j := i) rfl rfl rfl (by omega) (by decide) ?_
    refine R_iincN (x := i) (m := 1) rfl rfl rfl (by decide) ?_
    refine R_goto rfl rfl ?_
    refine (ih (i + 1) (sL τ 121 i (τ.2.1 130 ((98 * n) + i))) (by omega) ⟨hI.1.trans (smP_sL (p := p121) rfl), fun j hj => ?_⟩).weak ⟨rfl, rfl, trivial⟩
    by_cases e : j = i
    · subst e; rw [sL_s]; exact (hI.1.1 130 _ (by unfold p121; omega)).2
    · rw [sL_o (Or.inr e)]; exact hI.2 j (by omega)
set_option maxRecDepth 100000 in
set_option maxHeartbeats 4000000 in
theorem sp_M_undo {σ : am_G} {h w rh pn : Nat} {f v rl : am_Gr} {I : Nat → Int32} {n : Nat} {Hs : Nat → am_Sn} (hn : nV σ h w f v rh rl pn I) (hH : mH σ (n + 1) Hs) : am_Call am_TX 3 0 c_M_undo [.ref 120] (mm σ) (am_Ok (some (.int (nI n))) (fun σ1 => smP pC σ σ1 ∧ σ1.1 120 0 = 0 ∧ nVD σ1 (Hs 0) ∧ mH σ1 n (fun i => Hs (i + 1)))) := by
  have hn6 := hH.2.1
  refine ⟨mf_M_undo, Nat.le_of_ble_eq_true rfl, ?_⟩
  refine R_aload_n rfl rfl ?_
  refine R_aload_n rfl rfl ?_
  refine R_gIN (n := (n + 1)) rfl rfl fd_11_25 hH.1 ?_
  refine R_nif_le (x := (n + 1)) rfl rfl (by omega) (fun z => by omega) (fun g1 => ?_)
  refine R_iconst (v := 1) rfl rfl ?_
  refine R_goto rfl rfl ?_
  refine R_cV (as := [.int 1]) rfl rfl iv_M_passes (pass_1) (by omega) rfl rfl rfl (by decide) rfl rfl (Nat.le_of_ble_eq_true rfl) (fun _ q => ?_)
  obtain rfl := q.symm
  refine R_if_ne rfl rfl (fun _ => ?_) (fun z => absurd z (by decide))
  refine R_aload_n rfl rfl ?_
  refine R_dup rfl rfl ?_
  refine R_gIN (n := (n + 1)) rfl rfl fd_11_25 ((sI_o (Or.inr (by decide))).trans hH.1) ?_
  refine R_iconst (v := 1) rfl rfl ?_
  refine R_isubN (x := n + 1) (y := 1) rfl (by omega) ?_
  rw [show n + 1 - 1 = n from rfl]
  refine R_pI rfl rfl fw_11_25 rfl ?_
  refine R_iconst (v := 0) rfl rfl ?_
  refine R_istore_n rfl (by decide) ?_
  refine (lp_mud (σ := (sI (sI σ 120 0 0) 120 25 (nI n))) (n := n) sI_s (by omega) (by omega) (fun τ hτ => ?_) 98 0 _ (by omega) ⟨smP.refl, fun j hj => absurd hj (Nat.not_lt_zero _)⟩).weak ⟨rfl, rfl, trivial⟩
  refine R_aload_n rfl rfl ?_
  refine R_gIN (n := n) rfl rfl fd_11_25 ((hτ.1.i (by unfold p121; omega)).trans sI_s) ?_
  have h0 := hH.2.2 0 (by omega)
  have q5 : smP pC σ (sI (sI σ 120 0 0) 120 25 (nI n)) := (smP_sI (p := pC) (Or.inl (Or.inl ⟨rfl, Or.inl rfl⟩))).trans (smP_sI (p := pC) (Or.inr (Or.inl ⟨rfl, rfl⟩)))
  have e2 : ∀ k, k < 98 → τ.2.1 121 k = σ.2.1 130 (98 * (n + 1 - 1 - 0) + k) := fun k hk => hτ.2 k hk
  refine T_ireturn rfl rfl (am_oki rfl ⟨q5.trans (hτ.1.mono (fun a b z => Or.inr (Or.inr (Or.inl z)))), (hτ.1.i (by unfold p121; omega)).trans ((sI_o (Or.inr (by decide))).trans sI_s), ⟨nLD_cg h0.2 h0.1 e2, h0.2, hτ.1.2.trans hn.2.2.1, (hτ.1.i (by unfold p121; omega)).trans ((sI_o (Or.inr (by decide))).trans ((sI_o (Or.inr (by decide))).trans hn.2.2.2))⟩, (hτ.1.i (by unfold p121; omega)).trans sI_s, by omega, fun i hi => ?_⟩)
  have hi2 := hH.2.2 (i + 1) (by omega)
  refine ⟨nLD_cg hi2.2 hi2.1 (fun k hk => ?_), hi2.2⟩
  show τ.2.1 130 (98 * (n - 1 - i) + k) = σ.2.1 130 (98 * (n + 1 - 1 - (i + 1)) + k)
  rw [(hτ.1.1 130 _ (by unfold p121; omega)).2, show n + 1 - 1 - (i + 1) = n - 1 - i by omega]
  rfl
set_option maxRecDepth 100000 in
set_option maxHeartbeats 4000000 in
theorem sp_M_undo_x {σ : am_G} {h w rh pn : Nat} {f v rl : am_Gr} {I : Nat → Int32} {Hs : Nat → am_Sn} (hn : nV σ h w f v rh rl pn I) (hH : mH σ 0 Hs) : am_Call am_TX 3 0 c_M_undo [.ref 120] (mm σ) (am_Ok (some (.int 0)) (fun σ1 => smP pQ σ σ1 ∧ σ1.1 120 0 = 1)) := by
  refine ⟨mf_M_undo, Nat.le_of_ble_eq_true rfl, ?_⟩
  refine R_aload_n rfl rfl ?_
  refine R_aload_n rfl rfl ?_
  refine R_gIN (n := 0) rfl rfl fd_11_25 hH.1 ?_
  refine R_nif_le (x := 0) rfl rfl (by omega) (fun g1 => ?_) (fun z => by omega)
  refine R_iconst (v := 0) rfl rfl ?_
  refine R_cV (as := [.int 0]) rfl rfl iv_M_passes (pass_0) (by omega) rfl rfl rfl (by decide) rfl rfl (Nat.le_of_ble_eq_true rfl) (fun _ q => ?_)
  obtain rfl := q.symm
  refine R_if_ne rfl rfl (fun z => absurd z (by decide)) (fun _ => ?_)
  refine R_iconst (v := 0) rfl rfl ?_
  exact T_ireturn rfl rfl (am_oki rfl ⟨(smP_sI (p := pQ) (k := 120) (j := 0) (x := 1) (by unfold pQ; omega)), sI_s⟩)
