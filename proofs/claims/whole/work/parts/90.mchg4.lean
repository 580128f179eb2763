/-! ===== the model: dropRelation, transpose ===== -/
theorem drR_nV {σ τ : am_G} {h w rh pn k : Nat} {f v rl : am_Gr} {I : Nat → Int32} (hn : nV σ h w f v rh rl pn I) (hk : k < rh) (q : smP p121 σ τ) (e1 : ∀ j, (j < 62 + 6 * k ∧ j ≠ 13) → τ.2.1 121 j = σ.2.1 121 j) (e0 : τ.2.1 121 13 = (nI (rh - 1)).toInt64) (e2 : ∀ j, 6 * k ≤ j → j < 6 * (rh - 1) → τ.2.1 121 (62 + j) = σ.2.1 121 (68 + j)) : nV τ h w f v (rh - 1) (drL rl k h rh 0) pn I := by
  have hh6 := hn.2.1.1.1.2
  have k7 := hn.2.1.2.2.2.2.2.2
  have b := hn.1.2.2.2.2.2
  have c := hn.1.2.2.2.2.1
  have hr : ∀ q j, q < rh - 1 → j < h → drL rl k h rh 0 q j = if k ≤ q then rl (q + 1) j else rl q j := fun q j hq hj => by
    unfold drL
    by_cases a : k ≤ q
    · rw [if_pos a, if_pos (Or.inl ⟨a, by omega, hj⟩), if_pos (by omega)]
    · rw [if_neg a, if_neg (by omega)]
  refine ⟨nL_mk hn.2.1.2.2.2.1.1 hn.1 (fun j hj => e1 j (by omega)) (fun _ _ _ => rfl) ?_ e0 (fun j hj => (e1 _ (by omega)).trans (b.2.1 j hj)) (fun q j hq hj => ?_), okV_mk hn.2.1 (fun _ _ _ => rfl) hn.2.1.2.2.2.2.2.1 (by omega) k7.2.1 (fun q hq => ?_), q.2.trans hn.2.2.1, (q.1 120 4 (by unfold p121; omega)).1.trans hn.2.2.2⟩
  · rw [e1 10 (by omega), e1 11 (by omega), e1 12 (by omega)]; exact c
  · rw [hr q j hq hj]
    by_cases a : k ≤ q
    · rw [if_pos a]
      have z := e2 (6 * q + j) (by omega) (by omega)
      rw [← Nat.add_assoc, ← Nat.add_assoc] at z
      rw [z, ← b.2.2 (q + 1) j (by omega) hj]
      exact congrArg (σ.2.1 121) (by omega)
    · rw [if_neg a, e1 _ (by omega)]; exact b.2.2 q j (by omega) hj
  · by_cases a : k ≤ q
    · obtain ⟨j, hj, hz⟩ := k7.2.2 (q + 1) (by omega)
      exact ⟨j, hj, by rw [hr q j hq hj, if_pos a]; exact hz⟩
    · obtain ⟨j, hj, hz⟩ := k7.2.2 q (by omega)
      exact ⟨j, hj, by rw [hr q j hq hj, if_neg a]; exact hz⟩
set_option maxRecDepth 100000 in
set_option maxHeartbeats 4000000 in
theorem lp_mdr {σ : am_G} {h w rh pn : Nat} {f v rl : am_Gr} {I : Nat → Int32} {k : Nat} {d k0 : Nat} {Q : am_Res → Prop} (hn : nV σ h w f v rh rl pn I) (hk : k < rh) (hd : 2 ≤ d) (hx : ∀ (τ : am_G), (smP p121 σ τ ∧ 6 * k ≤ (6 * (rh - 1)) ∧ τ.2.1 121 13 = (nI (rh - 1)).toInt64 ∧ (∀ j, (j < 62 + 6 * k ∧ j ≠ 13) → τ.2.1 121 j = σ.2.1 121 j) ∧ (∀ j, 6 * k ≤ j → j < (6 * (rh - 1)) → τ.2.1 121 (62 + j) = σ.2.1 121 (68 + j)) ∧ ∀ j, (6 * (rh - 1)) ≤ j → τ.2.1 121 (62 + j) = σ.2.1 121 (62 + j)) → am_R am_TX d k0 c_M_dropRelation 71 [some (.ref 120), some (.int (nI k)), some (.int (nI (6 * (rh - 1))))] [] (mm τ) Q) : ∀ (uu i : Nat) (τ : am_G), i + uu = (6 * (rh - 1)) → (smP p121 σ τ ∧ 6 * k ≤ i ∧ τ.2.1 121 13 = (nI (rh - 1)).toInt64 ∧ (∀ j, (j < 62 + 6 * k ∧ j ≠ 13) → τ.2.1 121 j = σ.2.1 121 j) ∧ (∀ j, 6 * k ≤ j → j < i → τ.2.1 121 (62 + j) = σ.2.1 121 (68 + j)) ∧ ∀ j, i ≤ j → τ.2.1 121 (62 + j) = σ.2.1 121 (62 + j)) → am_R am_TX d k0 c_M_dropRelation 34 [some (.ref 120), some (.int (nI k)), some (.int (nI i))] [] (mm τ) Q := by
  have hr6 := hn.2.1.2.2.2.2.2.2.1
  intro uu
  induction uu with
  | zero =>
    intro i τ hi hI
    obtain rfl : (6 * (rh - 1)) = i := by omega
    skip
    refine R_iload_n rfl rfl ?_
    refine R_bipush (v := 6) rfl (by decide) ?_
    refine R_aload_n rfl rfl ?_
    refine R_bipush (v := 13) rfl (by decide) ?_
    refine R_cV (as := [.int 13]) rfl rfl iv_M_get (mgr (j := 13) (hI.1.2.trans hn.2.2.1) (by omega) hI.2.2.1) (by omega) rfl rfl rfl (by decide) rfl rfl (Nat.le_of_ble_eq_true rfl) (fun _ q => ?_)
    obtain rfl := q.symm
    refine R_imulN (x := 6) (y := (rh - 1)) rfl ?_
    refine R_nicmp_ge (x := (6 * (rh - 1))) (y := (6 * (rh - 1))) rfl rfl (by omega) (by omega) (fun g1 => ?_) (fun z => by omega)
    exact hx τ hI
  | succ uu ih =>
    intro i τ hi hI
    have hi6 := hI.2.1
    refine R_iload_n rfl rfl ?_
    refine R_bipush (v := 6) rfl (by decide) ?_
    refine R_aload_n rfl rfl ?_
    refine R_bipush (v := 13) rfl (by decide) ?_
    refine R_cV (as := [.int 13]) rfl rfl iv_M_get (mgr (j := 13) (hI.1.2.trans hn.2.2.1) (by omega) hI.2.2.1) (by omega) rfl rfl rfl (by decide) rfl rfl (Nat.le_of_ble_eq_true rfl) (fun _ q => ?_)
    obtain rfl := q.symm
    refine R_imulN (x := 6) (y := (rh - 1)) rfl ?_
    refine R_nicmp_ge (x := i) (y := (6 * (rh - 1))) rfl rfl (by omega) (by omega) (fun z => by omega) (fun g1 => ?_)
    refine R_aload_n rfl rfl ?_
    refine R_gP (x := 121) rfl rfl fp_11_1 rfl ?_
    refine R_bipush (v := 62) rfl (by decide) ?_
    refine R_iload_n rfl rfl ?_
    refine R_iaddN (x := 62) (y := i) rfl ?_
    refine R_aload_n rfl rfl ?_
    refine R_gP (x := 121) rfl rfl fp_11_1 rfl ?_
    refine R_bipush (v := 68) rfl (by decide) ?_
    refine R_iload_n rfl rfl ?_
    refine R_iaddN (x := 68) (y := i) rfl ?_
    refine R_xL (j := (68 + i)) rfl rfl rfl (by omega) (by decide) ?_
    refine R_wL (j := (62 + i)) rfl rfl rfl (by omega) (by decide) ?_
    refine R_iincN (x := i) (m := 1) rfl rfl rfl (by decide) ?_
    refine R_goto rfl rfl ?_
    refine (ih (i + 1) (sL τ 121 (62 + i) (τ.2.1 121 (68 + i))) (by omega) ⟨hI.1.trans (smP_sL (p := p121) rfl), by omega, ?_, fun j hj => ?_, fun j h1 h2 => ?_, fun j hj => ?_⟩).weak ⟨rfl, rfl, rfl, trivial⟩
    · rw [sL1, if_neg (by omega)]; exact hI.2.2.1
    · rw [sL1, if_neg (by omega)]; exact hI.2.2.2.1 j hj
    · rw [sL1]
      by_cases e : j = i
      · subst e
        rw [if_pos rfl]
        have z := hI.2.2.2.2.2 (j + 6) (by omega)
        rw [show 62 + (j + 6) = 68 + j by omega] at z; exact z
      · rw [if_neg (by omega)]; exact hI.2.2.2.2.1 j h1 (by omega)
    · rw [sL1, if_neg (by omega)]; exact hI.2.2.2.2.2 j (by omega)
theorem nI_64m {n : Nat} (h1 : 1 ≤ n) (h : n < 2 ^ 31 - 1) : (nI n).toInt64 - 1 = (nI (n - 1)).toInt64 := by
  have e := @nI_64s (n - 1) (by omega)
  rw [show n - 1 + 1 = n by omega] at e
  rw [← e]; exact Int64.add_sub_cancel _ _
set_option maxRecDepth 100000 in
set_option maxHeartbeats 4000000 in
theorem ch_dropRelation {σ : am_G} {h w rh pn : Nat} {f v rl : am_Gr} {I : Nat → Int32} {k : Nat} {d k0 : Nat} (hn : nV σ h w f v rh rl pn I) (k_r : k < rh) (t0 : σ.1 120 0 = 0) (hd : 15 ≤ d) : am_R am_TX d k0 c_M_dropRelation 18 [some (.ref 120), some (.int (nI k)), none] [] (mm σ) (am_Ok (some (.int (nI (rh - 1)))) (fun σ1 => smP pN σ σ1 ∧ σ1.1 120 0 = 0 ∧ nVD σ1 (h, w, f, v, (rh - 1), (drL rl k h rh 0), pn, I))) := by
  have hv := hn.toV
  have hs := hn.2.1.2.1
  have hh1 := hv.1.1.1
  have hh6 := hv.1.1.2
  have hw1 := hv.1.2.1
  have hw6 := hv.1.2.2
  have hp6 := hn.2.1.2.2.2.1.1
  have hr6 := hn.2.1.2.2.2.2.2.2.1
  have hs7 := lw_lt hh6
  have ws7 := lw_lt hw6
  refine R_aload_n rfl rfl ?_
  refine R_gP (x := 121) rfl rfl fp_11_1 rfl ?_
  refine R_bipush (v := 13) rfl (by decide) ?_
  refine R_dup2 rfl rfl rfl ?_
  refine R_xL (j := 13) rfl rfl rfl (by omega) (by decide) ?_
  refine R_lconst (v := 1) rfl rfl ?_
  refine R_lsub rfl ?_
  refine R_wL (j := 13) rfl rfl rfl (by omega) (by decide) ?_
  refine R_bipush (v := 6) rfl (by decide) ?_
  refine R_iload_n rfl rfl ?_
  refine R_imulN (x := 6) (y := k) rfl ?_
  refine R_istore_n rfl (by decide) ?_
  have e13 : σ.2.1 121 13 - 1 = (nI (rh - 1)).toInt64 := by rw [hn.1.2.2.2.2.2.1]; exact nI_64m (by omega) (by omega)
  refine (lp_mdr (k := k) hn k_r (by omega) (fun τ hτ => ?_) (6 * (rh - 1) - 6 * k) (6 * k) _ (by omega) ⟨smP_sL (p := p121) rfl, Nat.le_refl _, ?_, fun j hj => ?_, fun j h1 h2 => absurd h2 (by omega), fun j hj => ?_⟩).weak ⟨rfl, rfl, rfl, trivial⟩
  rotate_left
  · rw [sL1, if_pos rfl]; exact e13
  · rw [sL1, if_neg hj.2]
  · rw [sL1, if_neg (by omega)]
  have hn2 := drR_nV hn k_r hτ.1 hτ.2.2.2.1 hτ.2.2.1 hτ.2.2.2.2.1
  refine R_aload_n rfl rfl ?_
  refine R_bipush (v := 13) rfl (by decide) ?_
  refine R_cV (as := [.int 13]) rfl rfl iv_M_get (mgr (j := 13) hn2.2.2.1 (by omega) hn2.1.2.2.2.2.2.1) (by omega) rfl rfl rfl (by decide) rfl rfl (Nat.le_of_ble_eq_true rfl) (fun _ q => ?_)
  obtain rfl := q.symm
  exact T_ireturn rfl rfl (am_oki rfl ⟨hτ.1.mono pN_1, (hτ.1.i (by unfold p121; omega)).trans t0, hn2⟩)
set_option maxRecDepth 100000 in
set_option maxHeartbeats 4000000 in
theorem sp_M_dropRelation {σ : am_G} {h w rh pn : Nat} {f v rl : am_Gr} {I : Nat → Int32} {n : Nat} {Hs : Nat → am_Sn} {k : Nat} (hn : nV σ h w f v rh rl pn I) (hH : mH σ n Hs) (k_r : k < rh) : am_Call am_TX 16 0 c_M_dropRelation [.ref 120, .int (nI k)] (mm σ) (am_Ok (some (.int (nI (rh - 1)))) (fun σ1 => smP pC σ σ1 ∧ σ1.1 120 0 = 0 ∧ nVD σ1 (h, w, f, v, (rh - 1), (drL rl k h rh 0), pn, I) ∧ mH σ1 (nxZ n) (hC (h, w, f, v, rh, rl, pn, I) Hs))) := by
  have hv := hn.toV
  have hs := hn.2.1.2.1
  have hh1 := hv.1.1.1
  have hh6 := hv.1.1.2
  have hw1 := hv.1.2.1
  have hw6 := hv.1.2.2
  have hp6 := hn.2.1.2.2.2.1.1
  have hr6 := hn.2.1.2.2.2.2.2.2.1
  have hs7 := lw_lt hh6
  have ws7 := lw_lt hw6
  refine ⟨mf_M_dropRelation, Nat.le_of_ble_eq_true rfl, ?_⟩
  refine R_aload_n rfl rfl ?_
  refine R_aload_n rfl rfl ?_
  refine R_iload_n rfl rfl ?_
  refine R_cV (as := [.int (nI k)]) rfl rfl iv_M_isRelation (isRel_1 hn (k := k) (by omega)) (by omega) rfl rfl rfl (by decide) rfl rfl (Nat.le_of_ble_eq_true rfl) (fun _ q => ?_)
  obtain rfl := q.symm
  refine R_cV (as := [.int 1]) rfl rfl iv_M_passes (pass_1) (by omega) rfl rfl rfl (by decide) rfl rfl (Nat.le_of_ble_eq_true rfl) (fun _ q => ?_)
  obtain rfl := q.symm
  refine R_if_ne rfl rfl (fun _ => ?_) (fun z => absurd z (by decide))
  refine R_aload_n rfl rfl ?_
  refine R_cV (as := []) rfl rfl iv_M_remember (sp_remember (hn.fr (smP_sI (p := pQ) (k := 120) (j := 0) (x := 0) (by unfold pQ; omega)) (fun b => by unfold pQ; omega) (by unfold pQ; omega)) (hH.fr (smP_sI (p := pQ) (k := 120) (j := 0) (x := 0) (by unfold pQ; omega)) (by unfold pQ; omega) (fun b => by unfold pQ; omega))) (by omega) rfl rfl rfl (by decide) rfl rfl (Nat.le_of_ble_eq_true rfl) (fun ρ hρ => ?_)
  obtain ⟨hρ, hρH⟩ := hρ
  exact ((ch_dropRelation (pR_f hρ (hn.fr (smP_sI (p := pQ) (k := 120) (j := 0) (x := 0) (by unfold pQ; omega)) (fun b => by unfold pQ; omega) (by unfold pQ; omega))) k_r ((hρ.i (by unfold pR; omega)).trans sI_s) (by omega)).mono (am_Ok.mono (fun τ e => ⟨(ch_end (smP_sI (p := pQ) (k := 120) (j := 0) (x := 0) (by unfold pQ; omega)) hρ hρH e.1).1, e.2.1, e.2.2, (ch_end (smP_sI (p := pQ) (k := 120) (j := 0) (x := 0) (by unfold pQ; omega)) hρ hρH e.1).2⟩))).weak ⟨rfl, rfl, trivial⟩
set_option maxRecDepth 100000 in
set_option maxHeartbeats 4000000 in
theorem sp_M_dropRelation_x0 {σ : am_G} {h w rh pn : Nat} {f v rl : am_Gr} {I : Nat → Int32} {x : Int32} (hn : nV σ h w f v rh rl pn I) (hb : ¬ (0 ≤ x ∧ x < nI rh)) : am_Call am_TX 14 0 c_M_dropRelation [.ref 120, .int x] (mm σ) (am_Ok (some (.int 0)) (fun σ1 => smP pQ σ σ1 ∧ σ1.1 120 0 = 1)) := by
  have hv := hn.toV
  have hs := hn.2.1.2.1
  have hh1 := hv.1.1.1
  have hh6 := hv.1.1.2
  have hw1 := hv.1.2.1
  have hw6 := hv.1.2.2
  have hp6 := hn.2.1.2.2.2.1.1
  have hr6 := hn.2.1.2.2.2.2.2.2.1
  have hs7 := lw_lt hh6
  have ws7 := lw_lt hw6
  refine ⟨mf_M_dropRelation, Nat.le_of_ble_eq_true rfl, ?_⟩
  refine R_aload_n rfl rfl ?_
  refine R_aload_n rfl rfl ?_
  refine R_iload_n rfl rfl ?_
  refine R_cV (as := [.int x]) rfl rfl iv_M_isRelation (isRel_0 hn hb) (by omega) rfl rfl rfl (by decide) rfl rfl (Nat.le_of_ble_eq_true rfl) (fun _ q => ?_)
  obtain rfl := q.symm
  refine R_cV (as := [.int 0]) rfl rfl iv_M_passes (pass_0) (by omega) rfl rfl rfl (by decide) rfl rfl (Nat.le_of_ble_eq_true rfl) (fun _ q => ?_)
  obtain rfl := q.symm
  refine R_if_ne rfl rfl (fun z => absurd z (by decide)) (fun _ => ?_)
  refine R_iconst (v := 0) rfl rfl ?_
  exact T_ireturn rfl rfl (am_oki rfl ⟨(smP_sI (p := pQ) (k := 120) (j := 0) (x := 1) (by unfold pQ; omega)), sI_s⟩)
/-- transposed so far: whole rows up to r, of row r the first c -/
def tqF (f : am_Gr) (r c : Nat) : am_Gr := fun i j => if (i < r ∧ j < r) ∨ (i = r ∧ j < c) ∨ (j = r ∧ i < c) then f j i else f i j
theorem tqF_0 {f : am_Gr} : tqF f 0 0 = f := by
  funext i j; unfold tqF; rw [if_neg (by omega)]
theorem tqF_n {f : am_Gr} {r : Nat} : tqF f r r = tqF f (r + 1) 0 := by
  funext i j
  unfold tqF
  by_cases a : i = r ∧ j = r
  · obtain ⟨rfl, rfl⟩ := a
    rw [if_neg (by omega), if_pos (by omega)]
  · by_cases b : (i < r ∧ j < r) ∨ (i = r ∧ j < r) ∨ (j = r ∧ i < r)
    · rw [if_pos b, if_pos (by omega)]
    · rw [if_neg b, if_neg (by omega)]
theorem tqF_s {f : am_Gr} {r c : Nat} (h : c < r) : up2 (up2 (tqF f r c) r c (tqF f r c c r)) c r (tqF f r c r c) = tqF f r (c + 1) := by
  funext i j
  have e1 : tqF f r c c r = f c r := by unfold tqF; rw [if_neg (by omega)]
  have e2 : tqF f r c r c = f r c := by unfold tqF; rw [if_neg (by omega)]
  rw [e1, e2]
  unfold up2
  by_cases a : i = c ∧ j = r
  · rw [if_pos a, a.1, a.2]
    unfold tqF; rw [if_pos (by omega)]
  · rw [if_neg a]
    by_cases b : i = r ∧ j = c
    · rw [if_pos b, b.1, b.2]
      unfold tqF; rw [if_pos (by omega)]
    · rw [if_neg b]
      unfold tqF
      by_cases d : (i < r ∧ j < r) ∨ (i = r ∧ j < c) ∨ (j = r ∧ i < c)
      · rw [if_pos d, if_pos (by omega)]
      · rw [if_neg d, if_neg (by omega)]
set_option maxRecDepth 100000 in
set_option maxHeartbeats 4000000 in
theorem lp_mt1 {σ : am_G} {h w rh pn : Nat} {f v rl : am_Gr} {I : Nat → Int32} {r : Nat} {d k0 : Nat} {Q : am_Res → Prop} (hn : nV σ h w f v rh rl pn I) (hr : r < 6) (hd : 1 ≤ d) (hx : ∀ (τ : am_G), (smP p121 σ τ ∧ nL (τ.2.1 121) h w (tqF f r r) v rh rl pn I) → am_R am_TX d k0 c_M_transpose 52 [some (.ref 120), some (.int (nI r)), some (.int (nI r))] [] (mm τ) Q) : ∀ (uu i : Nat) (τ : am_G), i + uu = r → (smP p121 σ τ ∧ nL (τ.2.1 121) h w (tqF f r i) v rh rl pn I) → am_R am_TX d k0 c_M_transpose 19 [some (.ref 120), some (.int (nI r)), some (.int (nI i))] [] (mm τ) Q := by
  intro uu
  induction uu with
  | zero =>
    intro i τ hi hI
    obtain rfl : r = i := by omega
    refine R_iload_n rfl rfl ?_
    refine R_iload_n rfl rfl ?_
    refine R_nicmp_ge (x := r) (y := r) rfl rfl (by omega) (by omega) (fun g1 => ?_) (fun z => by omega)
    exact hx τ hI
  | succ uu ih =>
    intro i τ hi hI
    refine R_iload_n rfl rfl ?_
    refine R_iload_n rfl rfl ?_
    refine R_nicmp_ge (x := i) (y := r) rfl rfl (by omega) (by omega) (fun z => by omega) (fun g1 => ?_)
    refine R_aload_n rfl rfl ?_
    refine R_bipush (v := 14) rfl (by decide) ?_
    refine R_bipush (v := 6) rfl (by decide) ?_
    refine R_iload_n rfl rfl ?_
    refine R_imulN (x := 6) (y := r) rfl ?_
    refine R_iaddN (x := 14) (y := (6 * r)) rfl ?_
    refine R_iload_n rfl rfl ?_
    refine R_iaddN (x := (14 + (6 * r))) (y := i) rfl ?_
    refine R_bipush (v := 14) rfl (by decide) ?_
    refine R_bipush (v := 6) rfl (by decide) ?_
    refine R_iload_n rfl rfl ?_
    refine R_imulN (x := 6) (y := i) rfl ?_
    refine R_iaddN (x := 14) (y := (6 * i)) rfl ?_
    refine R_iload_n rfl rfl ?_
    refine R_iaddN (x := (14 + (6 * i))) (y := r) rfl ?_
    refine R_cV (as := [.int (nI ((14 + (6 * r)) + i)), .int (nI ((14 + (6 * i)) + r))]) rfl rfl iv_M_exchange (sp_exchange (a := ((14 + (6 * r)) + i)) (b := ((14 + (6 * i)) + r)) (by omega) (by omega)) (by omega) rfl rfl rfl (by decide) rfl rfl (Nat.le_of_ble_eq_true rfl) (fun _ q => ?_)
    obtain rfl := q.symm
    refine R_iincN (x := i) (m := 1) rfl rfl rfl (by decide) ?_
    refine R_goto rfl rfl ?_
    refine (ih (i + 1) (sL (sL τ 121 ((14 + (6 * r)) + i) (τ.2.1 121 ((14 + (6 * i)) + r))) 121 ((14 + (6 * i)) + r) (τ.2.1 121 ((14 + (6 * r)) + i))) (by omega) ⟨(hI.1.trans (smP_sL (p := p121) rfl)).trans (smP_sL (p := p121) rfl), ?_⟩).weak ⟨rfl, rfl, rfl, trivial⟩
    have z := nL_ex (i := r) (j := i) (a := i) (b := r) hI.2 (by omega) (by omega) (by omega) (by omega)
    rw [tqF_s (by omega)] at z
    exact z
set_option maxRecDepth 100000 in
set_option maxHeartbeats 4000000 in
theorem lp_mt0 {σ : am_G} {h w rh pn : Nat} {f v rl : am_Gr} {I : Nat → Int32} {d k0 : Nat} {Q : am_Res → Prop} (hn : nV σ h w f v rh rl pn I) (hd : 1 ≤ d) (hx : ∀ (τ : am_G), (smP p121 σ τ ∧ nL (τ.2.1 121) h w (tqF f 6 0) v rh rl pn I) → am_R am_TX d k0 c_M_transpose 58 [some (.ref 120), some (.int (nI 6)), none] [] (mm τ) Q) : ∀ (uu i : Nat) (τ : am_G), i + uu = 6 → (smP p121 σ τ ∧ nL (τ.2.1 121) h w (tqF f i 0) v rh rl pn I) → am_R am_TX d k0 c_M_transpose 11 [some (.ref 120), some (.int (nI i)), none] [] (mm τ) Q := by
  intro uu
  induction uu with
  | zero =>
    intro i τ hi hI
    obtain rfl : 6 = i := by omega
    refine R_iload_n rfl rfl ?_
    refine R_bipush (v := 6) rfl (by decide) ?_
    refine R_nicmp_ge (x := 6) (y := 6) rfl rfl (by omega) (by omega) (fun g1 => ?_) (fun z => by omega)
    exact hx τ hI
  | succ uu ih =>
    intro i τ hi hI
    refine R_iload_n rfl rfl ?_
    refine R_bipush (v := 6) rfl (by decide) ?_
    refine R_nicmp_ge (x := i) (y := 6) rfl rfl (by omega) (by omega) (fun z => by omega) (fun g1 => ?_)
    refine R_iconst (v := 0) rfl rfl ?_
    refine R_istore_n rfl (by decide) ?_
    refine (lp_mt1 (r := i) (σ := σ) hn (by omega) (by omega) (fun τ1 hτ1 => ?_) i 0 τ (by omega) hI).weak ⟨rfl, rfl, rfl, trivial⟩
    refine R_iincN (x := i) (m := 1) rfl rfl rfl (by decide) ?_
    refine R_goto rfl rfl ?_
    refine (ih (i + 1) τ1 (by omega) ⟨hτ1.1, by rw [← tqF_n]; exact hτ1.2⟩).weak ⟨rfl, rfl, trivial⟩
theorem tr_nV {σ τ ρ : am_G} {h w rh pn : Nat} {f v rl : am_Gr} {I : Nat → Int32} (hn : nV σ h w f v rh rl pn I) (q0 : smP p121 σ τ) (hL : nL (τ.2.1 121) h w (tqF f 6 0) v rh rl pn I) (q : smP p121 (sL (sL (sL (sL τ 121 0 (τ.2.1 121 1)) 121 1 (τ.2.1 121 0)) 121 10 0) 121 13 0) ρ) (e1 : ∀ k, (k < 56 ∨ 62 ≤ k) → ρ.2.1 121 k = (sL (sL (sL (sL τ 121 0 (τ.2.1 121 1)) 121 1 (τ.2.1 121 0)) 121 10 0) 121 13 0).2.1 121 k) (e2 : ∀ j, j < 6 → ρ.2.1 121 (56 + j) = 0) : nV ρ w h (tuF f h w 0) (fun _ _ => 0) 0 (fun _ _ => 0) pn (uJ (uJ I 2 (-1)) 3 (-1)) := by
  obtain ⟨⟨⟨a1, a2⟩, a3, a4⟩, k2, k3, ⟨k4, P, hP⟩, k5, -⟩ := id hn.2.1
  obtain ⟨⟨l1_, l2_, l3⟩, ⟨b1, b2⟩, c1, ⟨d1, d2⟩, -⟩ := hL
  have o : ∀ k, (k < 56 ∨ 62 ≤ k) → k ≠ 0 → k ≠ 1 → k ≠ 10 → k ≠ 13 → ρ.2.1 121 k = τ.2.1 121 k := fun k hk h0 h1 h2 h3 => by
    rw [e1 k hk, sL1, if_neg h3, sL1, if_neg h2, sL1, if_neg h1, sL1, if_neg h0]
  refine ⟨⟨⟨?_, ?_, fun i j hi hj => ?_⟩, ⟨(o 2 (by omega) (by omega) (by omega) (by omega) (by omega)).trans b1, fun j hj => ?_⟩, ?_, ⟨?_, ?_⟩, Or.inl ⟨rfl, ?_⟩, ?_, fun j hj => e2 j (by omega), fun k j hk => absurd hk (Nat.not_lt_zero _)⟩, ⟨⟨⟨a3, a4⟩, a1, a2⟩, tuF_sm k2, fun i j hi hj ho => ?_, ⟨k4, P, fun j hj => ?_⟩, ?_, Or.inl ⟨rfl, rfl⟩, Nat.zero_le _, fun j hj => rfl, fun k hk => absurd hk (Nat.not_lt_zero _)⟩, q.2.trans (q0.2.trans hn.2.2.1), ?_⟩
  · rw [e1 0 (by omega), sL1, if_neg (by omega), sL1, if_neg (by omega), sL1, if_neg (by omega), sL1, if_pos rfl]; exact l2_
  · rw [e1 1 (by omega), sL1, if_neg (by omega), sL1, if_neg (by omega), sL1, if_pos rfl]; exact l1_
  · rw [o _ (by omega) (by omega) (by omega) (by omega) (by omega), l3 i j hi hj]
    unfold tqF tuF
    rw [if_pos (by omega)]
    by_cases c : i < w ∧ j < h
    · rw [if_pos (Or.inl c)]
    · rw [if_neg (by omega)]; exact k3 j i hj hi (by omega)
  · rw [uJ_23 _ (by omega) (by omega)]; exact (o _ (by omega) (by omega) (by omega) (by omega) (by omega)).trans (b2 j hj)
  · rw [uJ_23 4 (by omega) (by omega)]
    rcases c1 with ⟨y, z⟩ | ⟨y, z, t⟩
    · exact Or.inl ⟨y, (o 3 (by omega) (by omega) (by omega) (by omega) (by omega)).trans z⟩
    · exact Or.inr ⟨y, (o 3 (by omega) (by omega) (by omega) (by omega) (by omega)).trans z, fun j hj => by rw [uJ_23 _ (by omega) (by omega)]; exact (o _ (by omega) (by omega) (by omega) (by omega) (by omega)).trans (t j hj)⟩
  · rw [o 8 (by omega) (by omega) (by omega) (by omega) (by omega), uJ_23 0 (by omega) (by omega)]; exact d1
  · rw [o 9 (by omega) (by omega) (by omega) (by omega) (by omega), uJ_23 1 (by omega) (by omega)]; exact d2
  · rw [e1 10 (by omega), sL1, if_neg (by omega), sL1, if_pos rfl]
  · rw [e1 13 (by omega), sL1, if_pos rfl]; rfl
  · unfold tuF; rw [if_neg (by omega)]
  · rw [uJ_23 _ (by omega) (by omega)]; exact hP j hj
  · rcases k5 with z | ⟨g, z1, z2⟩
    · exact Or.inl (fun j hj => by rw [uJ_23 _ (by omega) (by omega)]; exact z j hj)
    · exact Or.inr ⟨g, z1, by rw [uJ_23 _ (by omega) (by omega)]; exact z2⟩
  · exact (q.1 120 4 (by unfold p121; omega)).1.trans ((q0.1 120 4 (by unfold p121; omega)).1.trans hn.2.2.2)
set_option maxRecDepth 100000 in
set_option maxHeartbeats 4000000 in
theorem ch_transpose {σ : am_G} {h w rh pn : Nat} {f v rl : am_Gr} {I : Nat → Int32} {d k0 : Nat} (hn : nV σ h w f v rh rl pn I) (t0 : σ.1 120 0 = 0) (hd : 15 ≤ d) : am_R am_TX d k0 c_M_transpose 9 [some (.ref 120), none, none] [] (mm σ) (am_Ok (some (.int (nI w))) (fun σ1 => smP pN σ σ1 ∧ σ1.1 120 0 = 0 ∧ nVD σ1 (w, h, (tuF f h w 0), (fun _ _ => 0), 0, (fun _ _ => 0), pn, (uJ (uJ I 2 (-1)) 3 (-1))))) := by
  have hv := hn.toV
  have hs := hn.2.1.2.1
  have hh1 := hv.1.1.1
  have hh6 := hv.1.1.2
  have hw1 := hv.1.2.1
  have hw6 := hv.1.2.2
  have hp6 := hn.2.1.2.2.2.1.1
  have hr6 := hn.2.1.2.2.2.2.2.2.1
  have hs7 := lw_lt hh6
  have ws7 := lw_lt hw6
  refine R_iconst (v := 0) rfl rfl ?_
  refine R_istore_n rfl (by decide) ?_
  refine (lp_mt0 (σ := σ) hn (by omega) (fun τ hτ => ?_) 6 0 σ (by omega) ⟨smP.refl, by rw [tqF_0]; exact hn.1⟩).weak ⟨rfl, rfl, trivial⟩
  refine R_aload_n rfl rfl ?_
  refine R_iconst (v := 0) rfl rfl ?_
  refine R_iconst (v := 1) rfl rfl ?_
  refine R_cV (as := [.int 0, .int 1]) rfl rfl iv_M_exchange (sp_exchange (a := 0) (b := 1) (by omega) (by omega)) (by omega) rfl rfl rfl (by decide) rfl rfl (Nat.le_of_ble_eq_true rfl) (fun _ q => ?_)
  obtain rfl := q.symm
  refine R_aload_n rfl rfl ?_
  refine R_cV (as := []) rfl rfl iv_M_forgetCertificate (sp_mforget) (by omega) rfl rfl rfl (by decide) rfl rfl (Nat.le_of_ble_eq_true rfl) (fun _ q => ?_)
  obtain rfl := q.symm
  refine R_aload_n rfl rfl ?_
  refine R_cV (as := []) rfl rfl iv_M_clearVector (sp_clearVector) (by omega) rfl rfl rfl (by decide) rfl rfl (Nat.le_of_ble_eq_true rfl) (fun τc hτc => ?_)
  obtain ⟨q1, q2, q3⟩ := hτc
  have hn2 := tr_nV hn hτ.1 hτ.2 q1 q2 q3
  refine R_aload_n rfl rfl ?_
  refine R_cV (as := []) rfl rfl iv_M_rows (sp_rows hn2.toV) (by omega) rfl rfl rfl (by decide) rfl rfl (Nat.le_of_ble_eq_true rfl) (fun _ q => ?_)
  obtain rfl := q.symm
  exact T_ireturn rfl rfl (am_oki rfl ⟨((hτ.1.mono pN_1).trans (((smP_sL (p := pN) (Or.inr (Or.inl rfl))).trans (smP_sL (p := pN) (Or.inr (Or.inl rfl)))).trans ((smP_sL (p := pN) (Or.inr (Or.inl rfl))).trans (smP_sL (p := pN) (Or.inr (Or.inl rfl)))))).trans (q1.mono pN_1), (q1.i (by unfold p121; omega)).trans ((hτ.1.i (by unfold p121; omega)).trans t0), hn2⟩)
set_option maxRecDepth 100000 in
set_option maxHeartbeats 4000000 in
theorem sp_M_transpose {σ : am_G} {h w rh pn : Nat} {f v rl : am_Gr} {I : Nat → Int32} {n : Nat} {Hs : Nat → am_Sn} (hn : nV σ h w f v rh rl pn I) (hH : mH σ n Hs) : am_Call am_TX 16 0 c_M_transpose [.ref 120] (mm σ) (am_Ok (some (.int (nI w))) (fun σ1 => smP pC σ σ1 ∧ σ1.1 120 0 = 0 ∧ nVD σ1 (w, h, (tuF f h w 0), (fun _ _ => 0), 0, (fun _ _ => 0), pn, (uJ (uJ I 2 (-1)) 3 (-1))) ∧ mH σ1 (nxZ n) (hC (h, w, f, v, rh, rl, pn, I) Hs))) := by
  have hv := hn.toV
  have hs := hn.2.1.2.1
  have hh1 := hv.1.1.1
  have hh6 := hv.1.1.2
  have hw1 := hv.1.2.1
  have hw6 := hv.1.2.2
  have hp6 := hn.2.1.2.2.2.1.1
  have hr6 := hn.2.1.2.2.2.2.2.2.1
  have hs7 := lw_lt hh6
  have ws7 := lw_lt hw6
  refine ⟨mf_M_transpose, Nat.le_of_ble_eq_true rfl, ?_⟩
  refine R_aload_n rfl rfl ?_
  refine R_iconst (v := 0) rfl rfl ?_
  refine R_pI rfl rfl fw_11_0 rfl ?_
  refine R_aload_n rfl rfl ?_
  refine R_cV (as := []) rfl rfl iv_M_remember (sp_remember (hn.fr (smP_sI (p := pQ) (k := 120) (j := 0) (x := 0) (by unfold pQ; omega)) (fun b => by unfold pQ; omega) (by unfold pQ; omega)) (hH.fr (smP_sI (p := pQ) (k := 120) (j := 0) (x := 0) (by unfold pQ; omega)) (by unfold pQ; omega) (fun b => by unfold pQ; omega))) (by omega) rfl rfl rfl (by decide) rfl rfl (Nat.le_of_ble_eq_true rfl) (fun ρ hρ => ?_)
  obtain ⟨hρ, hρH⟩ := hρ
  exact ((ch_transpose (pR_f hρ (hn.fr (smP_sI (p := pQ) (k := 120) (j := 0) (x := 0) (by unfold pQ; omega)) (fun b => by unfold pQ; omega) (by unfold pQ; omega)))  ((hρ.i (by unfold pR; omega)).trans sI_s) (by omega)).mono (am_Ok.mono (fun τ e => ⟨(ch_end (smP_sI (p := pQ) (k := 120) (j := 0) (x := 0) (by unfold pQ; omega)) hρ hρH e.1).1, e.2.1, e.2.2, (ch_end (smP_sI (p := pQ) (k := 120) (j := 0) (x := 0) (by unfold pQ; omega)) hρ hρH e.1).2⟩))).weak ⟨rfl, trivial⟩
