/-! ===== the model: vectors, claims, relations given ===== -/
theorem nL_mk {L L' : Nat → Int64} {h w rh rh' pn : Nat} {f v v' rl rl' : am_Gr} {I I' : Nat → Int32} (hp : pn ≤ 6) (hL : nL L h w f v rh rl pn I) (e : ∀ k, (k < 10 ∨ (14 ≤ k ∧ k < 56)) → L' k = L k) (hI : ∀ j, j ≠ 2 → j ≠ 3 → I' j = I j)
    (hc : (I' 2 = -1 ∧ L' 10 = 0) ∨ (I' 2 ≠ -1 ∧ L' 10 = 1 ∧ L' 11 = (I' 2).toInt64 ∧ L' 12 = (I' 3).toInt64)) (h13 : L' 13 = (nI rh').toInt64) (hv : ∀ j, j < h → L' (56 + j) = v' 0 j) (hr : ∀ k j, k < rh' → j < h → L' (62 + 6 * k + j) = rl' k j) : nL L' h w f v' rh' rl' pn I' := by
  obtain ⟨⟨a1, a2, a3⟩, ⟨b1, b2⟩, c1, ⟨d1, d2⟩, e1, f1, g1, i1⟩ := hL
  refine ⟨⟨(e 0 (by omega)).trans a1, (e 1 (by omega)).trans a2, fun i j hi hj => (e _ (by omega)).trans (a3 i j hi hj)⟩, ⟨(e 2 (by omega)).trans b1, fun j hj => ?_⟩, ?_, ⟨?_, ?_⟩, hc, h13, hv, hr⟩
  · rw [hI _ (by omega) (by omega)]; exact (e _ (by omega)).trans (b2 j hj)
  · rw [hI 4 (by omega) (by omega)]
    rcases c1 with ⟨y, z⟩ | ⟨y, z, t⟩
    · exact Or.inl ⟨y, (e 3 (by omega)).trans z⟩
    · exact Or.inr ⟨y, (e 3 (by omega)).trans z, fun j hj => by rw [hI _ (by omega) (by omega)]; exact (e _ (by omega)).trans (t j hj)⟩
  · rw [e 8 (by omega), hI 0 (by omega) (by omega)]; exact d1
  · rw [e 9 (by omega), hI 1 (by omega) (by omega)]; exact d2
theorem okV_mk {h w rh rh' pn : Nat} {f v v' rl rl' : am_Gr} {I I' : Nat → Int32} (hk : okV h w f v rh rl pn I) (hI : ∀ j, j ≠ 2 → j ≠ 3 → I' j = I j) (hc : (I' 2 = -1 ∧ I' 3 = -1) ∨ ∃ S T, I' 2 = nI S ∧ I' 3 = nI T ∧ S < 2 ^ h ∧ T < 2 ^ w ∧ pc S = pc T) (h6 : rh' ≤ 6) (hv : ∀ j, j < h → v' 0 j = (v' 0 j).toInt32.toInt64) (hr : ∀ k, k < rh' → ∃ j, j < h ∧ rl' k j ≠ 0) : okV h w f v' rh' rl' pn I' := by
  obtain ⟨a1, a2, a3, ⟨a4, P, hP⟩, a5, -, -, -, -⟩ := hk
  refine ⟨a1, a2, a3, ⟨a4, P, fun j hj => ?_⟩, ?_, hc, h6, hv, hr⟩
  · rw [hI _ (by omega) (by omega)]; exact hP j hj
  · rcases a5 with z | ⟨g, z1, z2⟩
    · exact Or.inl (fun j hj => by rw [hI _ (by omega) (by omega)]; exact z j hj)
    · exact Or.inr ⟨g, z1, by rw [hI _ (by omega) (by omega)]; exact z2⟩
theorem uJ_23 {I : Nat → Int32} {x y : Int32} : ∀ j, j ≠ 2 → j ≠ 3 → uJ (uJ I 2 x) 3 y j = I j := fun j h2 h3 => by
  unfold uJ; rw [if_neg h3, if_neg h2]
theorem uJ_2 {I : Nat → Int32} {x y : Int32} : uJ (uJ I 2 x) 3 y 2 = x := rfl
theorem uJ_3 {I : Nat → Int32} {x y : Int32} : uJ (uJ I 2 x) 3 y 3 = y := rfl
theorem mgr {τ : am_G} (h2 : τ.2.2 = 121) {j : Nat} {x : Int32} (hj : j < 98) (e : τ.2.1 121 j = x.toInt64) : am_Call am_TX 0 0 c_M_get [.ref 120, .int (nI j)] (mm τ) (am_Ok (some (.int x)) (fun σ1 => σ1 = τ)) := by
  have z := sp_get h2 (Or.inl rfl) hj
  rw [e, i3264] at z; exact z
theorem sL1 {σ : am_G} {k j : Nat} {x : Int64} : (sL σ 121 k x).2.1 121 j = if j = k then x else σ.2.1 121 j := by
  by_cases e : j = k
  · rw [e, sL_s, if_pos rfl]
  · rw [sL_o (Or.inr e), if_neg e]
set_option maxRecDepth 100000 in
set_option maxHeartbeats 4000000 in
theorem sp_mforget {σ : am_G} : am_Call am_TX 0 0 c_M_forgetCertificate [.ref 120] (mm σ) (am_Ok none (fun σ1 => σ1 = sL (sL σ 121 10 0) 121 13 0)) := by
  refine ⟨mf_M_forgetCertificate, Nat.le_of_ble_eq_true rfl, ?_⟩
  refine R_aload_n rfl rfl ?_
  refine R_gP (x := 121) rfl rfl fp_11_1 rfl ?_
  refine R_bipush (v := 10) rfl (by decide) ?_
  refine R_lconst (v := 0) rfl rfl ?_
  refine R_wL (j := 10) rfl rfl rfl (by omega) (by decide) ?_
  refine R_aload_n rfl rfl ?_
  refine R_gP (x := 121) rfl rfl fp_11_1 rfl ?_
  refine R_bipush (v := 13) rfl (by decide) ?_
  refine R_lconst (v := 0) rfl rfl ?_
  refine R_wL (j := 13) rfl rfl rfl (by omega) (by decide) ?_
  exact T_return rfl rfl (am_okv0 rfl)
set_option maxRecDepth 100000 in
set_option maxHeartbeats 4000000 in
theorem sp_layClaim {σ : am_G} {x y : Int32} : am_Call am_TX 0 0 c_M_layClaim [.ref 120, .int x, .int y] (mm σ) (am_Ok none (fun σ1 => σ1 = sL (sL (sL σ 121 10 1) 121 11 x.toInt64) 121 12 y.toInt64)) := by
  refine ⟨mf_M_layClaim, Nat.le_of_ble_eq_true rfl, ?_⟩
  refine R_aload_n rfl rfl ?_
  refine R_gP (x := 121) rfl rfl fp_11_1 rfl ?_
  refine R_bipush (v := 10) rfl (by decide) ?_
  refine R_lconst (v := 1) rfl rfl ?_
  refine R_wL (j := 10) rfl rfl rfl (by omega) (by decide) ?_
  refine R_aload_n rfl rfl ?_
  refine R_gP (x := 121) rfl rfl fp_11_1 rfl ?_
  refine R_bipush (v := 11) rfl (by decide) ?_
  refine R_iload_n rfl rfl ?_
  refine R_i2l rfl ?_
  refine R_wL (j := 11) rfl rfl rfl (by omega) (by decide) ?_
  refine R_aload_n rfl rfl ?_
  refine R_gP (x := 121) rfl rfl fp_11_1 rfl ?_
  refine R_bipush (v := 12) rfl (by decide) ?_
  refine R_iload_n rfl rfl ?_
  refine R_i2l rfl ?_
  refine R_wL (j := 12) rfl rfl rfl (by omega) (by decide) ?_
  exact T_return rfl rfl (am_okv0 rfl)
set_option maxRecDepth 100000 in
set_option maxHeartbeats 4000000 in
theorem lp_mcv {σ : am_G} {d k0 : Nat} (hd : 0 ≤ d)  : ∀ (uu i : Nat) (τ : am_G), i + uu = 6 → (smP p121 σ τ ∧ (∀ k, (k < 56 ∨ 62 ≤ k) → τ.2.1 121 k = σ.2.1 121 k) ∧ ∀ j, j < i → τ.2.1 121 (56 + j) = 0) → am_R am_TX d k0 c_M_clearVector 2 [some (.ref 120), some (.int (nI i))] [] (mm τ) (am_Ok none (fun σ1 => smP p121 σ σ1 ∧ (∀ k, (k < 56 ∨ 62 ≤ k) → σ1.2.1 121 k = σ.2.1 121 k) ∧ ∀ j, j < 6 → σ1.2.1 121 (56 + j) = 0)) := by
  intro uu
  induction uu with
  | zero =>
    intro i τ hi hI
    obtain rfl : 6 = i := by omega
    refine R_iload_n rfl rfl ?_
    refine R_bipush (v := 6) rfl (by decide) ?_
    refine R_nicmp_ge (x := 6) (y := 6) rfl rfl (by omega) (by omega) (fun g1 => ?_) (fun z => by omega)
    exact T_return rfl rfl (am_okv0 hI)
  | succ uu ih =>
    intro i τ hi hI
    refine R_iload_n rfl rfl ?_
    refine R_bipush (v := 6) rfl (by decide) ?_
    refine R_nicmp_ge (x := i) (y := 6) rfl rfl (by omega) (by omega) (fun z => by omega) (fun g1 => ?_)
    refine R_aload_n rfl rfl ?_
    refine R_gP (x := 121) rfl rfl fp_11_1 rfl ?_
    refine R_bipush (v := 56) rfl (by decide) ?_
    refine R_iload_n rfl rfl ?_
    refine R_iaddN (x := 56) (y := i) rfl ?_
    refine R_lconst (v := 0) rfl rfl ?_
    refine R_wL (j := (56 + i)) rfl rfl rfl (by omega) (by decide) ?_
    refine R_iincN (x := i) (m := 1) rfl rfl rfl (by decide) ?_
    refine R_goto rfl rfl ?_
    refine (ih (i + 1) (sL τ 121 (56 + i) 0) (by omega) ⟨hI.1.trans (smP_sL (p := p121) rfl), fun k hk => ?_, fun j hj => ?_⟩).weak ⟨rfl, rfl, trivial⟩
    · rw [sL1, if_neg (by omega)]; exact hI.2.1 k hk
    · rw [sL1]
      by_cases e : j = i
      · rw [if_pos (by omega)]
      · rw [if_neg (by omega)]; exact hI.2.2 j (by omega)
set_option maxRecDepth 100000 in
set_option maxHeartbeats 4000000 in
theorem sp_clearVector {σ : am_G} : am_Call am_TX 0 0 c_M_clearVector [.ref 120] (mm σ) (am_Ok none (fun σ1 => smP p121 σ σ1 ∧ (∀ k, (k < 56 ∨ 62 ≤ k) → σ1.2.1 121 k = σ.2.1 121 k) ∧ ∀ j, j < 6 → σ1.2.1 121 (56 + j) = 0)) := by
  refine ⟨mf_M_clearVector, Nat.le_of_ble_eq_true rfl, ?_⟩
  refine R_iconst (v := 0) rfl rfl ?_
  refine R_istore_n rfl (by decide) ?_
  exact (lp_mcv (by omega) 6 0 σ (by omega) ⟨smP.refl, fun k _ => rfl, fun j hj => absurd hj (Nat.not_lt_zero _)⟩).weak ⟨rfl, rfl, trivial⟩
theorem clr_nV {σ τ : am_G} {h w rh pn : Nat} {f v rl : am_Gr} {I : Nat → Int32} (hn : nV σ h w f v rh rl pn I) (q : smP p121 (sL (sL σ 121 10 0) 121 13 0) τ) (e1 : ∀ k, (k < 56 ∨ 62 ≤ k) → τ.2.1 121 k = (sL (sL σ 121 10 0) 121 13 0).2.1 121 k) (e2 : ∀ j, j < 6 → τ.2.1 121 (56 + j) = 0) : nV τ h w f (fun _ _ => 0) 0 (fun _ _ => 0) pn (uJ (uJ I 2 (-1)) 3 (-1)) := by
  have h6 := hn.2.1.1.1.2
  refine ⟨nL_mk hn.2.1.2.2.2.1.1 hn.1 (fun k hk => ?_) uJ_23 (Or.inl ⟨rfl, ?_⟩) ?_ (fun j hj => e2 j (by omega)) (fun k j hk => absurd hk (Nat.not_lt_zero _)), okV_mk hn.2.1 uJ_23 (Or.inl ⟨rfl, rfl⟩) (Nat.zero_le _) (fun j hj => rfl) (fun k hk => absurd hk (Nat.not_lt_zero _)), q.2.trans hn.2.2.1, ?_⟩
  · rw [e1 k (by omega), sL1, if_neg (by omega), sL1, if_neg (by omega)]
  · rw [e1 10 (by omega), sL1, if_neg (by omega), sL1, if_pos rfl]
  · rw [e1 13 (by omega), sL1, if_pos rfl]; rfl
  · exact (q.1 120 4 (by unfold p121; omega)).1.trans hn.2.2.2
set_option maxRecDepth 100000 in
set_option maxHeartbeats 4000000 in
theorem ch_clearCertificate {σ : am_G} {h w rh pn : Nat} {f v rl : am_Gr} {I : Nat → Int32} {d k0 : Nat} (hn : nV σ h w f v rh rl pn I) (t0 : σ.1 120 0 = 0) (hd : 15 ≤ d) : am_R am_TX d k0 c_M_clearCertificate 9 [some (.ref 120), none] [] (mm σ) (am_Ok (some (.int (nI rh))) (fun σ1 => smP pN σ σ1 ∧ σ1.1 120 0 = 0 ∧ nVD σ1 (h, w, f, (fun _ _ => 0), 0, (fun _ _ => 0), pn, (uJ (uJ I 2 (-1)) 3 (-1))))) := by
  have hv := hn.toV
  have hs := hn.2.1.2.1
  have hh1 := hv.1.1.1
  have hh6 := hv.1.1.2
  have hw1 := hv.1.2.1
  have hw6 := hv.1.2.2
  have hp6 := hn.2.1.2.2.2.1.1
  have hr6 := hn.2.1.2.2.2.2.2.2.1
  have hs7 := lw_lt hh6
  have ws7 := lw_lt hw6
  refine R_aload_n rfl rfl ?_
  refine R_bipush (v := 13) rfl (by decide) ?_
  refine R_cV (as := [.int 13]) rfl rfl iv_M_get (mget_x hn (j := 13) (by omega) hn.1.2.2.2.2.2.1) (by omega) rfl rfl rfl (by decide) rfl rfl (Nat.le_of_ble_eq_true rfl) (fun _ q => ?_)
  obtain rfl := q.symm
  refine R_istore_n rfl (by decide) ?_
  refine R_aload_n rfl rfl ?_
  refine R_cV (as := []) rfl rfl iv_M_forgetCertificate (sp_mforget) (by omega) rfl rfl rfl (by decide) rfl rfl (Nat.le_of_ble_eq_true rfl) (fun _ q => ?_)
  obtain rfl := q.symm
  refine R_aload_n rfl rfl ?_
  refine R_cV (as := []) rfl rfl iv_M_clearVector (sp_clearVector) (by omega) rfl rfl rfl (by decide) rfl rfl (Nat.le_of_ble_eq_true rfl) (fun τc hτc => ?_)
  obtain ⟨q1, q2, q3⟩ := hτc
  refine R_iload_n rfl rfl ?_
  exact T_ireturn rfl rfl (am_oki rfl ⟨((smP_sL (p := pN) (Or.inr (Or.inl rfl))).trans (smP_sL (p := pN) (Or.inr (Or.inl rfl)))).trans (q1.mono pN_1), (q1.i (by unfold p121; omega)).trans t0, clr_nV hn q1 q2 q3⟩)
set_option maxRecDepth 100000 in
set_option maxHeartbeats 4000000 in
theorem sp_M_clearCertificate {σ : am_G} {h w rh pn : Nat} {f v rl : am_Gr} {I : Nat → Int32} {n : Nat} {Hs : Nat → am_Sn} (hn : nV σ h w f v rh rl pn I) (hH : mH σ n Hs) : am_Call am_TX 16 0 c_M_clearCertificate [.ref 120] (mm σ) (am_Ok (some (.int (nI rh))) (fun σ1 => smP pC σ σ1 ∧ σ1.1 120 0 = 0 ∧ nVD σ1 (h, w, f, (fun _ _ => 0), 0, (fun _ _ => 0), pn, (uJ (uJ I 2 (-1)) 3 (-1))) ∧ mH σ1 (nxZ n) (hC (h, w, f, v, rh, rl, pn, I) Hs))) := by
  have hv := hn.toV
  have hs := hn.2.1.2.1
  have hh1 := hv.1.1.1
  have hh6 := hv.1.1.2
  have hw1 := hv.1.2.1
  have hw6 := hv.1.2.2
  have hp6 := hn.2.1.2.2.2.1.1
  have hr6 := hn.2.1.2.2.2.2.2.2.1
  have hs7 := lw_lt hh6
  have ws7 := lw_lt hw6
  refine ⟨mf_M_clearCertificate, Nat.le_of_ble_eq_true rfl, ?_⟩
  refine R_aload_n rfl rfl ?_
  refine R_iconst (v := 0) rfl rfl ?_
  refine R_pI rfl rfl fw_11_0 rfl ?_
  refine R_aload_n rfl rfl ?_
  refine R_cV (as := []) rfl rfl iv_M_remember (sp_remember (hn.fr (smP_sI (p := pQ) (k := 120) (j := 0) (x := 0) (by unfold pQ; omega)) (fun b => by unfold pQ; omega) (by unfold pQ; omega)) (hH.fr (smP_sI (p := pQ) (k := 120) (j := 0) (x := 0) (by unfold pQ; omega)) (by unfold pQ; omega) (fun b => by unfold pQ; omega))) (by omega) rfl rfl rfl (by decide) rfl rfl (Nat.le_of_ble_eq_true rfl) (fun ρ hρ => ?_)
  obtain ⟨hρ, hρH⟩ := hρ
  exact ((ch_clearCertificate (pR_f hρ (hn.fr (smP_sI (p := pQ) (k := 120) (j := 0) (x := 0) (by unfold pQ; omega)) (fun b => by unfold pQ; omega) (by unfold pQ; omega)))  ((hρ.i (by unfold pR; omega)).trans sI_s) (by omega)).mono (am_Ok.mono (fun τ e => ⟨(ch_end (smP_sI (p := pQ) (k := 120) (j := 0) (x := 0) (by unfold pQ; omega)) hρ hρH e.1).1, e.2.1, e.2.2, (ch_end (smP_sI (p := pQ) (k := 120) (j := 0) (x := 0) (by unfold pQ; omega)) hρ hρH e.1).2⟩))).weak ⟨rfl, trivial⟩
theorem clm_nV {σ : am_G} {h w rh pn S T : Nat} {f v rl : am_Gr} {I : Nat → Int32} (hn : nV σ h w f v rh rl pn I) (hS : S < 2 ^ h) (hT : T < 2 ^ w) (hc : pc S = pc T) : nV (sL (sL (sL σ 121 10 1) 121 11 (nI S).toInt64) 121 12 (nI T).toInt64) h w f v rh rl pn (uJ (uJ I 2 (nI S)) 3 (nI T)) := by
  have h6 := hn.2.1.1.1.2
  have hS6 := p2_64 hS h6
  have k7 := hn.2.1.2.2.2.2.2.2
  have b := hn.1.2.2.2.2.2
  have o : ∀ k, k ≠ 10 → k ≠ 11 → k ≠ 12 → (sL (sL (sL σ 121 10 1) 121 11 (nI S).toInt64) 121 12 (nI T).toInt64).2.1 121 k = σ.2.1 121 k := fun k a1 a2 a3 => by rw [sL1, if_neg a3, sL1, if_neg a2, sL1, if_neg a1]
  refine ⟨nL_mk hn.2.1.2.2.2.1.1 hn.1 (fun k hk => o k (by omega) (by omega) (by omega)) uJ_23 (Or.inr ⟨fun z => absurd z (nI_m1 (by omega)), ?_, ?_, ?_⟩) ((o 13 (by omega) (by omega) (by omega)).trans b.1) (fun j hj => (o _ (by omega) (by omega) (by omega)).trans (b.2.1 j hj)) (fun k j hk hj => (o _ (by omega) (by omega) (by omega)).trans (b.2.2 k j hk hj)), okV_mk hn.2.1 uJ_23 (Or.inr ⟨S, T, rfl, rfl, hS, hT, hc⟩) k7.1 k7.2.1 k7.2.2, hn.2.2⟩
  · rw [sL1, if_neg (by omega), sL1, if_neg (by omega), sL1, if_pos rfl]
  · rw [sL1, if_neg (by omega), sL1, if_pos rfl]; rfl
  · rw [sL1, if_pos rfl]; rfl
set_option maxRecDepth 100000 in
set_option maxHeartbeats 4000000 in
theorem ch_claim {σ : am_G} {h w rh pn : Nat} {f v rl : am_Gr} {I : Nat → Int32} {S T : Nat} {d k0 : Nat} (hn : nV σ h w f v rh rl pn I) (hS : S < 2 ^ h) (hT : T < 2 ^ w) (hc : pc S = pc T) (t0 : σ.1 120 0 = 0) (hd : 15 ≤ d) : am_R am_TX d k0 c_M_claim 19 [some (.ref 120), some (.int (nI S)), some (.int (nI T))] [] (mm σ) (am_Ok (some (.int (zP (mnF f S w T ≠ 0)))) (fun σ1 => smP pN σ σ1 ∧ σ1.1 120 0 = 0 ∧ nVD σ1 (h, w, f, v, rh, rl, pn, (uJ (uJ I 2 (nI S)) 3 (nI T))))) := by
  have hv := hn.toV
  have hs := hn.2.1.2.1
  have hh1 := hv.1.1.1
  have hh6 := hv.1.1.2
  have hw1 := hv.1.2.1
  have hw6 := hv.1.2.2
  have hp6 := hn.2.1.2.2.2.1.1
  have hr6 := hn.2.1.2.2.2.2.2.2.1
  have hs7 := lw_lt hh6
  have ws7 := lw_lt hw6
  have hS6 := p2_64 hS hh6
  have hT6 := p2_64 hT hw6
  refine R_aload_n rfl rfl ?_
  refine R_iload_n rfl rfl ?_
  refine R_iload_n rfl rfl ?_
  refine R_cV (as := [.int (nI S), .int (nI T)]) rfl rfl iv_M_layClaim (sp_layClaim (x := (nI S)) (y := (nI T))) (by omega) rfl rfl rfl (by decide) rfl rfl (Nat.le_of_ble_eq_true rfl) (fun _ q => ?_)
  obtain rfl := q.symm
  refine R_aload_n rfl rfl ?_
  refine R_cV (as := []) rfl rfl iv_M_claimedMinor (sp_claimedMinor (clm_nV hn hS hT hc) rfl rfl hS hT hc) (by omega) rfl rfl rfl (by decide) rfl rfl (Nat.le_of_ble_eq_true rfl) (fun ρ9 hρ9 => ?_)
  refine R_lconst (v := 0) rfl rfl ?_
  refine R_l_eq rfl rfl rfl (fun g1 => ?_) (fun g1 => ?_)
  · refine R_iconst (v := 0) rfl rfl ?_
    exact T_ireturn rfl rfl (am_oki (zP_f (fun z => z g1)).symm ⟨((smP_sL (p := pN) (Or.inr (Or.inl rfl))).trans ((smP_sL (p := pN) (Or.inr (Or.inl rfl))).trans (smP_sL (p := pN) (Or.inr (Or.inl rfl))))).trans (hρ9.mono pN_K), (hρ9.i (by unfold pK; omega)).trans t0, (clm_nV hn hS hT hc).fr hρ9 (fun b => by unfold pK; omega) (by unfold pK; omega)⟩)
  · refine R_iconst (v := 1) rfl rfl ?_
    refine R_goto rfl rfl ?_
    exact T_ireturn rfl rfl (am_oki (zP_t g1).symm ⟨((smP_sL (p := pN) (Or.inr (Or.inl rfl))).trans ((smP_sL (p := pN) (Or.inr (Or.inl rfl))).trans (smP_sL (p := pN) (Or.inr (Or.inl rfl))))).trans (hρ9.mono pN_K), (hρ9.i (by unfold pK; omega)).trans t0, (clm_nV hn hS hT hc).fr hρ9 (fun b => by unfold pK; omega) (by unfold pK; omega)⟩)
set_option maxRecDepth 100000 in
set_option maxHeartbeats 4000000 in
theorem sp_M_claim {σ : am_G} {h w rh pn : Nat} {f v rl : am_Gr} {I : Nat → Int32} {n : Nat} {Hs : Nat → am_Sn} {S T : Nat} (hn : nV σ h w f v rh rl pn I) (hH : mH σ n Hs) (hS : S < 2 ^ h) (hT : T < 2 ^ w) (hc : pc S = pc T) : am_Call am_TX 16 0 c_M_claim [.ref 120, .int (nI S), .int (nI T)] (mm σ) (am_Ok (some (.int (zP (mnF f S w T ≠ 0)))) (fun σ1 => smP pC σ σ1 ∧ σ1.1 120 0 = 0 ∧ nVD σ1 (h, w, f, v, rh, rl, pn, (uJ (uJ I 2 (nI S)) 3 (nI T))) ∧ mH σ1 (nxZ n) (hC (h, w, f, v, rh, rl, pn, I) Hs))) := by
  have hv := hn.toV
  have hs := hn.2.1.2.1
  have hh1 := hv.1.1.1
  have hh6 := hv.1.1.2
  have hw1 := hv.1.2.1
  have hw6 := hv.1.2.2
  have hp6 := hn.2.1.2.2.2.1.1
  have hr6 := hn.2.1.2.2.2.2.2.2.1
  have hs7 := lw_lt hh6
  have ws7 := lw_lt hw6
  have hS6 := p2_64 hS hh6
  have hT6 := p2_64 hT hw6
  refine ⟨mf_M_claim, Nat.le_of_ble_eq_true rfl, ?_⟩
  refine R_aload_n rfl rfl ?_
  refine R_aload_n rfl rfl ?_
  refine R_iload_n rfl rfl ?_
  refine R_iload_n rfl rfl ?_
  refine R_cV (as := [.int (nI S), .int (nI T)]) rfl rfl iv_M_arePart (arePart_1 hn hS hT hc) (by omega) rfl rfl rfl (by decide) rfl rfl (Nat.le_of_ble_eq_true rfl) (fun _ q => ?_)
  obtain rfl := q.symm
  refine R_cV (as := [.int 1]) rfl rfl iv_M_passes (pass_1) (by omega) rfl rfl rfl (by decide) rfl rfl (Nat.le_of_ble_eq_true rfl) (fun _ q => ?_)
  obtain rfl := q.symm
  refine R_if_ne rfl rfl (fun _ => ?_) (fun z => absurd z (by decide))
  refine R_aload_n rfl rfl ?_
  refine R_cV (as := []) rfl rfl iv_M_remember (sp_remember (hn.fr (smP_sI (p := pQ) (k := 120) (j := 0) (x := 0) (by unfold pQ; omega)) (fun b => by unfold pQ; omega) (by unfold pQ; omega)) (hH.fr (smP_sI (p := pQ) (k := 120) (j := 0) (x := 0) (by unfold pQ; omega)) (by unfold pQ; omega) (fun b => by unfold pQ; omega))) (by omega) rfl rfl rfl (by decide) rfl rfl (Nat.le_of_ble_eq_true rfl) (fun ρ hρ => ?_)
  obtain ⟨hρ, hρH⟩ := hρ
  exact ((ch_claim (pR_f hρ (hn.fr (smP_sI (p := pQ) (k := 120) (j := 0) (x := 0) (by unfold pQ; omega)) (fun b => by unfold pQ; omega) (by unfold pQ; omega))) hS hT hc ((hρ.i (by unfold pR; omega)).trans sI_s) (by omega)).mono (am_Ok.mono (fun τ e => ⟨(ch_end (smP_sI (p := pQ) (k := 120) (j := 0) (x := 0) (by unfold pQ; omega)) hρ hρH e.1).1, e.2.1, e.2.2, (ch_end (smP_sI (p := pQ) (k := 120) (j := 0) (x := 0) (by unfold pQ; omega)) hρ hρH e.1).2⟩))).weak ⟨rfl, rfl, rfl, trivial⟩
set_option maxRecDepth 100000 in
set_option maxHeartbeats 4000000 in
theorem sp_M_claim_x0x {σ : am_G} {h w rh pn : Nat} {f v rl : am_Gr} {I : Nat → Int32} {T_ : Int32} {x : Int32} (hn : nV σ h w f v rh rl pn I) (hb : ¬ x &&& (nI (2 ^ h - 1) ^^^ (-1)) = 0) : am_Call am_TX 14 0 c_M_claim [.ref 120, .int x, .int T_] (mm σ) (am_Ok (some (.int 0)) (fun σ1 => smP pQ σ σ1 ∧ σ1.1 120 0 = 1)) := by
  have hv := hn.toV
  have hs := hn.2.1.2.1
  have hh1 := hv.1.1.1
  have hh6 := hv.1.1.2
  have hw1 := hv.1.2.1
  have hw6 := hv.1.2.2
  have hp6 := hn.2.1.2.2.2.1.1
  have hr6 := hn.2.1.2.2.2.2.2.2.1
  have hs7 := lw_lt hh6
  have ws7 := lw_lt hw6
  refine ⟨mf_M_claim, Nat.le_of_ble_eq_true rfl, ?_⟩
  refine R_aload_n rfl rfl ?_
  refine R_aload_n rfl rfl ?_
  refine R_iload_n rfl rfl ?_
  refine R_iload_n rfl rfl ?_
  refine R_cV (as := [.int x, .int T_]) rfl rfl iv_M_arePart (arePart_x hn hb) (by omega) rfl rfl rfl (by decide) rfl rfl (Nat.le_of_ble_eq_true rfl) (fun _ q => ?_)
  obtain rfl := q.symm
  refine R_cV (as := [.int 0]) rfl rfl iv_M_passes (pass_0) (by omega) rfl rfl rfl (by decide) rfl rfl (Nat.le_of_ble_eq_true rfl) (fun _ q => ?_)
  obtain rfl := q.symm
  refine R_if_ne rfl rfl (fun z => absurd z (by decide)) (fun _ => ?_)
  refine R_iconst (v := 0) rfl rfl ?_
  exact T_ireturn rfl rfl (am_oki rfl ⟨(smP_sI (p := pQ) (k := 120) (j := 0) (x := 1) (by unfold pQ; omega)), sI_s⟩)
set_option maxRecDepth 100000 in
set_option maxHeartbeats 4000000 in
theorem sp_M_claim_x0y {σ : am_G} {h w rh pn : Nat} {f v rl : am_Gr} {I : Nat → Int32} {S : Int32} {x : Int32} (hn : nV σ h w f v rh rl pn I) (hs_ : S &&& (nI (2 ^ h - 1) ^^^ (-1)) = 0) (hb : ¬ x &&& (nI (2 ^ w - 1) ^^^ (-1)) = 0) : am_Call am_TX 14 0 c_M_claim [.ref 120, .int S, .int x] (mm σ) (am_Ok (some (.int 0)) (fun σ1 => smP pQ σ σ1 ∧ σ1.1 120 0 = 1)) := by
  have hv := hn.toV
  have hs := hn.2.1.2.1
  have hh1 := hv.1.1.1
  have hh6 := hv.1.1.2
  have hw1 := hv.1.2.1
  have hw6 := hv.1.2.2
  have hp6 := hn.2.1.2.2.2.1.1
  have hr6 := hn.2.1.2.2.2.2.2.2.1
  have hs7 := lw_lt hh6
  have ws7 := lw_lt hw6
  refine ⟨mf_M_claim, Nat.le_of_ble_eq_true rfl, ?_⟩
  refine R_aload_n rfl rfl ?_
  refine R_aload_n rfl rfl ?_
  refine R_iload_n rfl rfl ?_
  refine R_iload_n rfl rfl ?_
  refine R_cV (as := [.int S, .int x]) rfl rfl iv_M_arePart (arePart_y hn hs_ hb) (by omega) rfl rfl rfl (by decide) rfl rfl (Nat.le_of_ble_eq_true rfl) (fun _ q => ?_)
  obtain rfl := q.symm
  refine R_cV (as := [.int 0]) rfl rfl iv_M_passes (pass_0) (by omega) rfl rfl rfl (by decide) rfl rfl (Nat.le_of_ble_eq_true rfl) (fun _ q => ?_)
  obtain rfl := q.symm
  refine R_if_ne rfl rfl (fun z => absurd z (by decide)) (fun _ => ?_)
  refine R_iconst (v := 0) rfl rfl ?_
  exact T_ireturn rfl rfl (am_oki rfl ⟨(smP_sI (p := pQ) (k := 120) (j := 0) (x := 1) (by unfold pQ; omega)), sI_s⟩)
set_option maxRecDepth 100000 in
set_option maxHeartbeats 4000000 in
theorem sp_M_claim_x0z {σ : am_G} {h w rh pn : Nat} {f v rl : am_Gr} {I : Nat → Int32} {S T : Nat} (hn : nV σ h w f v rh rl pn I) (hS : S < 2 ^ h) (hT : T < 2 ^ w) (hc : ¬ pc S = pc T) : am_Call am_TX 14 0 c_M_claim [.ref 120, .int (nI S), .int (nI T)] (mm σ) (am_Ok (some (.int 0)) (fun σ1 => smP pQ σ σ1 ∧ σ1.1 120 0 = 1)) := by
  have hv := hn.toV
  have hs := hn.2.1.2.1
  have hh1 := hv.1.1.1
  have hh6 := hv.1.1.2
  have hw1 := hv.1.2.1
  have hw6 := hv.1.2.2
  have hp6 := hn.2.1.2.2.2.1.1
  have hr6 := hn.2.1.2.2.2.2.2.2.1
  have hs7 := lw_lt hh6
  have ws7 := lw_lt hw6
  have hS6 := p2_64 hS hh6
  have hT6 := p2_64 hT hw6
  refine ⟨mf_M_claim, Nat.le_of_ble_eq_true rfl, ?_⟩
  refine R_aload_n rfl rfl ?_
  refine R_aload_n rfl rfl ?_
  refine R_iload_n rfl rfl ?_
  refine R_iload_n rfl rfl ?_
  refine R_cV (as := [.int (nI S), .int (nI T)]) rfl rfl iv_M_arePart (arePart_z hn hS hT hc) (by omega) rfl rfl rfl (by decide) rfl rfl (Nat.le_of_ble_eq_true rfl) (fun _ q => ?_)
  obtain rfl := q.symm
  refine R_cV (as := [.int 0]) rfl rfl iv_M_passes (pass_0) (by omega) rfl rfl rfl (by decide) rfl rfl (Nat.le_of_ble_eq_true rfl) (fun _ q => ?_)
  obtain rfl := q.symm
  refine R_if_ne rfl rfl (fun z => absurd z (by decide)) (fun _ => ?_)
  refine R_iconst (v := 0) rfl rfl ?_
  exact T_ireturn rfl rfl (am_oki rfl ⟨(smP_sI (p := pQ) (k := 120) (j := 0) (x := 1) (by unfold pQ; omega)), sI_s⟩)
set_option maxRecDepth 100000 in
set_option maxHeartbeats 4000000 in
theorem lp_miv {σ : am_G} {h w rh pn : Nat} {f v rl : am_Gr} {I : Nat → Int32} {d k0 : Nat} (hn : nV σ h w f v rh rl pn I) (hd : 2 ≤ d)  : ∀ (uu i : Nat), i + uu = h → am_R am_TX d k0 c_M_isVector 4 [some (.ref 120), some (.int (zP (¬ cn (v 0) i = 0))), some (.int (nI i))] [] (mm σ) (am_Ok (some (.int (zP (¬ cn (v 0) h = 0)))) (fun σ1 => σ1 = σ)) := by
  have hv := hn.toV
  have hs := hn.2.1.2.1
  have hh1 := hv.1.1.1
  have hh6 := hv.1.1.2
  have hw1 := hv.1.2.1
  have hw6 := hv.1.2.2
  have hp6 := hn.2.1.2.2.2.1.1
  have hr6 := hn.2.1.2.2.2.2.2.2.1
  have hs7 := lw_lt hh6
  have ws7 := lw_lt hw6
  intro uu
  induction uu with
  | zero =>
    intro i hi
    obtain rfl : h = i := by omega
    refine R_iload_n rfl rfl ?_
    refine R_aload_n rfl rfl ?_
    refine R_cV (as := []) rfl rfl iv_M_rows (sp_rows hv) (by omega) rfl rfl rfl (by decide) rfl rfl (Nat.le_of_ble_eq_true rfl) (fun _ q => ?_)
    obtain rfl := q.symm
    refine R_nicmp_ge (x := h) (y := h) rfl rfl (by omega) (by omega) (fun g1 => ?_) (fun z => by omega)
    refine R_iload_n rfl rfl ?_
    exact T_zreturn rfl rfl nr_zP (am_oki rfl rfl)
  | succ uu ih =>
    intro i hi
    refine R_iload_n rfl rfl ?_
    refine R_aload_n rfl rfl ?_
    refine R_cV (as := []) rfl rfl iv_M_rows (sp_rows hv) (by omega) rfl rfl rfl (by decide) rfl rfl (Nat.le_of_ble_eq_true rfl) (fun _ q => ?_)
    obtain rfl := q.symm
    refine R_nicmp_ge (x := i) (y := h) rfl rfl (by omega) (by omega) (fun z => by omega) (fun g1 => ?_)
    refine R_iload_n rfl rfl ?_
    refine R_zif_ne rfl rfl (fun g2 => ?_) (fun g2 => ?_)
    · refine R_iconst (v := 1) rfl rfl ?_
      refine R_goto rfl rfl ?_
      refine R_istore_n rfl (by decide) ?_
      refine R_iincN (x := i) (m := 1) rfl rfl rfl (by decide) ?_
      refine R_goto rfl rfl ?_
      have e := ih (i + 1) (by omega)
      rw [zP_t (show ¬ cn (v 0) (i + 1) = 0 from fun z => by simp only [cn] at z; exact g2 (by omega))] at e
      exact e.weak ⟨rfl, rfl, rfl, trivial⟩
    · refine R_aload_n rfl rfl ?_
      refine R_gP (x := 121) rfl rfl fp_11_1 rfl ?_
      refine R_bipush (v := 56) rfl (by decide) ?_
      refine R_iload_n rfl rfl ?_
      refine R_iaddN (x := 56) (y := i) rfl ?_
      refine R_xL (j := (56 + i)) rfl rfl rfl (by omega) (by decide) ?_
      rw [show σ.2.1 121 ((56 + i)) = v 0 i from hn.1.2.2.2.2.2.2.1 i (by omega)]
      refine R_lconst (v := 0) rfl rfl ?_
      refine R_l_eq rfl rfl rfl (fun g3 => ?_) (fun g3 => ?_)
      · refine R_iconst (v := 0) rfl rfl ?_
        refine R_istore_n rfl (by decide) ?_
        refine R_iincN (x := i) (m := 1) rfl rfl rfl (by decide) ?_
        refine R_goto rfl rfl ?_
        have e := ih (i + 1) (by omega)
        rw [zP_f (fun z => z (by simp only [cn]; rw [if_pos g3]; omega))] at e
        exact e.weak ⟨rfl, rfl, rfl, trivial⟩
      · refine R_iconst (v := 1) rfl rfl ?_
        refine R_goto rfl rfl ?_
        refine R_istore_n rfl (by decide) ?_
        refine R_iincN (x := i) (m := 1) rfl rfl rfl (by decide) ?_
        refine R_goto rfl rfl ?_
        have e := ih (i + 1) (by omega)
        rw [zP_t (show ¬ cn (v 0) (i + 1) = 0 from fun z => by simp only [cn] at z; rw [if_neg g3] at z; omega)] at e
        exact e.weak ⟨rfl, rfl, rfl, trivial⟩
set_option maxRecDepth 100000 in
set_option maxHeartbeats 4000000 in
theorem sp_isVector {σ : am_G} {h w rh pn : Nat} {f v rl : am_Gr} {I : Nat → Int32} (hn : nV σ h w f v rh rl pn I) : am_Call am_TX 2 0 c_M_isVector [.ref 120] (mm σ) (am_Ok (some (.int (zP (¬ cn (v 0) h = 0)))) (fun σ1 => σ1 = σ)) := by
  have hv := hn.toV
  have hs := hn.2.1.2.1
  have hh1 := hv.1.1.1
  have hh6 := hv.1.1.2
  have hw1 := hv.1.2.1
  have hw6 := hv.1.2.2
  have hp6 := hn.2.1.2.2.2.1.1
  have hr6 := hn.2.1.2.2.2.2.2.2.1
  have hs7 := lw_lt hh6
  have ws7 := lw_lt hw6
  refine ⟨mf_M_isVector, Nat.le_of_ble_eq_true rfl, ?_⟩
  refine R_iconst (v := 0) rfl rfl ?_
  refine R_istore_n rfl (by decide) ?_
  refine R_iconst (v := 0) rfl rfl ?_
  refine R_istore_n rfl (by decide) ?_
  exact (lp_miv hn (by omega) h 0 (by omega)).weak ⟨rfl, rfl, rfl, trivial⟩
theorem cnG_1 {v : am_Gr} {h : Nat} : cnG v h 1 = cn (v 0) h := by
  simp only [cnG]; omega
theorem cn_ex {g : Nat → Int64} : ∀ n, ¬ cn g n = 0 → ∃ j, j < n ∧ g j ≠ 0
  | 0, z => absurd rfl z
  | n + 1, z => by
    by_cases e : g n = 0
    · have z2 : ¬ cn g n = 0 := fun y => z (by simp only [cn]; rw [if_pos e]; omega)
      obtain ⟨j, hj, h⟩ := cn_ex n z2
      exact ⟨j, by omega, h⟩
    · exact ⟨n, by omega, e⟩
set_option maxRecDepth 100000 in
set_option maxHeartbeats 4000000 in
theorem lp_mar {σ : am_G} {h w rh pn : Nat} {f v rl : am_Gr} {I : Nat → Int32} {d k0 : Nat} {Q : am_Res → Prop} (hn : nV σ h w f v rh rl pn I) (h6 : rh < 6) (hd : 2 ≤ d) (hx : ∀ (τ : am_G), (smP p121 σ τ ∧ (∀ k, (k < 62 + 6 * rh ∨ 62 + 6 * rh + 6 ≤ k) → τ.2.1 121 k = σ.2.1 121 k) ∧ ∀ j, j < 6 → τ.2.1 121 (62 + 6 * rh + j) = σ.2.1 121 (56 + j)) → am_R am_TX d k0 c_M_addRelation 78 [some (.ref 120), some (.int (nI 6))] [] (mm τ) Q) : ∀ (uu i : Nat) (τ : am_G), i + uu = 6 → (smP p121 σ τ ∧ (∀ k, (k < 62 + 6 * rh ∨ 62 + 6 * rh + i ≤ k) → τ.2.1 121 k = σ.2.1 121 k) ∧ ∀ j, j < i → τ.2.1 121 (62 + 6 * rh + j) = σ.2.1 121 (56 + j)) → am_R am_TX d k0 c_M_addRelation 38 [some (.ref 120), some (.int (nI i))] [] (mm τ) Q := by
  intro uu
  induction uu with
  | zero =>
    intro i τ hi hI
    obtain rfl : 6 = i := by omega
    refine R_iload_n rfl rfl ?_
    refine R_bipush (v := 6) rfl (by decide) ?_
    refine R_nicmp_ge (x := 6) (y := 6) rfl rfl (by omega) (by omega) (fun g1 => ?_) (fun z => by omega)
    exact hx τ hI
  | succ uu ih =>
    intro i τ hi hI
    refine R_iload_n rfl rfl ?_
    refine R_bipush (v := 6) rfl (by decide) ?_
    refine R_nicmp_ge (x := i) (y := 6) rfl rfl (by omega) (by omega) (fun z => by omega) (fun g1 => ?_)
    refine R_aload_n rfl rfl ?_
    refine R_gP (x := 121) rfl rfl fp_11_1 rfl ?_
    refine R_bipush (v := 62) rfl (by decide) ?_
    refine R_bipush (v := 6) rfl (by decide) ?_
    refine R_aload_n rfl rfl ?_
    refine R_bipush (v := 13) rfl (by decide) ?_
    refine R_cV (as := [.int 13]) rfl rfl iv_M_get (mgr (j := 13) (hI.1.2.trans hn.2.2.1) (by omega) ((hI.2.1 13 (by omega)).trans hn.1.2.2.2.2.2.1)) (by omega) rfl rfl rfl (by decide) rfl rfl (Nat.le_of_ble_eq_true rfl) (fun _ q => ?_)
    obtain rfl := q.symm
    refine R_imulN (x := 6) (y := rh) rfl ?_
    refine R_iaddN (x := 62) (y := (6 * rh)) rfl ?_
    refine R_iload_n rfl rfl ?_
    refine R_iaddN (x := (62 + (6 * rh))) (y := i) rfl ?_
    refine R_aload_n rfl rfl ?_
    refine R_gP (x := 121) rfl rfl fp_11_1 rfl ?_
    refine R_bipush (v := 56) rfl (by decide) ?_
    refine R_iload_n rfl rfl ?_
    refine R_iaddN (x := 56) (y := i) rfl ?_
    refine R_xL (j := (56 + i)) rfl rfl rfl (by omega) (by decide) ?_
    refine R_wL (j := ((62 + (6 * rh)) + i)) rfl rfl rfl (by omega) (by decide) ?_
    refine R_iincN (x := i) (m := 1) rfl rfl rfl (by decide) ?_
    refine R_goto rfl rfl ?_
    refine (ih (i + 1) (sL τ 121 ((62 + (6 * rh)) + i) (τ.2.1 121 (56 + i))) (by omega) ⟨hI.1.trans (smP_sL (p := p121) rfl), fun k hk => ?_, fun j hj => ?_⟩).weak ⟨rfl, rfl, trivial⟩
    · rw [sL1, if_neg (by omega)]; exact hI.2.1 k (by omega)
    · rw [sL1]
      by_cases e : j = i
      · subst e; rw [if_pos rfl]; exact hI.2.1 _ (by omega)
      · rw [if_neg (by omega)]; exact hI.2.2 j (by omega)
theorem adR_nV {σ τ : am_G} {h w rh pn : Nat} {f v rl : am_Gr} {I : Nat → Int32} (hn : nV σ h w f v rh rl pn I) (hc : ¬ cnG v h 1 = 0) (h6 : rh < 6) (q : smP p121 σ τ) (e1 : ∀ k, (k < 62 + 6 * rh ∨ 62 + 6 * rh + 6 ≤ k) → τ.2.1 121 k = σ.2.1 121 k) (e2 : ∀ j, j < 6 → τ.2.1 121 (62 + 6 * rh + j) = σ.2.1 121 (56 + j)) : nV (sL τ 121 13 (τ.2.1 121 13 + 1)) h w f v (rh + 1) (adL rl v rh h) pn I := by
  have hh6 := hn.2.1.1.1.2
  have k7 := hn.2.1.2.2.2.2.2.2
  have b := hn.1.2.2.2.2.2
  have c := hn.1.2.2.2.2.1
  have o : ∀ k, k ≠ 13 → (sL τ 121 13 (τ.2.1 121 13 + 1)).2.1 121 k = τ.2.1 121 k := fun k a => by rw [sL1, if_neg a]
  refine ⟨nL_mk hn.2.1.2.2.2.1.1 hn.1 (fun k hk => (o k (by omega)).trans (e1 k (by omega))) (fun _ _ _ => rfl) ?_ ?_ (fun j hj => (o _ (by omega)).trans ((e1 _ (by omega)).trans (b.2.1 j hj))) (fun k j hk hj => ?_), okV_mk hn.2.1 (fun _ _ _ => rfl) hn.2.1.2.2.2.2.2.1 (by omega) k7.2.1 (fun k hk => ?_), q.2.trans hn.2.2.1, (q.1 120 4 (by unfold p121; omega)).1.trans hn.2.2.2⟩
  · rw [o 10 (by omega), o 11 (by omega), o 12 (by omega), e1 10 (by omega), e1 11 (by omega), e1 12 (by omega)]; exact c
  · rw [sL1, if_pos rfl, e1 13 (by omega), b.1, nI_64s (by omega)]
  · rw [o _ (by omega)]
    unfold adL
    by_cases e : k = rh
    · subst e
      rw [if_pos ⟨rfl, hj⟩, e2 j (by omega)]; exact b.2.1 j hj
    · rw [if_neg (fun z => e z.1), e1 _ (by omega)]; exact b.2.2 k j (by omega) hj
  · by_cases e : k = rh
    · subst e
      obtain ⟨j, hj, hz⟩ := cn_ex h (by rw [← cnG_1]; exact hc)
      refine ⟨j, hj, ?_⟩
      unfold adL
      rw [if_pos ⟨rfl, hj⟩]; exact hz
    · obtain ⟨j, hj, hz⟩ := k7.2.2 k (by omega)
      refine ⟨j, hj, ?_⟩
      unfold adL
      rw [if_neg (fun z => e z.1)]; exact hz
set_option maxRecDepth 100000 in
set_option maxHeartbeats 4000000 in
theorem ch_addRelation {σ : am_G} {h w rh pn : Nat} {f v rl : am_Gr} {I : Nat → Int32} {d k0 : Nat} (hn : nV σ h w f v rh rl pn I) (hc : ¬ cnG v h 1 = 0) (h6 : rh < 6) (t0 : σ.1 120 0 = 0) (hd : 15 ≤ d) : am_R am_TX d k0 c_M_addRelation 36 [some (.ref 120), none] [] (mm σ) (am_Ok (some (.int (nI (rh + 1)))) (fun σ1 => smP pN σ σ1 ∧ σ1.1 120 0 = 0 ∧ nVD σ1 (h, w, f, v, (rh + 1), (adL rl v rh h), pn, I))) := by
  have hv := hn.toV
  have hs := hn.2.1.2.1
  have hh1 := hv.1.1.1
  have hh6 := hv.1.1.2
  have hw1 := hv.1.2.1
  have hw6 := hv.1.2.2
  have hp6 := hn.2.1.2.2.2.1.1
  have hr6 := hn.2.1.2.2.2.2.2.2.1
  have hs7 := lw_lt hh6
  have ws7 := lw_lt hw6
  refine R_iconst (v := 0) rfl rfl ?_
  refine R_istore_n rfl (by decide) ?_
  refine (lp_mar hn h6 (by omega) (fun τ hτ => ?_) 6 0 σ (by omega) ⟨smP.refl, fun k _ => rfl, fun j hj => absurd hj (Nat.not_lt_zero _)⟩).weak ⟨rfl, rfl, trivial⟩
  have hn2 := adR_nV hn hc h6 hτ.1 hτ.2.1 hτ.2.2
  refine R_aload_n rfl rfl ?_
  refine R_gP (x := 121) rfl rfl fp_11_1 rfl ?_
  refine R_bipush (v := 13) rfl (by decide) ?_
  refine R_dup2 rfl rfl rfl ?_
  refine R_xL (j := 13) rfl rfl rfl (by omega) (by decide) ?_
  refine R_lconst (v := 1) rfl rfl ?_
  refine R_ladd rfl ?_
  refine R_wL (j := 13) rfl rfl rfl (by omega) (by decide) ?_
  refine R_aload_n rfl rfl ?_
  refine R_bipush (v := 13) rfl (by decide) ?_
  refine R_cV (as := [.int 13]) rfl rfl iv_M_get (mgr (j := 13) hn2.2.2.1 (by omega) hn2.1.2.2.2.2.2.1) (by omega) rfl rfl rfl (by decide) rfl rfl (Nat.le_of_ble_eq_true rfl) (fun _ q => ?_)
  obtain rfl := q.symm
  exact T_ireturn rfl rfl (am_oki rfl ⟨(hτ.1.mono pN_1).trans (smP_sL (p := pN) (Or.inr (Or.inl rfl))), (hτ.1.i (by unfold p121; omega)).trans t0, hn2⟩)
set_option maxRecDepth 100000 in
set_option maxHeartbeats 4000000 in
theorem sp_M_addRelation {σ : am_G} {h w rh pn : Nat} {f v rl : am_Gr} {I : Nat → Int32} {n : Nat} {Hs : Nat → am_Sn} (hn : nV σ h w f v rh rl pn I) (hH : mH σ n Hs) (hc : ¬ cnG v h 1 = 0) (h6 : rh < 6) : am_Call am_TX 16 0 c_M_addRelation [.ref 120] (mm σ) (am_Ok (some (.int (nI (rh + 1)))) (fun σ1 => smP pC σ σ1 ∧ σ1.1 120 0 = 0 ∧ nVD σ1 (h, w, f, v, (rh + 1), (adL rl v rh h), pn, I) ∧ mH σ1 (nxZ n) (hC (h, w, f, v, rh, rl, pn, I) Hs))) := by
  have hv := hn.toV
  have hs := hn.2.1.2.1
  have hh1 := hv.1.1.1
  have hh6 := hv.1.1.2
  have hw1 := hv.1.2.1
  have hw6 := hv.1.2.2
  have hp6 := hn.2.1.2.2.2.1.1
  have hr6 := hn.2.1.2.2.2.2.2.2.1
  have hs7 := lw_lt hh6
  have ws7 := lw_lt hw6
  refine ⟨mf_M_addRelation, Nat.le_of_ble_eq_true rfl, ?_⟩
  refine R_aload_n rfl rfl ?_
  refine R_aload_n rfl rfl ?_
  refine R_cV (as := []) rfl rfl iv_M_isVector ((by have z := sp_isVector hn; rw [← cnG_1, zP_t hc] at z; exact z)) (by omega) rfl rfl rfl (by decide) rfl rfl (Nat.le_of_ble_eq_true rfl) (fun _ q => ?_)
  obtain rfl := q.symm
  refine R_if_eq rfl rfl (fun z => absurd z (by decide)) (fun _ => ?_)
  refine R_aload_n rfl rfl ?_
  refine R_bipush (v := 13) rfl (by decide) ?_
  refine R_cV (as := [.int 13]) rfl rfl iv_M_get (mget_x hn (j := 13) (by omega) hn.1.2.2.2.2.2.1) (by omega) rfl rfl rfl (by decide) rfl rfl (Nat.le_of_ble_eq_true rfl) (fun _ q => ?_)
  obtain rfl := q.symm
  refine R_bipush (v := 6) rfl (by decide) ?_
  refine R_nicmp_ge (x := rh) (y := 6) rfl rfl (by omega) (by omega) (fun z => by omega) (fun g1 => ?_)
  refine R_iconst (v := 1) rfl rfl ?_
  refine R_goto rfl rfl ?_
  refine R_cV (as := [.int 1]) rfl rfl iv_M_passes (pass_1) (by omega) rfl rfl rfl (by decide) rfl rfl (Nat.le_of_ble_eq_true rfl) (fun _ q => ?_)
  obtain rfl := q.symm
  refine R_if_ne rfl rfl (fun _ => ?_) (fun z => absurd z (by decide))
  refine R_aload_n rfl rfl ?_
  refine R_cV (as := []) rfl rfl iv_M_remember (sp_remember (hn.fr (smP_sI (p := pQ) (k := 120) (j := 0) (x := 0) (by unfold pQ; omega)) (fun b => by unfold pQ; omega) (by unfold pQ; omega)) (hH.fr (smP_sI (p := pQ) (k := 120) (j := 0) (x := 0) (by unfold pQ; omega)) (by unfold pQ; omega) (fun b => by unfold pQ; omega))) (by omega) rfl rfl rfl (by decide) rfl rfl (Nat.le_of_ble_eq_true rfl) (fun ρ hρ => ?_)
  obtain ⟨hρ, hρH⟩ := hρ
  exact ((ch_addRelation (pR_f hρ (hn.fr (smP_sI (p := pQ) (k := 120) (j := 0) (x := 0) (by unfold pQ; omega)) (fun b => by unfold pQ; omega) (by unfold pQ; omega))) hc h6 ((hρ.i (by unfold pR; omega)).trans sI_s) (by omega)).mono (am_Ok.mono (fun τ e => ⟨(ch_end (smP_sI (p := pQ) (k := 120) (j := 0) (x := 0) (by unfold pQ; omega)) hρ hρH e.1).1, e.2.1, e.2.2, (ch_end (smP_sI (p := pQ) (k := 120) (j := 0) (x := 0) (by unfold pQ; omega)) hρ hρH e.1).2⟩))).weak ⟨rfl, trivial⟩
set_option maxRecDepth 100000 in
set_option maxHeartbeats 4000000 in
theorem sp_M_addRelation_z {σ : am_G} {h w rh pn : Nat} {f v rl : am_Gr} {I : Nat → Int32} (hn : nV σ h w f v rh rl pn I) (hc : cnG v h 1 = 0) : am_Call am_TX 14 0 c_M_addRelation [.ref 120] (mm σ) (am_Ok (some (.int 0)) (fun σ1 => smP pQ σ σ1 ∧ σ1.1 120 0 = 1)) := by
  have hv := hn.toV
  have hs := hn.2.1.2.1
  have hh1 := hv.1.1.1
  have hh6 := hv.1.1.2
  have hw1 := hv.1.2.1
  have hw6 := hv.1.2.2
  have hp6 := hn.2.1.2.2.2.1.1
  have hr6 := hn.2.1.2.2.2.2.2.2.1
  have hs7 := lw_lt hh6
  have ws7 := lw_lt hw6
  refine ⟨mf_M_addRelation, Nat.le_of_ble_eq_true rfl, ?_⟩
  refine R_aload_n rfl rfl ?_
  refine R_aload_n rfl rfl ?_
  refine R_cV (as := []) rfl rfl iv_M_isVector ((by have z := sp_isVector hn; rw [← cnG_1, zP_f (fun y => y hc)] at z; exact z)) (by omega) rfl rfl rfl (by decide) rfl rfl (Nat.le_of_ble_eq_true rfl) (fun _ q => ?_)
  obtain rfl := q.symm
  refine R_if_eq rfl rfl (fun _ => ?_) (fun z => absurd z (by decide))
  refine R_iconst (v := 0) rfl rfl ?_
  refine R_cV (as := [.int 0]) rfl rfl iv_M_passes (pass_0) (by omega) rfl rfl rfl (by decide) rfl rfl (Nat.le_of_ble_eq_true rfl) (fun _ q => ?_)
  obtain rfl := q.symm
  refine R_if_ne rfl rfl (fun z => absurd z (by decide)) (fun _ => ?_)
  refine R_iconst (v := 0) rfl rfl ?_
  exact T_ireturn rfl rfl (am_oki rfl ⟨(smP_sI (p := pQ) (k := 120) (j := 0) (x := 1) (by unfold pQ; omega)), sI_s⟩)
set_option maxRecDepth 100000 in
set_option maxHeartbeats 4000000 in
theorem sp_M_addRelation_f {σ : am_G} {h w rh pn : Nat} {f v rl : am_Gr} {I : Nat → Int32} (hn : nV σ h w f v rh rl pn I) (hc : ¬ cnG v h 1 = 0) (h6 : ¬ rh < 6) : am_Call am_TX 14 0 c_M_addRelation [.ref 120] (mm σ) (am_Ok (some (.int 0)) (fun σ1 => smP pQ σ σ1 ∧ σ1.1 120 0 = 1)) := by
  have hv := hn.toV
  have hs := hn.2.1.2.1
  have hh1 := hv.1.1.1
  have hh6 := hv.1.1.2
  have hw1 := hv.1.2.1
  have hw6 := hv.1.2.2
  have hp6 := hn.2.1.2.2.2.1.1
  have hr6 := hn.2.1.2.2.2.2.2.2.1
  have hs7 := lw_lt hh6
  have ws7 := lw_lt hw6
  refine ⟨mf_M_addRelation, Nat.le_of_ble_eq_true rfl, ?_⟩
  refine R_aload_n rfl rfl ?_
  refine R_aload_n rfl rfl ?_
  refine R_cV (as := []) rfl rfl iv_M_isVector ((by have z := sp_isVector hn; rw [← cnG_1, zP_t hc] at z; exact z)) (by omega) rfl rfl rfl (by decide) rfl rfl (Nat.le_of_ble_eq_true rfl) (fun _ q => ?_)
  obtain rfl := q.symm
  refine R_if_eq rfl rfl (fun z => absurd z (by decide)) (fun _ => ?_)
  refine R_aload_n rfl rfl ?_
  refine R_bipush (v := 13) rfl (by decide) ?_
  refine R_cV (as := [.int 13]) rfl rfl iv_M_get (mget_x hn (j := 13) (by omega) hn.1.2.2.2.2.2.1) (by omega) rfl rfl rfl (by decide) rfl rfl (Nat.le_of_ble_eq_true rfl) (fun _ q => ?_)
  obtain rfl := q.symm
  refine R_bipush (v := 6) rfl (by decide) ?_
  refine R_nicmp_ge (x := rh) (y := 6) rfl rfl (by omega) (by omega) (fun g1 => ?_) (fun z => by omega)
  refine R_iconst (v := 0) rfl rfl ?_
  refine R_cV (as := [.int 0]) rfl rfl iv_M_passes (pass_0) (by omega) rfl rfl rfl (by decide) rfl rfl (Nat.le_of_ble_eq_true rfl) (fun _ q => ?_)
  obtain rfl := q.symm
  refine R_if_ne rfl rfl (fun z => absurd z (by decide)) (fun _ => ?_)
  refine R_iconst (v := 0) rfl rfl ?_
  exact T_ireturn rfl rfl (am_oki rfl ⟨(smP_sI (p := pQ) (k := 120) (j := 0) (x := 1) (by unfold pQ; omega)), sI_s⟩)
