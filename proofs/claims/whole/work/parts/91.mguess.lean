/-! ===== the model: guesses ===== -/
def pGu (a b : Nat) : Prop := pW a b ∨ (a = 121 ∧ 3 ≤ b ∧ b < 10)
def pRp (a b : Nat) : Prop := pGu a b ∨ a = 127
theorem pGu_W : ∀ a b, pW a b → pGu a b := fun _ _ h => Or.inl h
theorem pGu_N : ∀ a b, pGu a b → pN a b := fun a b h => by unfold pGu pW at h; unfold pN pQ; omega
theorem gu_ok {h w rh pn : Nat} {f v rl : am_Gr} {I I' : Nat → Int32} (hk : okV h w f v rh rl pn I) (e2 : I' 2 = I 2) (e3 : I' 3 = I 3) (e8 : ∀ j, j < 6 → I' (8 + j) = I (8 + j)) (hg : (∀ j, j < 4 → I' (4 + j) = -1) ∨ ∃ g, g < pn ∧ I' 4 = nI g) : okV h w f v rh rl pn I' := by
  obtain ⟨a1, a2, a3, ⟨a4, P, hP⟩, -, a6, a7⟩ := hk
  exact ⟨a1, a2, a3, ⟨a4, P, fun j hj => by rw [e8 j (by omega)]; exact hP j hj⟩, hg, by rw [e2, e3]; exact a6, a7⟩
theorem gu_mV {σ τ : am_G} {h w rh pn : Nat} {f v rl : am_Gr} {I : Nat → Int32} (hn : nV σ h w f v rh rl pn I) (q : smP pGu σ τ) : mV τ h w f := by
  obtain ⟨⟨⟨a1, a2, a3⟩, -⟩, ⟨hk, -⟩, e, e4⟩ := hn
  have o : ∀ k, (k < 3 ∨ 10 ≤ k) → τ.2.1 121 k = σ.2.1 121 k := fun k hk => (q.1 121 k (by unfold pGu pW; omega)).2
  refine ⟨hk, Or.inl (q.2.trans e), Or.inl ⟨((q.1 120 4 (by unfold pGu pW; omega)).1).trans e4, ?_⟩⟩
  rw [q.2.trans e]
  exact ⟨(o 0 (by omega)).trans a1, (o 1 (by omega)).trans a2, fun i j hi hj => (o _ (by omega)).trans (a3 i j hi hj)⟩
/-- the guess put anew -/
theorem gu_nV {σ τ : am_G} {h w rh pn : Nat} {f v rl : am_Gr} {I I' : Nat → Int32} (hn : nV σ h w f v rh rl pn I) (q : smP pRp σ τ) (hI : ∀ j, (j < 4 ∨ 8 ≤ j) → j ≠ 0 → j ≠ 1 → I' j = I j) (hg : (∀ j, j < 4 → I' (4 + j) = -1) ∧ τ.2.1 121 3 = 0 ∨ (∃ g, g < pn ∧ I' 4 = nI g) ∧ τ.2.1 121 3 = 1 ∧ ∀ j, j < 4 → τ.2.1 121 (4 + j) = (I' (4 + j)).toInt64) (e8 : (τ.2.1 121 8).toInt32 = I' 0) (e9 : (τ.2.1 121 9).toInt32 = I' 1) : nV τ h w f v rh rl pn I' := by
  obtain ⟨⟨⟨a1, a2, a3⟩, ⟨b1, b2⟩, c1, -, d1, f1, g1, i1⟩, hk, e, e4⟩ := hn
  have p6 := hk.2.2.2.1.1
  have o : ∀ k, (k < 3 ∨ 10 ≤ k) → τ.2.1 121 k = σ.2.1 121 k := fun k hk => (q.1 121 k (by unfold pRp pGu pW; omega)).2
  refine ⟨⟨⟨(o 0 (by omega)).trans a1, (o 1 (by omega)).trans a2, fun i j hi hj => (o _ (by omega)).trans (a3 i j hi hj)⟩, ⟨(o 2 (by omega)).trans b1, fun j hj => by rw [hI _ (by omega) (by omega) (by omega)]; exact (o _ (by omega)).trans (b2 j hj)⟩, ?_, ⟨e8, e9⟩, ?_, (o 13 (by omega)).trans f1, fun j hj => (o _ (by omega)).trans (g1 j hj), fun k j hk hj => (o _ (by omega)).trans (i1 k j hk hj)⟩, gu_ok hk (hI 2 (by omega) (by omega) (by omega)) (hI 3 (by omega) (by omega) (by omega)) (fun j hj => hI _ (by omega) (by omega) (by omega)) (hg.imp (fun z => z.1) (fun z => z.1)), q.2.trans e, ((q.1 120 4 (by unfold pRp pGu pW; omega)).1).trans e4⟩
  · rcases hg with ⟨y, z⟩ | ⟨⟨g, y1, y2⟩, z, t⟩
    · exact Or.inl ⟨y 0 (by omega), z⟩
    · exact Or.inr ⟨fun x => absurd (y2.symm.trans x) (nI_m1 (by omega)), z, t⟩
  · rw [hI 2 (by omega) (by omega) (by omega), hI 3 (by omega) (by omega) (by omega), o 10 (by omega), o 11 (by omega), o 12 (by omega)]; exact d1
theorem gu_v {σ : am_G} {h w rh pn : Nat} {f v rl : am_Gr} {I : Nat → Int32} (hn : nV σ h w f v rh rl pn I) (hc : ¬ I 4 = -1) : ∀ j, j < 4 → (σ.2.1 121 (4 + j)).toInt32 = I (4 + j) := fun j hj => by
  rw [(hn.1.2.2.1.elim (fun z => absurd z.1 hc) (fun z => z.2.2)) j hj, i3264]
set_option maxRecDepth 100000 in
set_option maxHeartbeats 4000000 in
theorem sp_put {σ : am_G} {j : Nat} {x : Int32} (h2 : σ.2.2 = 121) (hj : j < 4) : am_Call am_TX 1 0 c_M_put [.ref 120, .int (nI j), .int x] (mm σ) (am_Ok (some (.int (zP (¬ (σ.2.1 121 (4 + j)).toInt32 = x)))) (fun σ1 => σ1 = sL σ 121 (4 + j) x.toInt64)) := by
  refine ⟨mf_M_put, Nat.le_of_ble_eq_true rfl, ?_⟩
  refine R_aload_n rfl rfl ?_
  refine R_iconst (v := 4) rfl rfl ?_
  refine R_iload_n rfl rfl ?_
  refine R_iaddN (x := 4) (y := j) rfl ?_
  refine R_cV (as := [.int (nI (4 + j))]) rfl rfl iv_M_get (sp_get (j := 4 + j) h2 (Or.inl rfl) (by omega)) (by omega) rfl rfl rfl (by decide) rfl rfl (Nat.le_of_ble_eq_true rfl) (fun _ q => ?_)
  obtain rfl := q.symm
  refine R_iload_n rfl rfl ?_
  refine R_icmp_eq rfl rfl (fun g1 => ?_) (fun g1 => ?_)
  · refine R_iconst (v := 0) rfl rfl ?_
    refine R_istore_n rfl (by decide) ?_
    refine R_aload_n rfl rfl ?_
    refine R_gP (x := 121) rfl rfl fp_11_1 rfl ?_
    refine R_iconst (v := 4) rfl rfl ?_
    refine R_iload_n rfl rfl ?_
    refine R_iaddN (x := 4) (y := j) rfl ?_
    refine R_iload_n rfl rfl ?_
    refine R_i2l rfl ?_
    refine R_wL (j := (4 + j)) rfl rfl rfl (by omega) (by decide) ?_
    refine R_iload_n rfl rfl ?_
    exact T_zreturn rfl rfl rfl (am_oki (zP_f (fun z => z g1)).symm rfl)
  · refine R_iconst (v := 1) rfl rfl ?_
    refine R_goto rfl rfl ?_
    refine R_istore_n rfl (by decide) ?_
    refine R_aload_n rfl rfl ?_
    refine R_gP (x := 121) rfl rfl fp_11_1 rfl ?_
    refine R_iconst (v := 4) rfl rfl ?_
    refine R_iload_n rfl rfl ?_
    refine R_iaddN (x := 4) (y := j) rfl ?_
    refine R_iload_n rfl rfl ?_
    refine R_i2l rfl ?_
    refine R_wL (j := (4 + j)) rfl rfl rfl (by omega) (by decide) ?_
    refine R_iload_n rfl rfl ?_
    exact T_zreturn rfl rfl rfl (am_oki (zP_t g1).symm rfl)
set_option maxRecDepth 100000 in
set_option maxHeartbeats 4000000 in
theorem sp_guessBy {σ : am_G} {h w rh pn : Nat} {f v rl : am_Gr} {I : Nat → Int32} {p : Nat} {P : Nat → Nat} (hn : nV σ h w f v rh rl pn I) (hP : prP pn I P) (hp : p < pn) : am_Call am_TX 7 0 c_M_guessBy [.ref 120, .int (nI p)] (mm σ) (am_Ok (some (.int (zP (¬ ((gvF f (P p) h w p) 0 = I (4 + 0) ∧ (gvF f (P p) h w p) 1 = I (4 + 1) ∧ (gvF f (P p) h w p) 2 = I (4 + 2) ∧ (gvF f (P p) h w p) 3 = I (4 + 3)))))) (fun σ1 => smP pGu σ σ1 ∧ nV σ1 h w f v rh rl pn (uG I (gvF f (P p) h w p)))) := by
  have hv := hn.toV
  have hs := hn.2.1.2.1
  have hh1 := hv.1.1.1
  have hh6 := hv.1.1.2
  have hw1 := hv.1.2.1
  have hw6 := hv.1.2.2
  have hp6 := hn.2.1.2.2.2.1.1
  have hr6 := hn.2.1.2.2.2.2.2.2.1
  have hs7 := lw_lt hh6
  have ws7 := lw_lt hw6
  have hmd : P p ∈ mdL := List.mem_cons_of_mem _ (hP p hp).2
  have hm97 := md_97 hmd
  refine ⟨mf_M_guessBy, Nat.le_of_ble_eq_true rfl, ?_⟩
  refine R_aload_n rfl rfl ?_
  refine R_bipush (v := 50) rfl (by decide) ?_
  refine R_iload_n rfl rfl ?_
  refine R_iaddN (x := 50) (y := p) rfl ?_
  refine R_cV (as := [.int (nI (50 + p))]) rfl rfl iv_M_get ((by have z := mget_x hn (j := (50 + p)) (by omega) (hn.1.2.1.2 _ (by omega)) (σ := σ); rw [(hP _ (by omega)).1] at z; exact z)) (by omega) rfl rfl rfl (by decide) rfl rfl (Nat.le_of_ble_eq_true rfl) (fun _ q => ?_)
  obtain rfl := q.symm
  refine R_istore_n rfl (by decide) ?_
  refine R_aload_n rfl rfl ?_
  refine R_iconst (v := 3) rfl rfl ?_
  refine R_cV (as := [.int 3]) rfl rfl iv_M_get (mget_3 hn) (by omega) rfl rfl rfl (by decide) rfl rfl (Nat.le_of_ble_eq_true rfl) (fun _ q => ?_)
  obtain rfl := q.symm
  refine R_zif_ne rfl rfl (fun g1 => ?_) (fun g1 => ?_)
  · refine R_iconst (v := 0) rfl rfl ?_
    refine R_istore_n rfl (by decide) ?_
    refine R_aload_n rfl rfl ?_
    refine R_gP (x := 121) rfl rfl fp_11_1 rfl ?_
    refine R_iconst (v := 3) rfl rfl ?_
    refine R_lconst (v := 1) rfl rfl ?_
    refine R_wL (j := 3) rfl rfl rfl (by omega) (by decide) ?_
    refine R_aload_n rfl rfl ?_
    refine R_iconst (v := 0) rfl rfl ?_
    refine R_iload_n rfl rfl ?_
    refine R_cV (as := [.int 0, .int (nI p)]) rfl rfl iv_M_put ((by have z := sp_put (σ := (sL σ 121 3 1)) (j := 0) (x := nI p) ((smP_sL (p := pGu) (k := 121) (j := 3) (x := 1) (by unfold pGu; omega)).2.trans hn.2.2.1) (by omega); rw [show (sL σ 121 3 1).2.1 121 (4 + 0) = σ.2.1 121 (4 + 0) from sL_o (Or.inr (by omega))] at z; exact z)) (by omega) rfl rfl rfl (by decide) rfl rfl (Nat.le_of_ble_eq_true rfl) (fun _ q => ?_)
    obtain rfl := q.symm
    refine R_istore rfl (by decide) ?_
    refine R_aload_n rfl rfl ?_
    refine R_iconst (v := 1) rfl rfl ?_
    refine R_aload_n rfl rfl ?_
    refine R_iload_n rfl rfl ?_
    refine R_cV (as := [.int (nI (P p))]) rfl rfl iv_M_rankAll (sp_rankAll (m := (P p)) (gu_mV hn ((smP_sL (p := pGu) (k := 121) (j := 3) (x := 1) (by unfold pGu; omega)).trans (smP_sL (p := pGu) (k := 121) (j := (4 + 0)) (x := (nI p).toInt64) (by unfold pGu; omega)))) hs (by omega)) (by omega) rfl rfl rfl (by decide) rfl rfl (Nat.le_of_ble_eq_true rfl) (fun σ4 hσ4 => ?_)
    refine R_cV (as := [.int 1, .int (nI (rkO f (P p) (2 ^ h - 1) (2 ^ w - 1) h w))]) rfl rfl iv_M_put ((by have z := sp_put (σ := σ4) (j := 1) (x := nI (rkO f (P p) (2 ^ h - 1) (2 ^ w - 1) h w)) ((((smP_sL (p := pGu) (k := 121) (j := 3) (x := 1) (by unfold pGu; omega)).trans (smP_sL (p := pGu) (k := 121) (j := (4 + 0)) (x := (nI p).toInt64) (by unfold pGu; omega))).trans (hσ4.mono (q := pGu) pGu_W)).2.trans hn.2.2.1) (by omega); rw [show σ4.2.1 121 (4 + 1) = σ.2.1 121 (4 + 1) from ((hσ4.1 121 _ (by unfold pW; omega)).2).trans ((sL_o (Or.inr (by omega))).trans (sL_o (Or.inr (by omega))))] at z; exact z)) (by omega) rfl rfl rfl (by decide) rfl rfl (Nat.le_of_ble_eq_true rfl) (fun _ q => ?_)
    obtain rfl := q.symm
    refine R_istore rfl (by decide) ?_
    refine R_aload_n rfl rfl ?_
    refine R_iconst (v := 2) rfl rfl ?_
    refine R_aload_n rfl rfl ?_
    refine R_iload_n rfl rfl ?_
    refine R_aload_n rfl rfl ?_
    refine R_cV (as := []) rfl rfl iv_M_allColumns (sp_mallColumns (gu_mV hn ((((smP_sL (p := pGu) (k := 121) (j := 3) (x := 1) (by unfold pGu; omega)).trans (smP_sL (p := pGu) (k := 121) (j := (4 + 0)) (x := (nI p).toInt64) (by unfold pGu; omega))).trans (hσ4.mono (q := pGu) pGu_W)).trans (smP_sL (p := pGu) (k := 121) (j := (4 + 1)) (x := (nI (rkO f (P p) (2 ^ h - 1) (2 ^ w - 1) h w)).toInt64) (by unfold pGu; omega))))) (by omega) rfl rfl rfl (by decide) rfl rfl (Nat.le_of_ble_eq_true rfl) (fun _ q => ?_)
    obtain rfl := q.symm
    refine R_cV (as := [.int (nI (P p)), .int (nI (2 ^ w - 1))]) rfl rfl iv_M_profileOfRows (sp_mprofileOfRows (m := P p) (gu_mV hn ((((smP_sL (p := pGu) (k := 121) (j := 3) (x := 1) (by unfold pGu; omega)).trans (smP_sL (p := pGu) (k := 121) (j := (4 + 0)) (x := (nI p).toInt64) (by unfold pGu; omega))).trans (hσ4.mono (q := pGu) pGu_W)).trans (smP_sL (p := pGu) (k := 121) (j := (4 + 1)) (x := (nI (rkO f (P p) (2 ^ h - 1) (2 ^ w - 1) h w)).toInt64) (by unfold pGu; omega)))) hs (md_dom hmd).1 (md_dom hmd).2) (by omega) rfl rfl rfl (by decide) rfl rfl (Nat.le_of_ble_eq_true rfl) (fun σ8 hσ8 => ?_)
    refine R_cV (as := [.int 2, .int (nI (prR f (P p) h w h))]) rfl rfl iv_M_put ((by have z := sp_put (σ := σ8) (j := 2) (x := nI (prR f (P p) h w h)) ((((((smP_sL (p := pGu) (k := 121) (j := 3) (x := 1) (by unfold pGu; omega)).trans (smP_sL (p := pGu) (k := 121) (j := (4 + 0)) (x := (nI p).toInt64) (by unfold pGu; omega))).trans (hσ4.mono (q := pGu) pGu_W)).trans (smP_sL (p := pGu) (k := 121) (j := (4 + 1)) (x := (nI (rkO f (P p) (2 ^ h - 1) (2 ^ w - 1) h w)).toInt64) (by unfold pGu; omega))).trans (hσ8.mono (q := pGu) pGu_W)).2.trans hn.2.2.1) (by omega); rw [show σ8.2.1 121 (4 + 2) = σ.2.1 121 (4 + 2) from ((hσ8.1 121 _ (by unfold pW; omega)).2).trans ((sL_o (Or.inr (by omega))).trans (((hσ4.1 121 _ (by unfold pW; omega)).2).trans ((sL_o (Or.inr (by omega))).trans (sL_o (Or.inr (by omega))))))] at z; exact z)) (by omega) rfl rfl rfl (by decide) rfl rfl (Nat.le_of_ble_eq_true rfl) (fun _ q => ?_)
    obtain rfl := q.symm
    refine R_istore rfl (by decide) ?_
    refine R_aload_n rfl rfl ?_
    refine R_iconst (v := 3) rfl rfl ?_
    refine R_aload_n rfl rfl ?_
    refine R_iload_n rfl rfl ?_
    refine R_aload_n rfl rfl ?_
    refine R_cV (as := []) rfl rfl iv_M_allRows (sp_mallRows (gu_mV hn ((((((smP_sL (p := pGu) (k := 121) (j := 3) (x := 1) (by unfold pGu; omega)).trans (smP_sL (p := pGu) (k := 121) (j := (4 + 0)) (x := (nI p).toInt64) (by unfold pGu; omega))).trans (hσ4.mono (q := pGu) pGu_W)).trans (smP_sL (p := pGu) (k := 121) (j := (4 + 1)) (x := (nI (rkO f (P p) (2 ^ h - 1) (2 ^ w - 1) h w)).toInt64) (by unfold pGu; omega))).trans (hσ8.mono (q := pGu) pGu_W)).trans (smP_sL (p := pGu) (k := 121) (j := (4 + 2)) (x := (nI (prR f (P p) h w h)).toInt64) (by unfold pGu; omega))))) (by omega) rfl rfl rfl (by decide) rfl rfl (Nat.le_of_ble_eq_true rfl) (fun _ q => ?_)
    obtain rfl := q.symm
    refine R_cV (as := [.int (nI (P p)), .int (nI (2 ^ h - 1))]) rfl rfl iv_M_profileOfColumns (sp_mprofileOfColumns (m := P p) (S := 2 ^ h - 1) (gu_mV hn ((((((smP_sL (p := pGu) (k := 121) (j := 3) (x := 1) (by unfold pGu; omega)).trans (smP_sL (p := pGu) (k := 121) (j := (4 + 0)) (x := (nI p).toInt64) (by unfold pGu; omega))).trans (hσ4.mono (q := pGu) pGu_W)).trans (smP_sL (p := pGu) (k := 121) (j := (4 + 1)) (x := (nI (rkO f (P p) (2 ^ h - 1) (2 ^ w - 1) h w)).toInt64) (by unfold pGu; omega))).trans (hσ8.mono (q := pGu) pGu_W)).trans (smP_sL (p := pGu) (k := 121) (j := (4 + 2)) (x := (nI (prR f (P p) h w h)).toInt64) (by unfold pGu; omega)))) hs (md_dom hmd).1 (md_dom hmd).2 (by first | assumption | exact lw_lt (by omega) | exact wi_lt (by first | assumption | omega) (by omega) | exact wo_lt (by first | assumption | omega) (by omega) | omega)) (by omega) rfl rfl rfl (by decide) rfl rfl (Nat.le_of_ble_eq_true rfl) (fun σ12 hσ12 => ?_)
    refine R_cV (as := [.int 3, .int (nI (prC f (P p) (2 ^ h - 1) h w w))]) rfl rfl iv_M_put ((by have z := sp_put (σ := σ12) (j := 3) (x := nI (prC f (P p) (2 ^ h - 1) h w w)) ((((((((smP_sL (p := pGu) (k := 121) (j := 3) (x := 1) (by unfold pGu; omega)).trans (smP_sL (p := pGu) (k := 121) (j := (4 + 0)) (x := (nI p).toInt64) (by unfold pGu; omega))).trans (hσ4.mono (q := pGu) pGu_W)).trans (smP_sL (p := pGu) (k := 121) (j := (4 + 1)) (x := (nI (rkO f (P p) (2 ^ h - 1) (2 ^ w - 1) h w)).toInt64) (by unfold pGu; omega))).trans (hσ8.mono (q := pGu) pGu_W)).trans (smP_sL (p := pGu) (k := 121) (j := (4 + 2)) (x := (nI (prR f (P p) h w h)).toInt64) (by unfold pGu; omega))).trans (hσ12.mono (q := pGu) pGu_W)).2.trans hn.2.2.1) (by omega); rw [show σ12.2.1 121 (4 + 3) = σ.2.1 121 (4 + 3) from ((hσ12.1 121 _ (by unfold pW; omega)).2).trans ((sL_o (Or.inr (by omega))).trans (((hσ8.1 121 _ (by unfold pW; omega)).2).trans ((sL_o (Or.inr (by omega))).trans (((hσ4.1 121 _ (by unfold pW; omega)).2).trans ((sL_o (Or.inr (by omega))).trans (sL_o (Or.inr (by omega))))))))] at z; exact z)) (by omega) rfl rfl rfl (by decide) rfl rfl (Nat.le_of_ble_eq_true rfl) (fun _ q => ?_)
    obtain rfl := q.symm
    refine R_istore rfl (by decide) ?_
    refine R_iload_n rfl rfl ?_
    refine R_if_ne rfl rfl (fun z => absurd z (by decide)) (fun _ => ?_)
    refine R_iload rfl rfl ?_
    refine R_zif_ne rfl rfl (fun g2 => ?_) (fun g2 => ?_)
    · refine R_iconst (v := 1) rfl rfl ?_
      refine R_goto rfl rfl ?_
      refine T_zreturn rfl rfl rfl (am_oki (zP_t (p := ¬ ((gvF f (P p) h w p) 0 = I (4 + 0) ∧ (gvF f (P p) h w p) 1 = I (4 + 1) ∧ (gvF f (P p) h w p) 2 = I (4 + 2) ∧ (gvF f (P p) h w p) 3 = I (4 + 3))) (fun z => g2 ((gu_v hn g1 0 (by omega)).trans (z.1).symm))).symm ⟨((((((((smP_sL (p := pGu) (k := 121) (j := 3) (x := 1) (by unfold pGu; omega)).trans (smP_sL (p := pGu) (k := 121) (j := (4 + 0)) (x := (nI p).toInt64) (by unfold pGu; omega))).trans (hσ4.mono (q := pGu) pGu_W)).trans (smP_sL (p := pGu) (k := 121) (j := (4 + 1)) (x := (nI (rkO f (P p) (2 ^ h - 1) (2 ^ w - 1) h w)).toInt64) (by unfold pGu; omega))).trans (hσ8.mono (q := pGu) pGu_W)).trans (smP_sL (p := pGu) (k := 121) (j := (4 + 2)) (x := (nI (prR f (P p) h w h)).toInt64) (by unfold pGu; omega))).trans (hσ12.mono (q := pGu) pGu_W)).trans (smP_sL (p := pGu) (k := 121) (j := (4 + 3)) (x := (nI (prC f (P p) (2 ^ h - 1) h w w)).toInt64) (by unfold pGu; omega))), gu_nV hn (((((((((smP_sL (p := pGu) (k := 121) (j := 3) (x := 1) (by unfold pGu; omega)).trans (smP_sL (p := pGu) (k := 121) (j := (4 + 0)) (x := (nI p).toInt64) (by unfold pGu; omega))).trans (hσ4.mono (q := pGu) pGu_W)).trans (smP_sL (p := pGu) (k := 121) (j := (4 + 1)) (x := (nI (rkO f (P p) (2 ^ h - 1) (2 ^ w - 1) h w)).toInt64) (by unfold pGu; omega))).trans (hσ8.mono (q := pGu) pGu_W)).trans (smP_sL (p := pGu) (k := 121) (j := (4 + 2)) (x := (nI (prR f (P p) h w h)).toInt64) (by unfold pGu; omega))).trans (hσ12.mono (q := pGu) pGu_W)).trans (smP_sL (p := pGu) (k := 121) (j := (4 + 3)) (x := (nI (prC f (P p) (2 ^ h - 1) h w w)).toInt64) (by unfold pGu; omega))).mono (fun a b z => Or.inl z)) (fun j hj _ _ => ?_) (Or.inr ⟨⟨p, hp, rfl⟩, (sL_o (Or.inr (by omega))).trans (((hσ12.1 121 _ (by unfold pW; omega)).2).trans ((sL_o (Or.inr (by omega))).trans (((hσ8.1 121 _ (by unfold pW; omega)).2).trans ((sL_o (Or.inr (by omega))).trans (((hσ4.1 121 _ (by unfold pW; omega)).2).trans ((sL_o (Or.inr (by omega))).trans (sL_s))))))), ?_⟩) ?_ ?_⟩)
      · unfold uG; rw [if_neg (by omega)]
      · intro j hj
        rcases (show j = 0 ∨ j = 1 ∨ j = 2 ∨ j = 3 by omega) with e | e | e | e
        · subst e; exact (sL_o (Or.inr (by omega))).trans (((hσ12.1 121 _ (by unfold pW; omega)).2).trans ((sL_o (Or.inr (by omega))).trans (((hσ8.1 121 _ (by unfold pW; omega)).2).trans ((sL_o (Or.inr (by omega))).trans (((hσ4.1 121 _ (by unfold pW; omega)).2).trans (sL_s))))))
        · subst e; exact (sL_o (Or.inr (by omega))).trans (((hσ12.1 121 _ (by unfold pW; omega)).2).trans ((sL_o (Or.inr (by omega))).trans (((hσ8.1 121 _ (by unfold pW; omega)).2).trans (sL_s))))
        · subst e; exact (sL_o (Or.inr (by omega))).trans (((hσ12.1 121 _ (by unfold pW; omega)).2).trans (sL_s))
        · subst e; exact sL_s
      · rw [show _ = σ.2.1 121 8 from (sL_o (Or.inr (by omega))).trans (((hσ12.1 121 _ (by unfold pW; omega)).2).trans ((sL_o (Or.inr (by omega))).trans (((hσ8.1 121 _ (by unfold pW; omega)).2).trans ((sL_o (Or.inr (by omega))).trans (((hσ4.1 121 _ (by unfold pW; omega)).2).trans ((sL_o (Or.inr (by omega))).trans (sL_o (Or.inr (by omega)))))))))]; exact hn.1.2.2.2.1.1
      · rw [show _ = σ.2.1 121 9 from (sL_o (Or.inr (by omega))).trans (((hσ12.1 121 _ (by unfold pW; omega)).2).trans ((sL_o (Or.inr (by omega))).trans (((hσ8.1 121 _ (by unfold pW; omega)).2).trans ((sL_o (Or.inr (by omega))).trans (((hσ4.1 121 _ (by unfold pW; omega)).2).trans ((sL_o (Or.inr (by omega))).trans (sL_o (Or.inr (by omega)))))))))]; exact hn.1.2.2.2.1.2
    · refine R_iload rfl rfl ?_
      refine R_zif_ne rfl rfl (fun g3 => ?_) (fun g3 => ?_)
      · refine R_iconst (v := 1) rfl rfl ?_
        refine R_goto rfl rfl ?_
        refine T_zreturn rfl rfl rfl (am_oki (zP_t (p := ¬ ((gvF f (P p) h w p) 0 = I (4 + 0) ∧ (gvF f (P p) h w p) 1 = I (4 + 1) ∧ (gvF f (P p) h w p) 2 = I (4 + 2) ∧ (gvF f (P p) h w p) 3 = I (4 + 3))) (fun z => g3 ((gu_v hn g1 1 (by omega)).trans (z.2.1).symm))).symm ⟨((((((((smP_sL (p := pGu) (k := 121) (j := 3) (x := 1) (by unfold pGu; omega)).trans (smP_sL (p := pGu) (k := 121) (j := (4 + 0)) (x := (nI p).toInt64) (by unfold pGu; omega))).trans (hσ4.mono (q := pGu) pGu_W)).trans (smP_sL (p := pGu) (k := 121) (j := (4 + 1)) (x := (nI (rkO f (P p) (2 ^ h - 1) (2 ^ w - 1) h w)).toInt64) (by unfold pGu; omega))).trans (hσ8.mono (q := pGu) pGu_W)).trans (smP_sL (p := pGu) (k := 121) (j := (4 + 2)) (x := (nI (prR f (P p) h w h)).toInt64) (by unfold pGu; omega))).trans (hσ12.mono (q := pGu) pGu_W)).trans (smP_sL (p := pGu) (k := 121) (j := (4 + 3)) (x := (nI (prC f (P p) (2 ^ h - 1) h w w)).toInt64) (by unfold pGu; omega))), gu_nV hn (((((((((smP_sL (p := pGu) (k := 121) (j := 3) (x := 1) (by unfold pGu; omega)).trans (smP_sL (p := pGu) (k := 121) (j := (4 + 0)) (x := (nI p).toInt64) (by unfold pGu; omega))).trans (hσ4.mono (q := pGu) pGu_W)).trans (smP_sL (p := pGu) (k := 121) (j := (4 + 1)) (x := (nI (rkO f (P p) (2 ^ h - 1) (2 ^ w - 1) h w)).toInt64) (by unfold pGu; omega))).trans (hσ8.mono (q := pGu) pGu_W)).trans (smP_sL (p := pGu) (k := 121) (j := (4 + 2)) (x := (nI (prR f (P p) h w h)).toInt64) (by unfold pGu; omega))).trans (hσ12.mono (q := pGu) pGu_W)).trans (smP_sL (p := pGu) (k := 121) (j := (4 + 3)) (x := (nI (prC f (P p) (2 ^ h - 1) h w w)).toInt64) (by unfold pGu; omega))).mono (fun a b z => Or.inl z)) (fun j hj _ _ => ?_) (Or.inr ⟨⟨p, hp, rfl⟩, (sL_o (Or.inr (by omega))).trans (((hσ12.1 121 _ (by unfold pW; omega)).2).trans ((sL_o (Or.inr (by omega))).trans (((hσ8.1 121 _ (by unfold pW; omega)).2).trans ((sL_o (Or.inr (by omega))).trans (((hσ4.1 121 _ (by unfold pW; omega)).2).trans ((sL_o (Or.inr (by omega))).trans (sL_s))))))), ?_⟩) ?_ ?_⟩)
        · unfold uG; rw [if_neg (by omega)]
        · intro j hj
          rcases (show j = 0 ∨ j = 1 ∨ j = 2 ∨ j = 3 by omega) with e | e | e | e
          · subst e; exact (sL_o (Or.inr (by omega))).trans (((hσ12.1 121 _ (by unfold pW; omega)).2).trans ((sL_o (Or.inr (by omega))).trans (((hσ8.1 121 _ (by unfold pW; omega)).2).trans ((sL_o (Or.inr (by omega))).trans (((hσ4.1 121 _ (by unfold pW; omega)).2).trans (sL_s))))))
          · subst e; exact (sL_o (Or.inr (by omega))).trans (((hσ12.1 121 _ (by unfold pW; omega)).2).trans ((sL_o (Or.inr (by omega))).trans (((hσ8.1 121 _ (by unfold pW; omega)).2).trans (sL_s))))
          · subst e; exact (sL_o (Or.inr (by omega))).trans (((hσ12.1 121 _ (by unfold pW; omega)).2).trans (sL_s))
          · subst e; exact sL_s
        · rw [show _ = σ.2.1 121 8 from (sL_o (Or.inr (by omega))).trans (((hσ12.1 121 _ (by unfold pW; omega)).2).trans ((sL_o (Or.inr (by omega))).trans (((hσ8.1 121 _ (by unfold pW; omega)).2).trans ((sL_o (Or.inr (by omega))).trans (((hσ4.1 121 _ (by unfold pW; omega)).2).trans ((sL_o (Or.inr (by omega))).trans (sL_o (Or.inr (by omega)))))))))]; exact hn.1.2.2.2.1.1
        · rw [show _ = σ.2.1 121 9 from (sL_o (Or.inr (by omega))).trans (((hσ12.1 121 _ (by unfold pW; omega)).2).trans ((sL_o (Or.inr (by omega))).trans (((hσ8.1 121 _ (by unfold pW; omega)).2).trans ((sL_o (Or.inr (by omega))).trans (((hσ4.1 121 _ (by unfold pW; omega)).2).trans ((sL_o (Or.inr (by omega))).trans (sL_o (Or.inr (by omega)))))))))]; exact hn.1.2.2.2.1.2
      · refine R_iload rfl rfl ?_
        refine R_zif_ne rfl rfl (fun g4 => ?_) (fun g4 => ?_)
        · refine R_iconst (v := 1) rfl rfl ?_
          refine R_goto rfl rfl ?_
          refine T_zreturn rfl rfl rfl (am_oki (zP_t (p := ¬ ((gvF f (P p) h w p) 0 = I (4 + 0) ∧ (gvF f (P p) h w p) 1 = I (4 + 1) ∧ (gvF f (P p) h w p) 2 = I (4 + 2) ∧ (gvF f (P p) h w p) 3 = I (4 + 3))) (fun z => g4 ((gu_v hn g1 2 (by omega)).trans (z.2.2.1).symm))).symm ⟨((((((((smP_sL (p := pGu) (k := 121) (j := 3) (x := 1) (by unfold pGu; omega)).trans (smP_sL (p := pGu) (k := 121) (j := (4 + 0)) (x := (nI p).toInt64) (by unfold pGu; omega))).trans (hσ4.mono (q := pGu) pGu_W)).trans (smP_sL (p := pGu) (k := 121) (j := (4 + 1)) (x := (nI (rkO f (P p) (2 ^ h - 1) (2 ^ w - 1) h w)).toInt64) (by unfold pGu; omega))).trans (hσ8.mono (q := pGu) pGu_W)).trans (smP_sL (p := pGu) (k := 121) (j := (4 + 2)) (x := (nI (prR f (P p) h w h)).toInt64) (by unfold pGu; omega))).trans (hσ12.mono (q := pGu) pGu_W)).trans (smP_sL (p := pGu) (k := 121) (j := (4 + 3)) (x := (nI (prC f (P p) (2 ^ h - 1) h w w)).toInt64) (by unfold pGu; omega))), gu_nV hn (((((((((smP_sL (p := pGu) (k := 121) (j := 3) (x := 1) (by unfold pGu; omega)).trans (smP_sL (p := pGu) (k := 121) (j := (4 + 0)) (x := (nI p).toInt64) (by unfold pGu; omega))).trans (hσ4.mono (q := pGu) pGu_W)).trans (smP_sL (p := pGu) (k := 121) (j := (4 + 1)) (x := (nI (rkO f (P p) (2 ^ h - 1) (2 ^ w - 1) h w)).toInt64) (by unfold pGu; omega))).trans (hσ8.mono (q := pGu) pGu_W)).trans (smP_sL (p := pGu) (k := 121) (j := (4 + 2)) (x := (nI (prR f (P p) h w h)).toInt64) (by unfold pGu; omega))).trans (hσ12.mono (q := pGu) pGu_W)).trans (smP_sL (p := pGu) (k := 121) (j := (4 + 3)) (x := (nI (prC f (P p) (2 ^ h - 1) h w w)).toInt64) (by unfold pGu; omega))).mono (fun a b z => Or.inl z)) (fun j hj _ _ => ?_) (Or.inr ⟨⟨p, hp, rfl⟩, (sL_o (Or.inr (by omega))).trans (((hσ12.1 121 _ (by unfold pW; omega)).2).trans ((sL_o (Or.inr (by omega))).trans (((hσ8.1 121 _ (by unfold pW; omega)).2).trans ((sL_o (Or.inr (by omega))).trans (((hσ4.1 121 _ (by unfold pW; omega)).2).trans ((sL_o (Or.inr (by omega))).trans (sL_s))))))), ?_⟩) ?_ ?_⟩)
          · unfold uG; rw [if_neg (by omega)]
          · intro j hj
            rcases (show j = 0 ∨ j = 1 ∨ j = 2 ∨ j = 3 by omega) with e | e | e | e
            · subst e; exact (sL_o (Or.inr (by omega))).trans (((hσ12.1 121 _ (by unfold pW; omega)).2).trans ((sL_o (Or.inr (by omega))).trans (((hσ8.1 121 _ (by unfold pW; omega)).2).trans ((sL_o (Or.inr (by omega))).trans (((hσ4.1 121 _ (by unfold pW; omega)).2).trans (sL_s))))))
            · subst e; exact (sL_o (Or.inr (by omega))).trans (((hσ12.1 121 _ (by unfold pW; omega)).2).trans ((sL_o (Or.inr (by omega))).trans (((hσ8.1 121 _ (by unfold pW; omega)).2).trans (sL_s))))
            · subst e; exact (sL_o (Or.inr (by omega))).trans (((hσ12.1 121 _ (by unfold pW; omega)).2).trans (sL_s))
            · subst e; exact sL_s
          · rw [show _ = σ.2.1 121 8 from (sL_o (Or.inr (by omega))).trans (((hσ12.1 121 _ (by unfold pW; omega)).2).trans ((sL_o (Or.inr (by omega))).trans (((hσ8.1 121 _ (by unfold pW; omega)).2).trans ((sL_o (Or.inr (by omega))).trans (((hσ4.1 121 _ (by unfold pW; omega)).2).trans ((sL_o (Or.inr (by omega))).trans (sL_o (Or.inr (by omega)))))))))]; exact hn.1.2.2.2.1.1
          · rw [show _ = σ.2.1 121 9 from (sL_o (Or.inr (by omega))).trans (((hσ12.1 121 _ (by unfold pW; omega)).2).trans ((sL_o (Or.inr (by omega))).trans (((hσ8.1 121 _ (by unfold pW; omega)).2).trans ((sL_o (Or.inr (by omega))).trans (((hσ4.1 121 _ (by unfold pW; omega)).2).trans ((sL_o (Or.inr (by omega))).trans (sL_o (Or.inr (by omega)))))))))]; exact hn.1.2.2.2.1.2
        · refine R_iload rfl rfl ?_
          refine R_zif_eq rfl rfl (fun g5 => ?_) (fun g5 => ?_)
          · refine R_iconst (v := 0) rfl rfl ?_
            refine T_zreturn rfl rfl rfl (am_oki (zP_f (fun z => z ⟨((Classical.not_not.mp g2).symm.trans (gu_v hn g1 0 (by omega))), ((Classical.not_not.mp g3).symm.trans (gu_v hn g1 1 (by omega))), ((Classical.not_not.mp g4).symm.trans (gu_v hn g1 2 (by omega))), ((Classical.not_not.mp g5).symm.trans (gu_v hn g1 3 (by omega)))⟩)).symm ⟨((((((((smP_sL (p := pGu) (k := 121) (j := 3) (x := 1) (by unfold pGu; omega)).trans (smP_sL (p := pGu) (k := 121) (j := (4 + 0)) (x := (nI p).toInt64) (by unfold pGu; omega))).trans (hσ4.mono (q := pGu) pGu_W)).trans (smP_sL (p := pGu) (k := 121) (j := (4 + 1)) (x := (nI (rkO f (P p) (2 ^ h - 1) (2 ^ w - 1) h w)).toInt64) (by unfold pGu; omega))).trans (hσ8.mono (q := pGu) pGu_W)).trans (smP_sL (p := pGu) (k := 121) (j := (4 + 2)) (x := (nI (prR f (P p) h w h)).toInt64) (by unfold pGu; omega))).trans (hσ12.mono (q := pGu) pGu_W)).trans (smP_sL (p := pGu) (k := 121) (j := (4 + 3)) (x := (nI (prC f (P p) (2 ^ h - 1) h w w)).toInt64) (by unfold pGu; omega))), gu_nV hn (((((((((smP_sL (p := pGu) (k := 121) (j := 3) (x := 1) (by unfold pGu; omega)).trans (smP_sL (p := pGu) (k := 121) (j := (4 + 0)) (x := (nI p).toInt64) (by unfold pGu; omega))).trans (hσ4.mono (q := pGu) pGu_W)).trans (smP_sL (p := pGu) (k := 121) (j := (4 + 1)) (x := (nI (rkO f (P p) (2 ^ h - 1) (2 ^ w - 1) h w)).toInt64) (by unfold pGu; omega))).trans (hσ8.mono (q := pGu) pGu_W)).trans (smP_sL (p := pGu) (k := 121) (j := (4 + 2)) (x := (nI (prR f (P p) h w h)).toInt64) (by unfold pGu; omega))).trans (hσ12.mono (q := pGu) pGu_W)).trans (smP_sL (p := pGu) (k := 121) (j := (4 + 3)) (x := (nI (prC f (P p) (2 ^ h - 1) h w w)).toInt64) (by unfold pGu; omega))).mono (fun a b z => Or.inl z)) (fun j hj _ _ => ?_) (Or.inr ⟨⟨p, hp, rfl⟩, (sL_o (Or.inr (by omega))).trans (((hσ12.1 121 _ (by unfold pW; omega)).2).trans ((sL_o (Or.inr (by omega))).trans (((hσ8.1 121 _ (by unfold pW; omega)).2).trans ((sL_o (Or.inr (by omega))).trans (((hσ4.1 121 _ (by unfold pW; omega)).2).trans ((sL_o (Or.inr (by omega))).trans (sL_s))))))), ?_⟩) ?_ ?_⟩)
            · unfold uG; rw [if_neg (by omega)]
            · intro j hj
              rcases (show j = 0 ∨ j = 1 ∨ j = 2 ∨ j = 3 by omega) with e | e | e | e
              · subst e; exact (sL_o (Or.inr (by omega))).trans (((hσ12.1 121 _ (by unfold pW; omega)).2).trans ((sL_o (Or.inr (by omega))).trans (((hσ8.1 121 _ (by unfold pW; omega)).2).trans ((sL_o (Or.inr (by omega))).trans (((hσ4.1 121 _ (by unfold pW; omega)).2).trans (sL_s))))))
              · subst e; exact (sL_o (Or.inr (by omega))).trans (((hσ12.1 121 _ (by unfold pW; omega)).2).trans ((sL_o (Or.inr (by omega))).trans (((hσ8.1 121 _ (by unfold pW; omega)).2).trans (sL_s))))
              · subst e; exact (sL_o (Or.inr (by omega))).trans (((hσ12.1 121 _ (by unfold pW; omega)).2).trans (sL_s))
              · subst e; exact sL_s
            · rw [show _ = σ.2.1 121 8 from (sL_o (Or.inr (by omega))).trans (((hσ12.1 121 _ (by unfold pW; omega)).2).trans ((sL_o (Or.inr (by omega))).trans (((hσ8.1 121 _ (by unfold pW; omega)).2).trans ((sL_o (Or.inr (by omega))).trans (((hσ4.1 121 _ (by unfold pW; omega)).2).trans ((sL_o (Or.inr (by omega))).trans (sL_o (Or.inr (by omega)))))))))]; exact hn.1.2.2.2.1.1
            · rw [show _ = σ.2.1 121 9 from (sL_o (Or.inr (by omega))).trans (((hσ12.1 121 _ (by unfold pW; omega)).2).trans ((sL_o (Or.inr (by omega))).trans (((hσ8.1 121 _ (by unfold pW; omega)).2).trans ((sL_o (Or.inr (by omega))).trans (((hσ4.1 121 _ (by unfold pW; omega)).2).trans ((sL_o (Or.inr (by omega))).trans (sL_o (Or.inr (by omega)))))))))]; exact hn.1.2.2.2.1.2
          · refine R_iconst (v := 1) rfl rfl ?_
            refine R_goto rfl rfl ?_
            refine T_zreturn rfl rfl rfl (am_oki (zP_t (p := ¬ ((gvF f (P p) h w p) 0 = I (4 + 0) ∧ (gvF f (P p) h w p) 1 = I (4 + 1) ∧ (gvF f (P p) h w p) 2 = I (4 + 2) ∧ (gvF f (P p) h w p) 3 = I (4 + 3))) (fun z => g5 ((gu_v hn g1 3 (by omega)).trans (z.2.2.2).symm))).symm ⟨((((((((smP_sL (p := pGu) (k := 121) (j := 3) (x := 1) (by unfold pGu; omega)).trans (smP_sL (p := pGu) (k := 121) (j := (4 + 0)) (x := (nI p).toInt64) (by unfold pGu; omega))).trans (hσ4.mono (q := pGu) pGu_W)).trans (smP_sL (p := pGu) (k := 121) (j := (4 + 1)) (x := (nI (rkO f (P p) (2 ^ h - 1) (2 ^ w - 1) h w)).toInt64) (by unfold pGu; omega))).trans (hσ8.mono (q := pGu) pGu_W)).trans (smP_sL (p := pGu) (k := 121) (j := (4 + 2)) (x := (nI (prR f (P p) h w h)).toInt64) (by unfold pGu; omega))).trans (hσ12.mono (q := pGu) pGu_W)).trans (smP_sL (p := pGu) (k := 121) (j := (4 + 3)) (x := (nI (prC f (P p) (2 ^ h - 1) h w w)).toInt64) (by unfold pGu; omega))), gu_nV hn (((((((((smP_sL (p := pGu) (k := 121) (j := 3) (x := 1) (by unfold pGu; omega)).trans (smP_sL (p := pGu) (k := 121) (j := (4 + 0)) (x := (nI p).toInt64) (by unfold pGu; omega))).trans (hσ4.mono (q := pGu) pGu_W)).trans (smP_sL (p := pGu) (k := 121) (j := (4 + 1)) (x := (nI (rkO f (P p) (2 ^ h - 1) (2 ^ w - 1) h w)).toInt64) (by unfold pGu; omega))).trans (hσ8.mono (q := pGu) pGu_W)).trans (smP_sL (p := pGu) (k := 121) (j := (4 + 2)) (x := (nI (prR f (P p) h w h)).toInt64) (by unfold pGu; omega))).trans (hσ12.mono (q := pGu) pGu_W)).trans (smP_sL (p := pGu) (k := 121) (j := (4 + 3)) (x := (nI (prC f (P p) (2 ^ h - 1) h w w)).toInt64) (by unfold pGu; omega))).mono (fun a b z => Or.inl z)) (fun j hj _ _ => ?_) (Or.inr ⟨⟨p, hp, rfl⟩, (sL_o (Or.inr (by omega))).trans (((hσ12.1 121 _ (by unfold pW; omega)).2).trans ((sL_o (Or.inr (by omega))).trans (((hσ8.1 121 _ (by unfold pW; omega)).2).trans ((sL_o (Or.inr (by omega))).trans (((hσ4.1 121 _ (by unfold pW; omega)).2).trans ((sL_o (Or.inr (by omega))).trans (sL_s))))))), ?_⟩) ?_ ?_⟩)
            · unfold uG; rw [if_neg (by omega)]
            · intro j hj
              rcases (show j = 0 ∨ j = 1 ∨ j = 2 ∨ j = 3 by omega) with e | e | e | e
              · subst e; exact (sL_o (Or.inr (by omega))).trans (((hσ12.1 121 _ (by unfold pW; omega)).2).trans ((sL_o (Or.inr (by omega))).trans (((hσ8.1 121 _ (by unfold pW; omega)).2).trans ((sL_o (Or.inr (by omega))).trans (((hσ4.1 121 _ (by unfold pW; omega)).2).trans (sL_s))))))
              · subst e; exact (sL_o (Or.inr (by omega))).trans (((hσ12.1 121 _ (by unfold pW; omega)).2).trans ((sL_o (Or.inr (by omega))).trans (((hσ8.1 121 _ (by unfold pW; omega)).2).trans (sL_s))))
              · subst e; exact (sL_o (Or.inr (by omega))).trans (((hσ12.1 121 _ (by unfold pW; omega)).2).trans (sL_s))
              · subst e; exact sL_s
            · rw [show _ = σ.2.1 121 8 from (sL_o (Or.inr (by omega))).trans (((hσ12.1 121 _ (by unfold pW; omega)).2).trans ((sL_o (Or.inr (by omega))).trans (((hσ8.1 121 _ (by unfold pW; omega)).2).trans ((sL_o (Or.inr (by omega))).trans (((hσ4.1 121 _ (by unfold pW; omega)).2).trans ((sL_o (Or.inr (by omega))).trans (sL_o (Or.inr (by omega)))))))))]; exact hn.1.2.2.2.1.1
            · rw [show _ = σ.2.1 121 9 from (sL_o (Or.inr (by omega))).trans (((hσ12.1 121 _ (by unfold pW; omega)).2).trans ((sL_o (Or.inr (by omega))).trans (((hσ8.1 121 _ (by unfold pW; omega)).2).trans ((sL_o (Or.inr (by omega))).trans (((hσ4.1 121 _ (by unfold pW; omega)).2).trans ((sL_o (Or.inr (by omega))).trans (sL_o (Or.inr (by omega)))))))))]; exact hn.1.2.2.2.1.2
  · refine R_iconst (v := 1) rfl rfl ?_
    refine R_goto rfl rfl ?_
    refine R_istore_n rfl (by decide) ?_
    refine R_aload_n rfl rfl ?_
    refine R_gP (x := 121) rfl rfl fp_11_1 rfl ?_
    refine R_iconst (v := 3) rfl rfl ?_
    refine R_lconst (v := 1) rfl rfl ?_
    refine R_wL (j := 3) rfl rfl rfl (by omega) (by decide) ?_
    refine R_aload_n rfl rfl ?_
    refine R_iconst (v := 0) rfl rfl ?_
    refine R_iload_n rfl rfl ?_
    refine R_cV (as := [.int 0, .int (nI p)]) rfl rfl iv_M_put ((by have z := sp_put (σ := (sL σ 121 3 1)) (j := 0) (x := nI p) ((smP_sL (p := pGu) (k := 121) (j := 3) (x := 1) (by unfold pGu; omega)).2.trans hn.2.2.1) (by omega); rw [show (sL σ 121 3 1).2.1 121 (4 + 0) = σ.2.1 121 (4 + 0) from sL_o (Or.inr (by omega))] at z; exact z)) (by omega) rfl rfl rfl (by decide) rfl rfl (Nat.le_of_ble_eq_true rfl) (fun _ q => ?_)
    obtain rfl := q.symm
    refine R_istore rfl (by decide) ?_
    refine R_aload_n rfl rfl ?_
    refine R_iconst (v := 1) rfl rfl ?_
    refine R_aload_n rfl rfl ?_
    refine R_iload_n rfl rfl ?_
    refine R_cV (as := [.int (nI (P p))]) rfl rfl iv_M_rankAll (sp_rankAll (m := (P p)) (gu_mV hn ((smP_sL (p := pGu) (k := 121) (j := 3) (x := 1) (by unfold pGu; omega)).trans (smP_sL (p := pGu) (k := 121) (j := (4 + 0)) (x := (nI p).toInt64) (by unfold pGu; omega)))) hs (by omega)) (by omega) rfl rfl rfl (by decide) rfl rfl (Nat.le_of_ble_eq_true rfl) (fun σ16 hσ16 => ?_)
    refine R_cV (as := [.int 1, .int (nI (rkO f (P p) (2 ^ h - 1) (2 ^ w - 1) h w))]) rfl rfl iv_M_put ((by have z := sp_put (σ := σ16) (j := 1) (x := nI (rkO f (P p) (2 ^ h - 1) (2 ^ w - 1) h w)) ((((smP_sL (p := pGu) (k := 121) (j := 3) (x := 1) (by unfold pGu; omega)).trans (smP_sL (p := pGu) (k := 121) (j := (4 + 0)) (x := (nI p).toInt64) (by unfold pGu; omega))).trans (hσ16.mono (q := pGu) pGu_W)).2.trans hn.2.2.1) (by omega); rw [show σ16.2.1 121 (4 + 1) = σ.2.1 121 (4 + 1) from ((hσ16.1 121 _ (by unfold pW; omega)).2).trans ((sL_o (Or.inr (by omega))).trans (sL_o (Or.inr (by omega))))] at z; exact z)) (by omega) rfl rfl rfl (by decide) rfl rfl (Nat.le_of_ble_eq_true rfl) (fun _ q => ?_)
    obtain rfl := q.symm
    refine R_istore rfl (by decide) ?_
    refine R_aload_n rfl rfl ?_
    refine R_iconst (v := 2) rfl rfl ?_
    refine R_aload_n rfl rfl ?_
    refine R_iload_n rfl rfl ?_
    refine R_aload_n rfl rfl ?_
    refine R_cV (as := []) rfl rfl iv_M_allColumns (sp_mallColumns (gu_mV hn ((((smP_sL (p := pGu) (k := 121) (j := 3) (x := 1) (by unfold pGu; omega)).trans (smP_sL (p := pGu) (k := 121) (j := (4 + 0)) (x := (nI p).toInt64) (by unfold pGu; omega))).trans (hσ16.mono (q := pGu) pGu_W)).trans (smP_sL (p := pGu) (k := 121) (j := (4 + 1)) (x := (nI (rkO f (P p) (2 ^ h - 1) (2 ^ w - 1) h w)).toInt64) (by unfold pGu; omega))))) (by omega) rfl rfl rfl (by decide) rfl rfl (Nat.le_of_ble_eq_true rfl) (fun _ q => ?_)
    obtain rfl := q.symm
    refine R_cV (as := [.int (nI (P p)), .int (nI (2 ^ w - 1))]) rfl rfl iv_M_profileOfRows (sp_mprofileOfRows (m := P p) (gu_mV hn ((((smP_sL (p := pGu) (k := 121) (j := 3) (x := 1) (by unfold pGu; omega)).trans (smP_sL (p := pGu) (k := 121) (j := (4 + 0)) (x := (nI p).toInt64) (by unfold pGu; omega))).trans (hσ16.mono (q := pGu) pGu_W)).trans (smP_sL (p := pGu) (k := 121) (j := (4 + 1)) (x := (nI (rkO f (P p) (2 ^ h - 1) (2 ^ w - 1) h w)).toInt64) (by unfold pGu; omega)))) hs (md_dom hmd).1 (md_dom hmd).2) (by omega) rfl rfl rfl (by decide) rfl rfl (Nat.le_of_ble_eq_true rfl) (fun σ20 hσ20 => ?_)
    refine R_cV (as := [.int 2, .int (nI (prR f (P p) h w h))]) rfl rfl iv_M_put ((by have z := sp_put (σ := σ20) (j := 2) (x := nI (prR f (P p) h w h)) ((((((smP_sL (p := pGu) (k := 121) (j := 3) (x := 1) (by unfold pGu; omega)).trans (smP_sL (p := pGu) (k := 121) (j := (4 + 0)) (x := (nI p).toInt64) (by unfold pGu; omega))).trans (hσ16.mono (q := pGu) pGu_W)).trans (smP_sL (p := pGu) (k := 121) (j := (4 + 1)) (x := (nI (rkO f (P p) (2 ^ h - 1) (2 ^ w - 1) h w)).toInt64) (by unfold pGu; omega))).trans (hσ20.mono (q := pGu) pGu_W)).2.trans hn.2.2.1) (by omega); rw [show σ20.2.1 121 (4 + 2) = σ.2.1 121 (4 + 2) from ((hσ20.1 121 _ (by unfold pW; omega)).2).trans ((sL_o (Or.inr (by omega))).trans (((hσ16.1 121 _ (by unfold pW; omega)).2).trans ((sL_o (Or.inr (by omega))).trans (sL_o (Or.inr (by omega))))))] at z; exact z)) (by omega) rfl rfl rfl (by decide) rfl rfl (Nat.le_of_ble_eq_true rfl) (fun _ q => ?_)
    obtain rfl := q.symm
    refine R_istore rfl (by decide) ?_
    refine R_aload_n rfl rfl ?_
    refine R_iconst (v := 3) rfl rfl ?_
    refine R_aload_n rfl rfl ?_
    refine R_iload_n rfl rfl ?_
    refine R_aload_n rfl rfl ?_
    refine R_cV (as := []) rfl rfl iv_M_allRows (sp_mallRows (gu_mV hn ((((((smP_sL (p := pGu) (k := 121) (j := 3) (x := 1) (by unfold pGu; omega)).trans (smP_sL (p := pGu) (k := 121) (j := (4 + 0)) (x := (nI p).toInt64) (by unfold pGu; omega))).trans (hσ16.mono (q := pGu) pGu_W)).trans (smP_sL (p := pGu) (k := 121) (j := (4 + 1)) (x := (nI (rkO f (P p) (2 ^ h - 1) (2 ^ w - 1) h w)).toInt64) (by unfold pGu; omega))).trans (hσ20.mono (q := pGu) pGu_W)).trans (smP_sL (p := pGu) (k := 121) (j := (4 + 2)) (x := (nI (prR f (P p) h w h)).toInt64) (by unfold pGu; omega))))) (by omega) rfl rfl rfl (by decide) rfl rfl (Nat.le_of_ble_eq_true rfl) (fun _ q => ?_)
    obtain rfl := q.symm
    refine R_cV (as := [.int (nI (P p)), .int (nI (2 ^ h - 1))]) rfl rfl iv_M_profileOfColumns (sp_mprofileOfColumns (m := P p) (S := 2 ^ h - 1) (gu_mV hn ((((((smP_sL (p := pGu) (k := 121) (j := 3) (x := 1) (by unfold pGu; omega)).trans (smP_sL (p := pGu) (k := 121) (j := (4 + 0)) (x := (nI p).toInt64) (by unfold pGu; omega))).trans (hσ16.mono (q := pGu) pGu_W)).trans (smP_sL (p := pGu) (k := 121) (j := (4 + 1)) (x := (nI (rkO f (P p) (2 ^ h - 1) (2 ^ w - 1) h w)).toInt64) (by unfold pGu; omega))).trans (hσ20.mono (q := pGu) pGu_W)).trans (smP_sL (p := pGu) (k := 121) (j := (4 + 2)) (x := (nI (prR f (P p) h w h)).toInt64) (by unfold pGu; omega)))) hs (md_dom hmd).1 (md_dom hmd).2 (by first | assumption | exact lw_lt (by omega) | exact wi_lt (by first | assumption | omega) (by omega) | exact wo_lt (by first | assumption | omega) (by omega) | omega)) (by omega) rfl rfl rfl (by decide) rfl rfl (Nat.le_of_ble_eq_true rfl) (fun σ24 hσ24 => ?_)
    refine R_cV (as := [.int 3, .int (nI (prC f (P p) (2 ^ h - 1) h w w))]) rfl rfl iv_M_put ((by have z := sp_put (σ := σ24) (j := 3) (x := nI (prC f (P p) (2 ^ h - 1) h w w)) ((((((((smP_sL (p := pGu) (k := 121) (j := 3) (x := 1) (by unfold pGu; omega)).trans (smP_sL (p := pGu) (k := 121) (j := (4 + 0)) (x := (nI p).toInt64) (by unfold pGu; omega))).trans (hσ16.mono (q := pGu) pGu_W)).trans (smP_sL (p := pGu) (k := 121) (j := (4 + 1)) (x := (nI (rkO f (P p) (2 ^ h - 1) (2 ^ w - 1) h w)).toInt64) (by unfold pGu; omega))).trans (hσ20.mono (q := pGu) pGu_W)).trans (smP_sL (p := pGu) (k := 121) (j := (4 + 2)) (x := (nI (prR f (P p) h w h)).toInt64) (by unfold pGu; omega))).trans (hσ24.mono (q := pGu) pGu_W)).2.trans hn.2.2.1) (by omega); rw [show σ24.2.1 121 (4 + 3) = σ.2.1 121 (4 + 3) from ((hσ24.1 121 _ (by unfold pW; omega)).2).trans ((sL_o (Or.inr (by omega))).trans (((hσ20.1 121 _ (by unfold pW; omega)).2).trans ((sL_o (Or.inr (by omega))).trans (((hσ16.1 121 _ (by unfold pW; omega)).2).trans ((sL_o (Or.inr (by omega))).trans (sL_o (Or.inr (by omega))))))))] at z; exact z)) (by omega) rfl rfl rfl (by decide) rfl rfl (Nat.le_of_ble_eq_true rfl) (fun _ q => ?_)
    obtain rfl := q.symm
    refine R_istore rfl (by decide) ?_
    refine R_iload_n rfl rfl ?_
    refine R_if_ne rfl rfl (fun _ => ?_) (fun z => absurd z (by decide))
    refine R_iconst (v := 1) rfl rfl ?_
    refine R_goto rfl rfl ?_
    refine T_zreturn rfl rfl rfl (am_oki (zP_t (p := ¬ ((gvF f (P p) h w p) 0 = I (4 + 0) ∧ (gvF f (P p) h w p) 1 = I (4 + 1) ∧ (gvF f (P p) h w p) 2 = I (4 + 2) ∧ (gvF f (P p) h w p) 3 = I (4 + 3))) (fun z => absurd (z.1.trans (Classical.not_not.mp g1)) (nI_m1 (by omega)))).symm ⟨((((((((smP_sL (p := pGu) (k := 121) (j := 3) (x := 1) (by unfold pGu; omega)).trans (smP_sL (p := pGu) (k := 121) (j := (4 + 0)) (x := (nI p).toInt64) (by unfold pGu; omega))).trans (hσ16.mono (q := pGu) pGu_W)).trans (smP_sL (p := pGu) (k := 121) (j := (4 + 1)) (x := (nI (rkO f (P p) (2 ^ h - 1) (2 ^ w - 1) h w)).toInt64) (by unfold pGu; omega))).trans (hσ20.mono (q := pGu) pGu_W)).trans (smP_sL (p := pGu) (k := 121) (j := (4 + 2)) (x := (nI (prR f (P p) h w h)).toInt64) (by unfold pGu; omega))).trans (hσ24.mono (q := pGu) pGu_W)).trans (smP_sL (p := pGu) (k := 121) (j := (4 + 3)) (x := (nI (prC f (P p) (2 ^ h - 1) h w w)).toInt64) (by unfold pGu; omega))), gu_nV hn (((((((((smP_sL (p := pGu) (k := 121) (j := 3) (x := 1) (by unfold pGu; omega)).trans (smP_sL (p := pGu) (k := 121) (j := (4 + 0)) (x := (nI p).toInt64) (by unfold pGu; omega))).trans (hσ16.mono (q := pGu) pGu_W)).trans (smP_sL (p := pGu) (k := 121) (j := (4 + 1)) (x := (nI (rkO f (P p) (2 ^ h - 1) (2 ^ w - 1) h w)).toInt64) (by unfold pGu; omega))).trans (hσ20.mono (q := pGu) pGu_W)).trans (smP_sL (p := pGu) (k := 121) (j := (4 + 2)) (x := (nI (prR f (P p) h w h)).toInt64) (by unfold pGu; omega))).trans (hσ24.mono (q := pGu) pGu_W)).trans (smP_sL (p := pGu) (k := 121) (j := (4 + 3)) (x := (nI (prC f (P p) (2 ^ h - 1) h w w)).toInt64) (by unfold pGu; omega))).mono (fun a b z => Or.inl z)) (fun j hj _ _ => ?_) (Or.inr ⟨⟨p, hp, rfl⟩, (sL_o (Or.inr (by omega))).trans (((hσ24.1 121 _ (by unfold pW; omega)).2).trans ((sL_o (Or.inr (by omega))).trans (((hσ20.1 121 _ (by unfold pW; omega)).2).trans ((sL_o (Or.inr (by omega))).trans (((hσ16.1 121 _ (by unfold pW; omega)).2).trans ((sL_o (Or.inr (by omega))).trans (sL_s))))))), ?_⟩) ?_ ?_⟩)
    · unfold uG; rw [if_neg (by omega)]
    · intro j hj
      rcases (show j = 0 ∨ j = 1 ∨ j = 2 ∨ j = 3 by omega) with e | e | e | e
      · subst e; exact (sL_o (Or.inr (by omega))).trans (((hσ24.1 121 _ (by unfold pW; omega)).2).trans ((sL_o (Or.inr (by omega))).trans (((hσ20.1 121 _ (by unfold pW; omega)).2).trans ((sL_o (Or.inr (by omega))).trans (((hσ16.1 121 _ (by unfold pW; omega)).2).trans (sL_s))))))
      · subst e; exact (sL_o (Or.inr (by omega))).trans (((hσ24.1 121 _ (by unfold pW; omega)).2).trans ((sL_o (Or.inr (by omega))).trans (((hσ20.1 121 _ (by unfold pW; omega)).2).trans (sL_s))))
      · subst e; exact (sL_o (Or.inr (by omega))).trans (((hσ24.1 121 _ (by unfold pW; omega)).2).trans (sL_s))
      · subst e; exact sL_s
    · rw [show _ = σ.2.1 121 8 from (sL_o (Or.inr (by omega))).trans (((hσ24.1 121 _ (by unfold pW; omega)).2).trans ((sL_o (Or.inr (by omega))).trans (((hσ20.1 121 _ (by unfold pW; omega)).2).trans ((sL_o (Or.inr (by omega))).trans (((hσ16.1 121 _ (by unfold pW; omega)).2).trans ((sL_o (Or.inr (by omega))).trans (sL_o (Or.inr (by omega)))))))))]; exact hn.1.2.2.2.1.1
    · rw [show _ = σ.2.1 121 9 from (sL_o (Or.inr (by omega))).trans (((hσ24.1 121 _ (by unfold pW; omega)).2).trans ((sL_o (Or.inr (by omega))).trans (((hσ20.1 121 _ (by unfold pW; omega)).2).trans ((sL_o (Or.inr (by omega))).trans (((hσ16.1 121 _ (by unfold pW; omega)).2).trans ((sL_o (Or.inr (by omega))).trans (sL_o (Or.inr (by omega)))))))))]; exact hn.1.2.2.2.1.2
