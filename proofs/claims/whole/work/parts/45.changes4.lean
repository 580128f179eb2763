/-! ===== repair, certify ===== -/
theorem uJ_0 {I : Nat → Int32} {k : Nat} : uJ I k (I k + nI 0) = I := by
  funext j
  unfold uJ
  split
  · next e => rw [e]; exact Int32.add_zero _
  · rfl
theorem uJ_n {I : Nat → Int32} {k i : Nat} : uJ (uJ I k (I k + nI i)) k (I k + nI i + 1) = uJ I k (I k + nI (i + 1)) := by
  funext j
  unfold uJ
  split
  · rw [Int32.add_assoc, show (1 : Int32) = nI 1 from rfl, nI_add]
  · rfl
/-- the fields that a rebased walk reads -/
theorem rpH {pn s0 i : Nat} (h : rpQ pn s0 i = 0) : (0 : Int32) = nI (rpQ pn s0 i) := by rw [h]; rfl
set_option maxRecDepth 100000 in
set_option maxHeartbeats 4000000 in
theorem lp_rep {σ ρ : am_G} {h w rh pn n s0 : Nat} {f v rl : am_Gr} {I : Nat → Int32} {Hs : Nat → am_Sn} {P : Nat → Nat} {d k0 : Nat} (hh6 : h ≤ 6) (hw6 : w ≤ 6) (hp6 : pn ≤ 6) (q1 : smP (plc 37 99) σ ρ) (q2 : cH ρ n Hs) (hP : prP pn I P) (h0 : (I 4 = -1 ∧ s0 = 0) ∨ ∃ g, g < pn ∧ I 4 = nI g ∧ s0 = g + 1) (hd : 7 ≤ d)  : ∀ (uu i : Nat) (τ : am_G), i + uu = pn → (smP (plc 17 37) ρ τ ∧ vS τ 26 h w f v rh rl pn (uJ I 1 (I 1 + nI i))) → am_R am_TX d k0 c_D_repair 24 [some (.ref 0), some (.int (rpL (I 4) pn s0 i)), some (.int (nI i))] [] (mm τ) (am_Ok (some (.int (rpR (rpT f P h w pn s0 uu i).2))) (fun σ1 => smP (plc 17 99) σ σ1 ∧ cS σ1 26 (h, w, f, v, rh, rl, pn, rpI I f P h w (rpT f P h w pn s0 uu i)) ∧ cH σ1 n Hs)) := by
  intro uu
  induction uu with
  | zero =>
    intro i τ hi hI
    obtain rfl : pn = i := by omega
    skip
    refine R_iload_n rfl rfl ?_
    refine R_aload_n rfl rfl ?_
    refine R_gP (x := 26) rfl rfl fp_10_6 rfl ?_
    refine R_gIN (n := pn) rfl rfl fd_9_3 hI.2.2.2.2.1.1 ?_
    refine R_nicmp_ge (x := pn) (y := pn) rfl rfl (by omega) (by omega) (fun h1 => ?_) (fun z => by omega)
    refine R_iconst (v := -1) rfl rfl ?_
    exact T_ireturn rfl rfl (am_oki rfl (chg_end3 q1 q2 hI.1 hI.2 smP.refl))
  | succ uu ih =>
    intro i τ hi hI
    have hq : (rpQ pn s0 i) < pn := rpQ_lt (by omega)
    have hp97 := (prL_le _ (hP (rpQ pn s0 i) hq).2).2
    have hn := rpL_n (i := i) (by omega) hp6 h0
    refine R_iload_n rfl rfl ?_
    refine R_aload_n rfl rfl ?_
    refine R_gP (x := 26) rfl rfl fp_10_6 rfl ?_
    refine R_gIN (n := pn) rfl rfl fd_9_3 hI.2.2.2.2.1.1 ?_
    refine R_nicmp_ge (x := i) (y := pn) rfl rfl (by omega) (by omega) (fun z => by omega) (fun h1 => ?_)
    refine R_iload_n rfl rfl ?_
    refine R_iconst (v := 1) rfl rfl ?_
    refine R_iadd rfl ?_
    refine R_aload_n rfl rfl ?_
    refine R_gP (x := 26) rfl rfl fp_10_6 rfl ?_
    refine R_gIN (n := pn) rfl rfl fd_9_3 hI.2.2.2.2.1.1 ?_
    refine R_icmp_ge rfl rfl (fun h2 => ?_) (fun h2 => ?_)
    · refine R_iconst (v := 0) rfl rfl ?_
      rw [rpH (hn.2 (Int32.not_lt.mpr h2))]
      refine R_istore_n rfl (by decide) ?_
      refine R_aload_n rfl rfl ?_
      refine R_gP (x := 26) rfl rfl fp_10_6 rfl ?_
      refine R_dup rfl rfl ?_
      refine R_gIX (x := (I 1 + nI i)) rfl rfl fd_9_5 hI.2.2.2.2.2.2.1 ?_
      refine R_iconst (v := 1) rfl rfl ?_
      refine R_iadd rfl ?_
      refine R_pI rfl rfl fw_9_5 rfl ?_
      have hv2 : vS (sI τ 26 5 ((I 1 + nI i) + 1)) 26 h w f v rh rl pn (uJ I 1 (I 1 + nI (i + 1))) := by
        have z := vS_ct (s := 26) (k := 1) (x := (I 1 + nI i) + 1) (by decide) hI.2
        rw [uJ_n] at z
        exact z
      have qv2 : smP (plc 17 37) ρ (sI τ 26 5 ((I 1 + nI i) + 1)) := hI.1.trans (smP_sI (p := plc 17 37) (k := 26) (j := 5) (x := (I 1 + nI i) + 1) (by unfold plc; omega))
      refine R_aload_n rfl rfl ?_
      refine R_gP (x := 16) rfl rfl fp_10_4 rfl ?_
      refine R_aload_n rfl rfl ?_
      refine R_gP (x := 36) rfl rfl fp_10_7 rfl ?_
      refine R_aload_n rfl rfl ?_
      refine R_gP (x := 26) rfl rfl fp_10_6 rfl ?_
      refine R_gP (x := 27) rfl rfl fp_9_0 rfl ?_
      refine R_iload_n rfl rfl ?_
      refine R_aload_n rfl rfl ?_
      refine R_gP (x := 26) rfl rfl fp_10_6 rfl ?_
      refine R_iload_n rfl rfl ?_
      refine R_cV (as := [.int (nI (rpQ pn s0 i))]) rfl rfl iv_State_primeAt ((by have z := sp_primeAtV (p := (rpQ pn s0 i)) hv2 (by omega); rw [show (uJ I 1 (I 1 + nI (i + 1))) (8 + (rpQ pn s0 i)) = I (8 + (rpQ pn s0 i)) from by unfold uJ; rw [if_neg (by omega)], (hP (rpQ pn s0 i) hq).1] at z; exact z)) (by omega) rfl rfl rfl (by decide) rfl rfl (Nat.le_of_ble_eq_true rfl) (fun _ q => ?_)
      obtain rfl := q.symm
      refine R_cV (as := [.ref 36, .ref 27, .int (nI (rpQ pn s0 i)), .int (nI (P (rpQ pn s0 i)))]) rfl rfl iv_Reckoner_makeGuess (sp_makeGuess (pl := (rpQ pn s0 i)) (p := P (rpQ pn s0 i)) hv2.1 (by omega)) (by omega) rfl rfl rfl (by decide) rfl rfl (Nat.le_of_ble_eq_true rfl) (fun μ hμ => ?_)
      obtain ⟨g1, g2⟩ := hμ
      refine R_aload_n rfl rfl ?_
      refine R_gP (x := 16) rfl rfl fp_10_4 rfl ?_
      refine R_aload_n rfl rfl ?_
      refine R_gP (x := 36) rfl rfl fp_10_7 rfl ?_
      refine R_aload_n rfl rfl ?_
      refine R_gP (x := 26) rfl rfl fp_10_6 rfl ?_
      refine R_gP (x := 27) rfl rfl fp_9_0 rfl ?_
      refine R_cV (as := [.ref 36, .ref 27]) rfl rfl iv_Reckoner_faultOf (sp_faultOf (g := 36) (x := (gvF f (P (rpQ pn s0 i)) h w (rpQ pn s0 i))) rfl (by omega) g2 (g1.vM hv2.1 (fun b => by unfold pG; omega) (fun b => by unfold pG; omega))) (by omega) rfl rfl rfl (by decide) rfl rfl (Nat.le_of_ble_eq_true rfl) (fun ν hν => ?_)
      have hv3 : vS ν 26 h w f v rh rl pn (uJ I 1 (I 1 + nI (i + 1))) := hν.vS (g1.vS hv2 (fun a b _ _ => by unfold pG; omega)) (fun a b _ _ => by unfold plc; omega)
      have qv3 : smP (plc 17 37) ρ ν := (qv2.trans (g1.mono (fun a b => by unfold pG plc; omega))).trans (hν.mono (fun a b => by unfold plc; omega))
      refine R_if_ne rfl rfl (fun h3 => ?_) (fun h3 => ?_)
      · refine R_iincN (x := i) (m := 1) rfl rfl rfl (by decide) ?_
        refine R_goto rfl rfl ?_
        have e := ih (i + 1) ν (by omega) ⟨qv3, hv3⟩
        rw [show rpT f P h w pn s0 (uu + 1) i = rpT f P h w pn s0 uu (i + 1) from by simp only [rpT]; exact if_neg h3]
        rw [show rpL (I 4) pn s0 (i + 1) = nI (rpQ pn s0 i) from by unfold rpL; rw [if_neg (by omega)]; rfl] at e
        exact e.weak ⟨rfl, rfl, rfl, trivial⟩
      · refine R_aload_n rfl rfl ?_
        refine R_gP (x := 26) rfl rfl fp_10_6 rfl ?_
        refine R_gP (x := 29) rfl rfl fp_9_1 rfl ?_
        refine R_aload_n rfl rfl ?_
        refine R_gP (x := 36) rfl rfl fp_10_7 rfl ?_
        refine R_cV (as := [.ref 36]) rfl rfl iv_Guess_copyFrom (sp_Guess_copyFrom (g := 29) (g2 := 36) (x := (gvF f (P (rpQ pn s0 i)) h w (rpQ pn s0 i))) rfl rfl (by decide) (fun j hj => (hν.i (by unfold plc; omega)).trans (g2 j hj))) (by omega) rfl rfl rfl (by decide) rfl rfl (Nat.le_of_ble_eq_true rfl) (fun _ q => ?_)
        obtain rfl := q.symm
        refine R_iload_n rfl rfl ?_
        rw [show rpT f P h w pn s0 (uu + 1) i = (i + 1, some (rpQ pn s0 i)) from by simp only [rpT]; exact if_pos h3]
        exact T_ireturn rfl rfl (am_oki rfl (chg_end3 q1 q2 (qv3.trans (gS_fr (p := plc 17 37) (g := 29) (x := (gvF f (P (rpQ pn s0 i)) h w (rpQ pn s0 i))) (fun b => by unfold plc; omega))) (vS_gs (s := 26) hv3) smP.refl))
    · refine R_iload_n rfl rfl ?_
      refine R_iconst (v := 1) rfl rfl ?_
      refine R_iadd rfl ?_
      refine R_goto rfl rfl ?_
      rw [show rpL (I 4) pn s0 i + 1 = nI (rpQ pn s0 i) from hn.1 (Int32.not_le.mp h2)]
      refine R_istore_n rfl (by decide) ?_
      refine R_aload_n rfl rfl ?_
      refine R_gP (x := 26) rfl rfl fp_10_6 rfl ?_
      refine R_dup rfl rfl ?_
      refine R_gIX (x := (I 1 + nI i)) rfl rfl fd_9_5 hI.2.2.2.2.2.2.1 ?_
      refine R_iconst (v := 1) rfl rfl ?_
      refine R_iadd rfl ?_
      refine R_pI rfl rfl fw_9_5 rfl ?_
      have hv2 : vS (sI τ 26 5 ((I 1 + nI i) + 1)) 26 h w f v rh rl pn (uJ I 1 (I 1 + nI (i + 1))) := by
        have z := vS_ct (s := 26) (k := 1) (x := (I 1 + nI i) + 1) (by decide) hI.2
        rw [uJ_n] at z
        exact z
      have qv2 : smP (plc 17 37) ρ (sI τ 26 5 ((I 1 + nI i) + 1)) := hI.1.trans (smP_sI (p := plc 17 37) (k := 26) (j := 5) (x := (I 1 + nI i) + 1) (by unfold plc; omega))
      refine R_aload_n rfl rfl ?_
      refine R_gP (x := 16) rfl rfl fp_10_4 rfl ?_
      refine R_aload_n rfl rfl ?_
      refine R_gP (x := 36) rfl rfl fp_10_7 rfl ?_
      refine R_aload_n rfl rfl ?_
      refine R_gP (x := 26) rfl rfl fp_10_6 rfl ?_
      refine R_gP (x := 27) rfl rfl fp_9_0 rfl ?_
      refine R_iload_n rfl rfl ?_
      refine R_aload_n rfl rfl ?_
      refine R_gP (x := 26) rfl rfl fp_10_6 rfl ?_
      refine R_iload_n rfl rfl ?_
      refine R_cV (as := [.int (nI (rpQ pn s0 i))]) rfl rfl iv_State_primeAt ((by have z := sp_primeAtV (p := (rpQ pn s0 i)) hv2 (by omega); rw [show (uJ I 1 (I 1 + nI (i + 1))) (8 + (rpQ pn s0 i)) = I (8 + (rpQ pn s0 i)) from by unfold uJ; rw [if_neg (by omega)], (hP (rpQ pn s0 i) hq).1] at z; exact z)) (by omega) rfl rfl rfl (by decide) rfl rfl (Nat.le_of_ble_eq_true rfl) (fun _ q => ?_)
      obtain rfl := q.symm
      refine R_cV (as := [.ref 36, .ref 27, .int (nI (rpQ pn s0 i)), .int (nI (P (rpQ pn s0 i)))]) rfl rfl iv_Reckoner_makeGuess (sp_makeGuess (pl := (rpQ pn s0 i)) (p := P (rpQ pn s0 i)) hv2.1 (by omega)) (by omega) rfl rfl rfl (by decide) rfl rfl (Nat.le_of_ble_eq_true rfl) (fun μ hμ => ?_)
      obtain ⟨g1, g2⟩ := hμ
      refine R_aload_n rfl rfl ?_
      refine R_gP (x := 16) rfl rfl fp_10_4 rfl ?_
      refine R_aload_n rfl rfl ?_
      refine R_gP (x := 36) rfl rfl fp_10_7 rfl ?_
      refine R_aload_n rfl rfl ?_
      refine R_gP (x := 26) rfl rfl fp_10_6 rfl ?_
      refine R_gP (x := 27) rfl rfl fp_9_0 rfl ?_
      refine R_cV (as := [.ref 36, .ref 27]) rfl rfl iv_Reckoner_faultOf (sp_faultOf (g := 36) (x := (gvF f (P (rpQ pn s0 i)) h w (rpQ pn s0 i))) rfl (by omega) g2 (g1.vM hv2.1 (fun b => by unfold pG; omega) (fun b => by unfold pG; omega))) (by omega) rfl rfl rfl (by decide) rfl rfl (Nat.le_of_ble_eq_true rfl) (fun ν hν => ?_)
      have hv3 : vS ν 26 h w f v rh rl pn (uJ I 1 (I 1 + nI (i + 1))) := hν.vS (g1.vS hv2 (fun a b _ _ => by unfold pG; omega)) (fun a b _ _ => by unfold plc; omega)
      have qv3 : smP (plc 17 37) ρ ν := (qv2.trans (g1.mono (fun a b => by unfold pG plc; omega))).trans (hν.mono (fun a b => by unfold plc; omega))
      refine R_if_ne rfl rfl (fun h4 => ?_) (fun h4 => ?_)
      · refine R_iincN (x := i) (m := 1) rfl rfl rfl (by decide) ?_
        refine R_goto rfl rfl ?_
        have e := ih (i + 1) ν (by omega) ⟨qv3, hv3⟩
        rw [show rpT f P h w pn s0 (uu + 1) i = rpT f P h w pn s0 uu (i + 1) from by simp only [rpT]; exact if_neg h4]
        rw [show rpL (I 4) pn s0 (i + 1) = nI (rpQ pn s0 i) from by unfold rpL; rw [if_neg (by omega)]; rfl] at e
        exact e.weak ⟨rfl, rfl, rfl, trivial⟩
      · refine R_aload_n rfl rfl ?_
        refine R_gP (x := 26) rfl rfl fp_10_6 rfl ?_
        refine R_gP (x := 29) rfl rfl fp_9_1 rfl ?_
        refine R_aload_n rfl rfl ?_
        refine R_gP (x := 36) rfl rfl fp_10_7 rfl ?_
        refine R_cV (as := [.ref 36]) rfl rfl iv_Guess_copyFrom (sp_Guess_copyFrom (g := 29) (g2 := 36) (x := (gvF f (P (rpQ pn s0 i)) h w (rpQ pn s0 i))) rfl rfl (by decide) (fun j hj => (hν.i (by unfold plc; omega)).trans (g2 j hj))) (by omega) rfl rfl rfl (by decide) rfl rfl (Nat.le_of_ble_eq_true rfl) (fun _ q => ?_)
        obtain rfl := q.symm
        refine R_iload_n rfl rfl ?_
        rw [show rpT f P h w pn s0 (uu + 1) i = (i + 1, some (rpQ pn s0 i)) from by simp only [rpT]; exact if_pos h4]
        exact T_ireturn rfl rfl (am_oki rfl (chg_end3 q1 q2 (qv3.trans (gS_fr (p := plc 17 37) (g := 29) (x := (gvF f (P (rpQ pn s0 i)) h w (rpQ pn s0 i))) (fun b => by unfold plc; omega))) (vS_gs (s := 26) hv3) smP.refl))
set_option maxRecDepth 100000 in
set_option maxHeartbeats 4000000 in
theorem sp_D_repair {σ : am_G} {h w rh pn : Nat} {f v rl : am_Gr} {I : Nat → Int32} {n : Nat} {Hs : Nat → am_Sn} {s0 : Nat} {P : Nat → Nat} (hv : vS σ 26 h w f v rh rl pn I) (hH : cH σ n Hs) (hP : prP pn I P) (h0 : (I 4 = -1 ∧ s0 = 0) ∨ ∃ g, g < pn ∧ I 4 = nI g ∧ s0 = g + 1) : am_Call am_TX 8 0 c_D_repair [.ref 0] (mm σ) (am_Ok (some (.int (rpR (rpT f P h w pn s0 pn 0).2))) (fun σ1 => smP (plc 17 99) σ σ1 ∧ cS σ1 26 (h, w, f, v, rh, rl, pn, rpI I f P h w (rpT f P h w pn s0 pn 0)) ∧ cH σ1 (nxZ n) (hC (h, w, f, v, rh, rl, pn, I) Hs))) := by
  have hh6 := hv.1.1.2
  have hw6 := hv.1.2.1.2
  have hr6 := hv.2.2.1.1.2
  have hp6 := hv.2.2.2.1.2
  refine ⟨mf_D_repair, Nat.le_of_ble_eq_true rfl, ?_⟩
  refine R_aload_n rfl rfl ?_
  refine R_gP (x := 37) rfl rfl fp_10_8 rfl ?_
  refine R_aload_n rfl rfl ?_
  refine R_gP (x := 26) rfl rfl fp_10_6 rfl ?_
  refine R_cV (as := [.ref 26]) rfl rfl iv_History_push (sp_pushV (D := (h, w, f, v, rh, rl, pn, I)) hv hH) (by decide) rfl rfl rfl (by decide) rfl rfl (Nat.le_of_ble_eq_true rfl) (fun ρ hρ => ?_)
  obtain ⟨q1, q2⟩ := hρ
  have hv1 : vS ρ 26 h w f v rh rl pn I := q1.vS hv (fun a b _ _ => by unfold plc; omega)
  refine R_aload_n rfl rfl ?_
  refine R_gP (x := 26) rfl rfl fp_10_6 rfl ?_
  refine R_gP (x := 29) rfl rfl fp_9_1 rfl ?_
  refine R_gIX (x := (I 4)) rfl rfl fd_1_0 (hv1.2.2.2.2.2.2.2.2.1 0 (by omega)) ?_
  refine R_istore_n rfl (by decide) ?_
  refine R_iconst (v := 0) rfl rfl ?_
  refine R_istore_n rfl (by decide) ?_
  exact (lp_rep hh6 hw6 hp6 q1 q2 hP h0 (by omega) pn 0 ρ (by omega) ⟨smP.refl, by rw [uJ_0]; exact hv1⟩).weak ⟨rfl, rfl, rfl, trivial⟩
def ceN (B : Nat) : Nat → Nat
  | 0 => 0
  | i + 1 => if B.testBit i = true then ceN B i else ceN B i + 1
theorem ceN_le {B : Nat} : ∀ i, ceN B i ≤ i
  | 0 => Nat.le_refl _
  | i + 1 => by
    have ih := @ceN_le B i
    simp only [ceN]
    split <;> omega
def ceL (f : am_Gr) (h w B : Nat) : Nat → am_Gr
  | 0 => fun _ _ => 0
  | i + 1 => if B.testBit i = true then ceL f h w B i else adL (ceL f h w B i) (rlG f 0 h w i) (ceN B i) h
def ceI (I : Nat → Int32) (x y : Int32) : Nat → Int32 := uJ (uJ I 2 x) 3 y
set_option maxRecDepth 100000 in
set_option maxHeartbeats 4000000 in
theorem lp_cer {σ ρ : am_G} {h w pn n B : Nat} {f v : am_Gr} {I : Nat → Int32} {Hs : Nat → am_Sn} {d k0 : Nat} (hh6 : h ≤ 6) (hw6 : w ≤ 6) (hB : B < 64) (q1 : smP (plc 37 99) σ ρ) (q2 : cH ρ n Hs) (hd : 7 ≤ d)  : ∀ (uu i : Nat) (τ : am_G), i + uu = h → (smP (plc 17 37) ρ τ ∧ vS τ 26 h w f v (ceN B i) (ceL f h w B i) pn I) → am_R am_TX d k0 c_D_certify 70 [some (.ref 0), some (.ref 27), some (.ref 30), some (.int (nI B)), some (.int (nI i))] [] (mm τ) (am_Ok (some (.int (nI (pc B)))) (fun σ1 => smP (plc 17 99) σ σ1 ∧ cS σ1 26 (h, w, f, v, ceN B h, ceL f h w B h, pn, I) ∧ cH σ1 n Hs)) := by
  intro uu
  induction uu with
  | zero =>
    intro i τ hi hI
    obtain rfl : h = i := by omega
    skip
    refine R_iload rfl rfl ?_
    refine R_aload_n rfl rfl ?_
    refine R_gIN (n := h) rfl rfl fd_4_0 hI.2.1.1.1 ?_
    refine R_nicmp_ge (x := h) (y := h) rfl rfl (by omega) (by omega) (fun h1 => ?_) (fun z => by omega)
    refine R_iload_n rfl rfl ?_
    refine R_cS (as := [.int (nI B)]) rfl rfl iv_JInteger_bitCount (sp_bitCount (s := B) (by first | assumption | exact lw_lt (by omega) | exact wi_lt (by first | assumption | omega) (by omega) | exact wo_lt (by first | assumption | omega) (by omega) | omega)) (by omega) rfl rfl rfl rfl (Nat.le_of_ble_eq_true rfl) (fun _ q => ?_)
    obtain rfl := q.symm
    exact T_ireturn rfl rfl (am_oki rfl (chg_end3 q1 q2 hI.1 hI.2 smP.refl))
  | succ uu ih =>
    intro i τ hi hI
    have hce := @ceN_le B i
    refine R_iload rfl rfl ?_
    refine R_aload_n rfl rfl ?_
    refine R_gIN (n := h) rfl rfl fd_4_0 hI.2.1.1.1 ?_
    refine R_nicmp_ge (x := i) (y := h) rfl rfl (by omega) (by omega) (fun z => by omega) (fun h1 => ?_)
    refine R_iload_n rfl rfl ?_
    refine R_iload rfl rfl ?_
    refine R_cS (as := [.int (nI B), .int (nI i)]) rfl rfl iv_D_has (sp_has (s := B) (k := i) (by first | assumption | exact lw_lt (by omega) | exact wi_lt (by first | assumption | omega) (by omega) | exact wo_lt (by first | assumption | omega) (by omega) | omega) (by omega)) (by omega) rfl rfl rfl rfl (Nat.le_of_ble_eq_true rfl) (fun _ q => ?_)
    obtain rfl := q.symm
    refine R_zif_ne rfl rfl (fun h2 => ?_) (fun h2 => ?_)
    · refine R_iincN (x := i) (m := 1) rfl rfl rfl (by decide) ?_
      refine R_goto rfl rfl ?_
      have e := ih (i + 1) τ (by omega) ⟨hI.1, by rw [show ceN B (i + 1) = ceN B i from by simp only [ceN]; exact if_pos h2, show ceL f h w B (i + 1) = ceL f h w B i from by simp only [ceL]; exact if_pos h2]; exact hI.2⟩
      exact e.weak ⟨rfl, rfl, rfl, rfl, rfl, trivial⟩
    · refine R_aload_n rfl rfl ?_
      refine R_gP (x := 33) rfl rfl fp_0_1 rfl ?_
      refine R_aload_n rfl rfl ?_
      refine R_gP (x := 16) rfl rfl fp_10_4 rfl ?_
      refine R_aload_n rfl rfl ?_
      refine R_iconst (v := 0) rfl rfl ?_
      refine R_iload rfl rfl ?_
      refine R_cV (as := [.ref 27, .int 0, .int (nI i)]) rfl rfl iv_Reckoner_relationOfRow (sp_relationOfRow (m := 0) (r := i) im27 (by omega) hI.2.1 (by omega) (by omega)) (by omega) rfl rfl rfl (by decide) rfl rfl (Nat.le_of_ble_eq_true rfl) (fun μ hμ => ?_)
      obtain ⟨g1, g2⟩ := hμ
      have hv2 : vS μ 26 h w f v (ceN B i) (ceL f h w B i) pn I := g1.vS hI.2 (fun a b _ _ => by unfold pRl; omega)
      refine R_cV (as := [.ref 17]) rfl rfl iv_Matrix_addLine (sp_Matrix_addLine im33 hv2.2.2.1 (by omega) im17 ⟨by omega, by omega, by omega⟩ g2) (by omega) rfl rfl rfl (by decide) rfl rfl (Nat.le_of_ble_eq_true rfl) (fun _ q => ?_)
      obtain rfl := q.symm
      have hv3 : vS (setM μ 33 (ceN B i + 1) h (adL (ceL f h w B i) (rlG f 0 h w i) (ceN B i) h)) 26 h w f v (ceN B i + 1) (adL (ceL f h w B i) (rlG f 0 h w i) (ceN B i) h) pn I := vS_rel (s := 26) hv2 (smP_setM (p := plc (26 + 7) (26 + 9)) (σ := μ) (k := 33) (h := ceN B i + 1) (w := h) (f := adL (ceL f h w B i) (rlG f 0 h w i) (ceN B i) h) (fun b => by unfold plc; omega) (fun b => by unfold plc; omega)) (vM_setM (by omega) hh6)
      refine R_iincN (x := i) (m := 1) rfl rfl rfl (by decide) ?_
      refine R_goto rfl rfl ?_
      have e := ih (i + 1) (setM μ 33 (ceN B i + 1) h (adL (ceL f h w B i) (rlG f 0 h w i) (ceN B i) h)) (by omega) ⟨(hI.1.trans (g1.mono (fun a b => by unfold pRl plc; omega))).trans (smP_setM (p := plc 17 37) (σ := μ) (k := 33) (h := ceN B i + 1) (w := h) (f := adL (ceL f h w B i) (rlG f 0 h w i) (ceN B i) h) (fun b => by unfold plc; omega) (fun b => by unfold plc; omega)), by rw [show ceN B (i + 1) = ceN B i + 1 from by simp only [ceN]; exact if_neg h2, show ceL f h w B (i + 1) = adL (ceL f h w B i) (rlG f 0 h w i) (ceN B i) h from by simp only [ceL]; exact if_neg h2]; exact hv3⟩
      exact e.weak ⟨rfl, rfl, rfl, rfl, rfl, trivial⟩
set_option maxRecDepth 100000 in
set_option maxHeartbeats 4000000 in
theorem sp_D_certify {σ : am_G} {h w rh pn : Nat} {f v rl : am_Gr} {I : Nat → Int32} {n : Nat} {Hs : Nat → am_Sn} (hv : vS σ 26 h w f v rh rl pn I) (hH : cH σ n Hs) : am_Call am_TX 8 0 c_D_certify [.ref 0] (mm σ) (am_Ok (some (.int (nI (pc (prR f 0 h w h))))) (fun σ1 => smP (plc 17 99) σ σ1 ∧ cS σ1 26 (h, w, f, v, ceN (prR f 0 h w h) h, ceL f h w (prR f 0 h w h) h, pn, (ceI I (nI (prR f 0 h w h)) (nI (prC f 0 (2 ^ h - 1) h w w)))) ∧ cH σ1 (nxZ n) (hC (h, w, f, v, rh, rl, pn, I) Hs))) := by
  have hh6 := hv.1.1.2
  have hw6 := hv.1.2.1.2
  have hr6 := hv.2.2.1.1.2
  have hp6 := hv.2.2.2.1.2
  refine ⟨mf_D_certify, Nat.le_of_ble_eq_true rfl, ?_⟩
  refine R_aload_n rfl rfl ?_
  refine R_gP (x := 37) rfl rfl fp_10_8 rfl ?_
  refine R_aload_n rfl rfl ?_
  refine R_gP (x := 26) rfl rfl fp_10_6 rfl ?_
  refine R_cV (as := [.ref 26]) rfl rfl iv_History_push (sp_pushV (D := (h, w, f, v, rh, rl, pn, I)) hv hH) (by decide) rfl rfl rfl (by decide) rfl rfl (Nat.le_of_ble_eq_true rfl) (fun ρ hρ => ?_)
  obtain ⟨q1, q2⟩ := hρ
  have hv1 : vS ρ 26 h w f v rh rl pn I := q1.vS hv (fun a b _ _ => by unfold plc; omega)
  refine R_aload_n rfl rfl ?_
  refine R_gP (x := 26) rfl rfl fp_10_6 rfl ?_
  refine R_gP (x := 27) rfl rfl fp_9_0 rfl ?_
  refine R_astore_n rfl (by decide) ?_
  refine R_aload_n rfl rfl ?_
  refine R_gP (x := 26) rfl rfl fp_10_6 rfl ?_
  refine R_gP (x := 30) rfl rfl fp_9_2 rfl ?_
  refine R_astore_n rfl (by decide) ?_
  refine R_aload_n rfl rfl ?_
  refine R_gP (x := 16) rfl rfl fp_10_4 rfl ?_
  refine R_aload_n rfl rfl ?_
  refine R_iconst (v := 0) rfl rfl ?_
  refine R_cV (as := [.ref 27, .int 0]) rfl rfl iv_Reckoner_profileOfRows (sp_profileOfRows (m := 0) im27 (by omega) hv1.1 (by omega)) (by decide) rfl rfl rfl (by decide) rfl rfl (Nat.le_of_ble_eq_true rfl) (fun σ2 hσ2 => ?_)
  refine R_istore_n rfl (by decide) ?_
  refine R_aload_n rfl rfl ?_
  refine R_iload_n rfl rfl ?_
  refine R_aload_n rfl rfl ?_
  refine R_gP (x := 16) rfl rfl fp_10_4 rfl ?_
  refine R_aload_n rfl rfl ?_
  refine R_iconst (v := 0) rfl rfl ?_
  refine R_aload_n rfl rfl ?_
  refine R_cV (as := []) rfl rfl iv_Matrix_allRows (sp_Matrix_allRows im27 ((hσ2.mono (q := plc 17 26) (fun a b => by unfold plc; omega)).vM hv1.1 (fun b => by unfold plc; omega) (fun b => by unfold plc; omega)).1.1 ((hσ2.mono (q := plc 17 26) (fun a b => by unfold plc; omega)).vM hv1.1 (fun b => by unfold plc; omega) (fun b => by unfold plc; omega)).1.2) (by decide) rfl rfl rfl (by decide) rfl rfl (Nat.le_of_ble_eq_true rfl) (fun _ q => ?_)
  obtain rfl := q.symm
  refine R_cV (as := [.ref 27, .int 0, .int (nI (2 ^ h - 1))]) rfl rfl iv_Reckoner_profileOfColumns (sp_profileOfColumns (m := 0) (S := (2 ^ h - 1)) im27 (by omega) ((hσ2.mono (q := plc 17 26) (fun a b => by unfold plc; omega)).vM hv1.1 (fun b => by unfold plc; omega) (fun b => by unfold plc; omega)) (by omega) (by first | assumption | exact lw_lt (by omega) | exact wi_lt (by first | assumption | omega) (by omega) | exact wo_lt (by first | assumption | omega) (by omega) | omega)) (by decide) rfl rfl rfl (by decide) rfl rfl (Nat.le_of_ble_eq_true rfl) (fun σ5 hσ5 => ?_)
  refine R_cV (as := [.int (nI (prR f 0 h w h)), .int (nI (prC f 0 (2 ^ h - 1) h w w))]) rfl rfl iv_Certificate_setClaim (sp_setClaim rfl) (by decide) rfl rfl rfl (by decide) rfl rfl (Nat.le_of_ble_eq_true rfl) (fun _ q => ?_)
  obtain rfl := q.symm
  have hv2 : vS (clS σ5 30 (nI (prR f 0 h w h)) (nI (prC f 0 (2 ^ h - 1) h w w))) 26 h w f v rh rl pn (ceI I (nI (prR f 0 h w h)) (nI (prC f 0 (2 ^ h - 1) h w w))) := vS_cl (s := 26) (((hσ2.mono (q := plc 17 26) (fun a b => by unfold plc; omega)).trans (hσ5.mono (q := plc 17 26) (fun a b => by unfold plc; omega))).vS hv1 (fun a b _ _ => by unfold plc; omega))
  have qv2 : smP (plc 17 37) ρ (clS σ5 30 (nI (prR f 0 h w h)) (nI (prC f 0 (2 ^ h - 1) h w w))) := (((hσ2.mono (q := plc 17 26) (fun a b => by unfold plc; omega)).trans (hσ5.mono (q := plc 17 26) (fun a b => by unfold plc; omega))).mono (fun a b => by unfold plc; omega)).trans (clS_fr (p := plc 17 37) (fun b => by unfold plc; omega))
  refine R_aload_n rfl rfl ?_
  refine R_gP (x := 33) rfl rfl fp_0_1 rfl ?_
  refine R_iconst (v := 0) rfl rfl ?_
  refine R_aload_n rfl rfl ?_
  refine R_gIN (n := h) rfl rfl fd_4_0 hv2.1.1.1 ?_
  refine R_cV (as := [.int 0, .int (nI h)]) rfl rfl iv_Matrix_reset (sp_Matrix_reset (h := 0) im33) (by decide) rfl rfl rfl (by decide) rfl rfl (Nat.le_of_ble_eq_true rfl) (fun _ q => ?_)
  obtain rfl := q.symm
  have hv3 : vS (setM (clS σ5 30 (nI (prR f 0 h w h)) (nI (prC f 0 (2 ^ h - 1) h w w))) 33 0 h (fun _ _ => 0)) 26 h w f v 0 (fun _ _ => 0) pn (ceI I (nI (prR f 0 h w h)) (nI (prC f 0 (2 ^ h - 1) h w w))) := vS_rel (s := 26) hv2 (smP_setM (p := plc (26 + 7) (26 + 9)) (σ := (clS σ5 30 (nI (prR f 0 h w h)) (nI (prC f 0 (2 ^ h - 1) h w w)))) (k := 33) (h := 0) (w := h) (f := fun _ _ => 0) (fun b => by unfold plc; omega) (fun b => by unfold plc; omega)) (vM_setM (by omega) hh6)
  have qv3 : smP (plc 17 37) ρ (setM (clS σ5 30 (nI (prR f 0 h w h)) (nI (prC f 0 (2 ^ h - 1) h w w))) 33 0 h (fun _ _ => 0)) := qv2.trans (smP_setM (p := plc 17 37) (σ := (clS σ5 30 (nI (prR f 0 h w h)) (nI (prC f 0 (2 ^ h - 1) h w w)))) (k := 33) (h := 0) (w := h) (f := fun _ _ => 0) (fun b => by unfold plc; omega) (fun b => by unfold plc; omega))
  refine R_iconst (v := 0) rfl rfl ?_
  refine R_istore rfl (by decide) ?_
  exact (lp_cer hh6 hw6 (prR_lt h hh6) q1 q2 (by omega) h 0 _ (by omega) ⟨qv3, hv3⟩).weak ⟨rfl, rfl, rfl, rfl, rfl, trivial⟩
