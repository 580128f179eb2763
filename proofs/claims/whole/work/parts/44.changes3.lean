/-! ===== probes, repairs, certificates ===== -/
def gvE (f : am_Gr) (P : Nat → Nat) (h w q : Nat) : Int32 := faF f h w (gvF f (P q) h w q 1) (gvF f (P q) h w q 2) (gvF f (P q) h w q 3)
theorem gs_at {σ : am_G} {g : Nat} {x : Nat → Int32} : ∀ j, j < 4 → (gS σ g x).1 g j = x j := gS_at
theorem chg_end3 {σ ρ μ ν : am_G} {n : Nat} {Hs : Nat → am_Sn} {D2 : am_Sn} (q1 : smP (plc 37 99) σ ρ) (q2 : cH ρ n Hs) (M : smP (plc 17 37) ρ μ) (hv2 : cS μ 26 D2) (K : smP (plc 19 21) μ ν) : smP (plc 17 99) σ ν ∧ cS ν 26 D2 ∧ cH ν n Hs :=
  ⟨((q1.mono (fun a b => by unfold plc; omega)).trans (M.mono (fun a b => by unfold plc; omega))).trans (K.mono (fun a b => by unfold plc; omega)), hv2.fr K (fun a b _ _ => by unfold plc; omega), (q2.fr M (fun a b _ _ => by unfold plc; omega)).fr K (fun a b _ _ => by unfold plc; omega)⟩
set_option maxRecDepth 100000 in
set_option maxHeartbeats 4000000 in
theorem sp_D_probe {σ : am_G} {h w rh pn : Nat} {f v rl : am_Gr} {I : Nat → Int32} {n : Nat} {Hs : Nat → am_Sn} {p : Nat} {P : Nat → Nat} (hv : vS σ 26 h w f v rh rl pn I) (hH : cH σ n Hs) (p_p : p < pn) (hP : prP pn I P) : am_Call am_TX 8 0 c_D_probe [.ref 0, .int (nI p)] (mm σ) (am_Ok (some (.int (gvE f P h w p))) (fun σ1 => smP (plc 17 99) σ σ1 ∧ cS σ1 26 (h, w, f, v, rh, rl, pn, (uG (if ((gvF f (P p) h w p) 0 = I (4 + 0) ∧ (gvF f (P p) h w p) 1 = I (4 + 1) ∧ (gvF f (P p) h w p) 2 = I (4 + 2) ∧ (gvF f (P p) h w p) 3 = I (4 + 3)) then I else (uJ I 0 (I 0 + 1))) (gvF f (P p) h w p))) ∧ cH σ1 (nxZ n) (hC (h, w, f, v, rh, rl, pn, I) Hs))) := by
  have hh6 := hv.1.1.2
  have hw6 := hv.1.2.1.2
  have hr6 := hv.2.2.1.1.2
  have hp6 := hv.2.2.2.1.2
  have hp97 := (prL_le _ (hP p p_p).2).2
  refine ⟨mf_D_probe, Nat.le_of_ble_eq_true rfl, ?_⟩
  refine R_aload_n rfl rfl ?_
  refine R_iload_n rfl rfl ?_
  refine R_cV (as := [.int (nI p)]) rfl rfl iv_D_requirePlace (sp_requirePlace (r := p) hv (by omega)) (by decide) rfl rfl rfl (by decide) rfl rfl (Nat.le_of_ble_eq_true rfl) (fun _ q => ?_)
  obtain rfl := q.symm
  refine R_aload_n rfl rfl ?_
  refine R_gP (x := 37) rfl rfl fp_10_8 rfl ?_
  refine R_aload_n rfl rfl ?_
  refine R_gP (x := 26) rfl rfl fp_10_6 rfl ?_
  refine R_cV (as := [.ref 26]) rfl rfl iv_History_push (sp_pushV (D := (h, w, f, v, rh, rl, pn, I)) hv hH) (by decide) rfl rfl rfl (by decide) rfl rfl (Nat.le_of_ble_eq_true rfl) (fun ρ hρ => ?_)
  obtain ⟨q1, q2⟩ := hρ
  have hv1 : vS ρ 26 h w f v rh rl pn I := q1.vS hv (fun a b _ _ => by unfold plc; omega)
  refine R_aload_n rfl rfl ?_
  refine R_gP (x := 16) rfl rfl fp_10_4 rfl ?_
  refine R_aload_n rfl rfl ?_
  refine R_gP (x := 36) rfl rfl fp_10_7 rfl ?_
  refine R_aload_n rfl rfl ?_
  refine R_gP (x := 26) rfl rfl fp_10_6 rfl ?_
  refine R_gP (x := 27) rfl rfl fp_9_0 rfl ?_
  refine R_iload_n rfl rfl ?_
  refine R_aload_n rfl rfl ?_
  refine R_gP (x := 26) rfl rfl fp_10_6 rfl ?_
  refine R_iload_n rfl rfl ?_
  refine R_cV (as := [.int (nI p)]) rfl rfl iv_State_primeAt ((by have z := sp_primeAtV (p := p) hv1 (by omega); rw [(hP p (by omega)).1] at z; exact z)) (by decide) rfl rfl rfl (by decide) rfl rfl (Nat.le_of_ble_eq_true rfl) (fun _ q => ?_)
  obtain rfl := q.symm
  refine R_cV (as := [.ref 36, .ref 27, .int (nI p), .int (nI (P p))]) rfl rfl iv_Reckoner_makeGuess (sp_makeGuess (pl := p) (p := (P p)) hv1.1 (by omega)) (by decide) rfl rfl rfl (by decide) rfl rfl (Nat.le_of_ble_eq_true rfl) (fun μ hμ => ?_)
  obtain ⟨g1, g2⟩ := hμ
  refine R_aload_n rfl rfl ?_
  refine R_gP (x := 36) rfl rfl fp_10_7 rfl ?_
  refine R_aload_n rfl rfl ?_
  refine R_gP (x := 26) rfl rfl fp_10_6 rfl ?_
  refine R_gP (x := 29) rfl rfl fp_9_1 rfl ?_
  refine R_cV (as := [.ref 29]) rfl rfl iv_Guess_isSameAs (sp_Guess_isSameAs (g := 36) (g2 := 29) (x := (gvF f (P p) h w p)) (y := fun j => I (4 + j)) rfl rfl g2 (fun j hj => (g1.i (by unfold pG; omega)).trans (hv1.2.2.2.2.2.2.2.2.1 j hj))) (by decide) rfl rfl rfl (by decide) rfl rfl (Nat.le_of_ble_eq_true rfl) (fun _ q => ?_)
  obtain rfl := q.symm
  refine R_zif_ne rfl rfl (fun h1 => ?_) (fun h1 => ?_)
  · refine R_aload_n rfl rfl ?_
    refine R_gP (x := 26) rfl rfl fp_10_6 rfl ?_
    refine R_gP (x := 29) rfl rfl fp_9_1 rfl ?_
    refine R_aload_n rfl rfl ?_
    refine R_gP (x := 36) rfl rfl fp_10_7 rfl ?_
    refine R_cV (as := [.ref 36]) rfl rfl iv_Guess_copyFrom (sp_Guess_copyFrom (g := 29) (g2 := 36) (x := (gvF f (P p) h w p)) rfl rfl (by decide) g2) (by decide) rfl rfl rfl (by decide) rfl rfl (Nat.le_of_ble_eq_true rfl) (fun _ q => ?_)
    obtain rfl := q.symm
    have hv2 : vS (gS μ 29 (gvF f (P p) h w p)) 26 h w f v rh rl pn (uG I (gvF f (P p) h w p)) := vS_gs (s := 26) (g1.vS hv1 (fun a b _ _ => by unfold pG; omega))
    refine R_aload_n rfl rfl ?_
    refine R_gP (x := 16) rfl rfl fp_10_4 rfl ?_
    refine R_aload_n rfl rfl ?_
    refine R_gP (x := 36) rfl rfl fp_10_7 rfl ?_
    refine R_aload_n rfl rfl ?_
    refine R_gP (x := 26) rfl rfl fp_10_6 rfl ?_
    refine R_gP (x := 27) rfl rfl fp_9_0 rfl ?_
    refine R_cV (as := [.ref 36, .ref 27]) rfl rfl iv_Reckoner_faultOf (sp_faultOf (g := 36) (x := (gvF f (P p) h w p)) rfl (by omega) (fun j hj => ((gS_fr (p := plc 29 30) (σ := μ) (g := 29) (x := (gvF f (P p) h w p)) (fun b => by unfold plc; omega)).i (by unfold plc; omega)).trans (g2 j hj)) hv2.1) (by decide) rfl rfl rfl (by decide) rfl rfl (Nat.le_of_ble_eq_true rfl) (fun ν hν => ?_)
    exact T_ireturn rfl rfl (am_oki rfl (by rw [show (if ((gvF f (P p) h w p) 0 = I (4 + 0) ∧ (gvF f (P p) h w p) 1 = I (4 + 1) ∧ (gvF f (P p) h w p) 2 = I (4 + 2) ∧ (gvF f (P p) h w p) 3 = I (4 + 3)) then I else (uJ I 0 (I 0 + 1))) = I from if_pos h1]; exact chg_end3 q1 q2 ((g1.mono (q := plc 17 37) (fun a b => by unfold pG plc; omega)).trans (gS_fr (p := plc 17 37) (σ := μ) (g := 29) (x := (gvF f (P p) h w p)) (fun b => by unfold plc; omega))) hv2 hν))
  · refine R_aload_n rfl rfl ?_
    refine R_gP (x := 26) rfl rfl fp_10_6 rfl ?_
    refine R_dup rfl rfl ?_
    refine R_gIX (x := (I 0)) rfl rfl fd_9_4 ((g1.i (by unfold pG; omega)).trans hv1.2.2.2.2.1) ?_
    refine R_iconst (v := 1) rfl rfl ?_
    refine R_iadd rfl ?_
    refine R_pI rfl rfl fw_9_4 rfl ?_
    refine R_aload_n rfl rfl ?_
    refine R_gP (x := 26) rfl rfl fp_10_6 rfl ?_
    refine R_gP (x := 29) rfl rfl fp_9_1 rfl ?_
    refine R_aload_n rfl rfl ?_
    refine R_gP (x := 36) rfl rfl fp_10_7 rfl ?_
    refine R_cV (as := [.ref 36]) rfl rfl iv_Guess_copyFrom (sp_Guess_copyFrom (g := 29) (g2 := 36) (x := (gvF f (P p) h w p)) rfl rfl (by decide) (fun j hj => (sI_o (Or.inl (by decide))).trans (g2 j hj))) (by decide) rfl rfl rfl (by decide) rfl rfl (Nat.le_of_ble_eq_true rfl) (fun _ q => ?_)
    obtain rfl := q.symm
    have hv2 : vS (gS (sI μ 26 4 ((I 0) + 1)) 29 (gvF f (P p) h w p)) 26 h w f v rh rl pn (uG (uJ I 0 (I 0 + 1)) (gvF f (P p) h w p)) := vS_gs (s := 26) (vS_ct (k := 0) (by decide) (g1.vS hv1 (fun a b _ _ => by unfold pG; omega)))
    refine R_aload_n rfl rfl ?_
    refine R_gP (x := 16) rfl rfl fp_10_4 rfl ?_
    refine R_aload_n rfl rfl ?_
    refine R_gP (x := 36) rfl rfl fp_10_7 rfl ?_
    refine R_aload_n rfl rfl ?_
    refine R_gP (x := 26) rfl rfl fp_10_6 rfl ?_
    refine R_gP (x := 27) rfl rfl fp_9_0 rfl ?_
    refine R_cV (as := [.ref 36, .ref 27]) rfl rfl iv_Reckoner_faultOf (sp_faultOf (g := 36) (x := (gvF f (P p) h w p)) rfl (by omega) (fun j hj => ((gS_fr (p := plc 29 30) (σ := (sI μ 26 4 ((I 0) + 1))) (g := 29) (x := (gvF f (P p) h w p)) (fun b => by unfold plc; omega)).i (by unfold plc; omega)).trans ((fun j hj => (sI_o (Or.inl (by decide))).trans (g2 j hj)) j hj)) hv2.1) (by decide) rfl rfl rfl (by decide) rfl rfl (Nat.le_of_ble_eq_true rfl) (fun ν hν => ?_)
    exact T_ireturn rfl rfl (am_oki rfl (by rw [show (if ((gvF f (P p) h w p) 0 = I (4 + 0) ∧ (gvF f (P p) h w p) 1 = I (4 + 1) ∧ (gvF f (P p) h w p) 2 = I (4 + 2) ∧ (gvF f (P p) h w p) 3 = I (4 + 3)) then I else (uJ I 0 (I 0 + 1))) = (uJ I 0 (I 0 + 1)) from if_neg h1]; exact chg_end3 q1 q2 (((g1.mono (q := plc 17 37) (fun a b => by unfold pG plc; omega)).trans (smP_sI (p := plc 17 37) (k := 26) (j := 4) (x := I 0 + 1) (by unfold plc; omega))).trans (gS_fr (p := plc 17 37) (σ := (sI μ 26 4 ((I 0) + 1))) (g := 29) (x := (gvF f (P p) h w p)) (fun b => by unfold plc; omega))) hv2 hν))
set_option maxRecDepth 100000 in
set_option maxHeartbeats 4000000 in
theorem sp_D_probe_x0 {σ : am_G} {h w rh pn : Nat} {f v rl : am_Gr} {I : Nat → Int32} {x : Int32} (hv : vS σ 26 h w f v rh rl pn I) (hb : ¬ (0 ≤ x ∧ x < nI pn)) : am_Call am_TX 8 1 c_D_probe [.ref 0, .int x] (mm σ) (am_ThP "java/lang/IndexOutOfBoundsException" (fun σ1 => smP (plc 17 26) σ σ1)) := by
  have hh6 := hv.1.1.2
  have hw6 := hv.1.2.1.2
  have hr6 := hv.2.2.1.1.2
  have hp6 := hv.2.2.2.1.2
  refine ⟨mf_D_probe, Nat.le_of_ble_eq_true rfl, ?_⟩
  refine R_aload_n rfl rfl ?_
  refine R_iload_n rfl rfl ?_
  refine R_cVxP (k := 0) (as := [.int x]) rfl rfl iv_D_requirePlace (sp_requirePlace_x hv hb) (by decide) rfl rfl rfl (by decide) rfl rfl (Nat.le_of_ble_eq_true rfl) (fun σ' hσ' => Rx_out rfl ⟨σ', rfl, by rw [hσ']; exact smP.refl⟩)
/-- the place tried at the i-th try -/
def rpQ (pn s0 i : Nat) : Nat := (s0 + i) % pn
/-- how many tries, and the place found -/
def rpT (f : am_Gr) (P : Nat → Nat) (h w pn s0 : Nat) : Nat → Nat → Nat × Option Nat
  | 0, i => (i, none)
  | u + 1, i => if gvE f P h w (rpQ pn s0 i) = 0 then (i + 1, some (rpQ pn s0 i)) else rpT f P h w pn s0 u (i + 1)
/-- the place that stands in the local before the i-th try -/
def rpL (I4 : Int32) (pn s0 i : Nat) : Int32 := if i = 0 then I4 else nI (rpQ pn s0 (i - 1))
def rpI (I : Nat → Int32) (f : am_Gr) (P : Nat → Nat) (h w : Nat) (r : Nat × Option Nat) : Nat → Int32 := match r.2 with
  | none => uJ I 1 (I 1 + nI r.1)
  | some q => uG (uJ I 1 (I 1 + nI r.1)) (gvF f (P q) h w q)
def rpR (r : Option Nat) : Int32 := match r with
  | none => -1
  | some q => nI q
theorem rpQ_lt {pn s0 i : Nat} (h : 0 < pn) : rpQ pn s0 i < pn := Nat.mod_lt _ h
/-- the next place as the class reckons it -/
theorem rpL_n {I4 : Int32} {pn s0 i : Nat} (hp : 0 < pn) (h6 : pn ≤ 6) (h0 : (I4 = -1 ∧ s0 = 0) ∨ ∃ g, g < pn ∧ I4 = nI g ∧ s0 = g + 1) : (rpL I4 pn s0 i + 1 < nI pn → rpL I4 pn s0 i + 1 = nI (rpQ pn s0 i)) ∧ (¬ rpL I4 pn s0 i + 1 < nI pn → rpQ pn s0 i = 0) := by
  by_cases hi : i = 0
  · subst hi
    unfold rpL rpQ
    rw [if_pos rfl, Nat.add_zero]
    rcases h0 with ⟨rfl, rfl⟩ | ⟨g, hg, rfl, rfl⟩
    · rw [Nat.zero_mod]
      exact ⟨fun _ => rfl, fun _ => rfl⟩
    · rw [show (1 : Int32) = nI 1 from rfl, nI_add, nI_ltN (by omega) (by omega)]
      refine ⟨fun h => ?_, fun h => ?_⟩
      · rw [Nat.mod_eq_of_lt h]
      · rw [show g + 1 = pn by omega, Nat.mod_self]
  · unfold rpL rpQ
    rw [if_neg hi, show (1 : Int32) = nI 1 from rfl, nI_add]
    have h1 : (s0 + (i - 1)) % pn < pn := Nat.mod_lt _ hp
    rw [nI_ltN (by omega) (by omega)]
    have e : (s0 + i) % pn = ((s0 + (i - 1)) % pn + 1) % pn := by
      rw [show s0 + i = (s0 + (i - 1)) + 1 by omega, Nat.add_mod, Nat.add_mod ((s0 + (i - 1)) % pn) 1, Nat.mod_mod]
    refine ⟨fun h => ?_, fun h => ?_⟩
    · rw [e, Nat.mod_eq_of_lt h]
    · rw [e, show (s0 + (i - 1)) % pn + 1 = pn by omega, Nat.mod_self]
