/-! ===== the model: probe, repair ===== -/
theorem ct_nV {σ : am_G} {h w rh pn k : Nat} {f v rl : am_Gr} {I : Nat → Int32} {x : Int64} (hn : nV σ h w f v rh rl pn I) (hk : k = 0 ∨ k = 1) (hx : x.toInt32 = I k + 1) : nV (sL σ 121 (8 + k) x) h w f v rh rl pn (uJ I k (I k + 1)) := by
  obtain ⟨⟨⟨a1, a2, a3⟩, ⟨b1, b2⟩, c1, ⟨d1, d2⟩, e1, f1, g1, i1⟩, hok, hq⟩ := hn
  have p6 := hok.2.2.2.1.1
  have o : ∀ j, j ≠ 8 + k → (sL σ 121 (8 + k) x).2.1 121 j = σ.2.1 121 j := fun j a => by rw [sL1, if_neg a]
  have u : ∀ j, 2 ≤ j → uJ I k (I k + 1) j = I j := fun j a => by unfold uJ; rw [if_neg (by omega)]
  refine ⟨⟨⟨(o 0 (by omega)).trans a1, (o 1 (by omega)).trans a2, fun i j hi hj => (o _ (by omega)).trans (a3 i j hi hj)⟩, ⟨(o 2 (by omega)).trans b1, fun j hj => by rw [u _ (by omega)]; exact (o _ (by omega)).trans (b2 j hj)⟩, ?_, ⟨?_, ?_⟩, ?_, (o 13 (by omega)).trans f1, fun j hj => (o _ (by omega)).trans (g1 j hj), fun q j hk hj => (o _ (by omega)).trans (i1 q j hk hj)⟩, gu_ok hok (u 2 (by omega)) (u 3 (by omega)) (fun j hj => u _ (by omega)) ?_, hq⟩
  · rw [u 4 (by omega)]
    rcases c1 with ⟨y, z⟩ | ⟨y, z, t⟩
    · exact Or.inl ⟨y, (o 3 (by omega)).trans z⟩
    · exact Or.inr ⟨y, (o 3 (by omega)).trans z, fun j hj => by rw [u _ (by omega)]; exact (o _ (by omega)).trans (t j hj)⟩
  · rcases hk with rfl | rfl
    · rw [sL1, if_pos rfl, hx]; unfold uJ; rw [if_pos rfl]
    · rw [o 8 (by omega), d1]; unfold uJ; rw [if_neg (by omega)]
  · rcases hk with rfl | rfl
    · rw [o 9 (by omega), d2]; unfold uJ; rw [if_neg (by omega)]
    · rw [sL1, if_pos rfl, hx]; unfold uJ; rw [if_pos rfl]
  · rw [u 2 (by omega), u 3 (by omega), o 10 (by omega), o 11 (by omega), o 12 (by omega)]; exact e1
  · rcases hok.2.2.2.2.1 with z | ⟨g, z1, z2⟩
    · exact Or.inl (fun j hj => by rw [u _ (by omega)]; exact z j hj)
    · exact Or.inr ⟨g, z1, by rw [u 4 (by omega)]; exact z2⟩
theorem uG_4 {I x : Nat → Int32} : uG I x 4 = x 0 := rfl
theorem uG_uJ {I x : Nat → Int32} {k : Nat} {y : Int32} (hk : k < 4) : uJ (uG I x) k y = uG (uJ I k y) x := by
  funext j
  simp only [uJ, uG]
  by_cases e : j = k
  · rw [if_pos e, if_neg (by omega), if_pos e]
  · rw [if_neg e, if_neg e]
theorem uG_5 {I x : Nat → Int32} : uG I x 5 = x 1 := by unfold uG; rw [if_pos (by omega)]
theorem uG_6 {I x : Nat → Int32} : uG I x 6 = x 2 := by unfold uG; rw [if_pos (by omega)]
theorem uG_7 {I x : Nat → Int32} : uG I x 7 = x 3 := by unfold uG; rw [if_pos (by omega)]
theorem gvF_0 {f : am_Gr} {p h w q : Nat} : gvF f p h w q 0 = nI q := rfl
theorem sp_fn_uG {σ : am_G} {h w rh pn q : Nat} {f v rl : am_Gr} {I : Nat → Int32} {P : Nat → Nat} (hn : nV σ h w f v rh rl pn (uG I (gvF f (P q) h w q))) (hq : q < 2 ^ 31) : am_Call am_TX 9 0 c_M_faultNow [.ref 120] (mm σ) (am_Ok (some (.int (gvE f P h w q))) (fun σ1 => smP pW σ σ1)) := by
  have z := sp_faultNow hn (fun y => by rw [uG_4, gvF_0] at y; exact absurd y (nI_m1 hq))
  rw [uG_5, uG_6, uG_7] at z
  unfold gvE
  exact z
theorem pGu_th {σ σ1 : am_G} (q : smP pGu σ σ1) {t : Int32} (h : σ.1 120 0 = t) : σ1.1 120 0 = t := (q.i (by unfold pGu pW; omega)).trans h
set_option maxRecDepth 100000 in
set_option maxHeartbeats 4000000 in
theorem ch_probe {σ : am_G} {h w rh pn : Nat} {f v rl : am_Gr} {I : Nat → Int32} {P : Nat → Nat} {p : Nat} {d k0 : Nat} (hn : nV σ h w f v rh rl pn I) (p_p : p < pn) (hP : prP pn I P) (t0 : σ.1 120 0 = 0) (hd : 15 ≤ d) : am_R am_TX d k0 c_M_probe 18 [some (.ref 120), some (.int (nI p))] [] (mm σ) (am_Ok (some (.int (gvE f P h w p))) (fun σ1 => smP pN σ σ1 ∧ σ1.1 120 0 = 0 ∧ nVD σ1 (h, w, f, v, rh, rl, pn, (uG (if ((gvF f (P p) h w p) 0 = I (4 + 0) ∧ (gvF f (P p) h w p) 1 = I (4 + 1) ∧ (gvF f (P p) h w p) 2 = I (4 + 2) ∧ (gvF f (P p) h w p) 3 = I (4 + 3)) then I else (uJ I 0 (I 0 + 1))) (gvF f (P p) h w p))))) := by
  have hv := hn.toV
  have hs := hn.2.1.2.1
  have hh1 := hv.1.1.1
  have hh6 := hv.1.1.2
  have hw1 := hv.1.2.1
  have hw6 := hv.1.2.2
  have hp6 := hn.2.1.2.2.2.1.1
  have hr6 := hn.2.1.2.2.2.2.2.2.1
  have hs7 := lw_lt hh6
  have ws7 := lw_lt hw6
  refine R_aload_n rfl rfl ?_
  refine R_iload_n rfl rfl ?_
  refine R_cV (as := [.int (nI p)]) rfl rfl iv_M_guessBy (sp_guessBy (p := p) hn hP p_p) (by omega) rfl rfl rfl (by decide) rfl rfl (Nat.le_of_ble_eq_true rfl) (fun ρ1 hρ1 => ?_)
  obtain ⟨q1, hn1⟩ := hρ1
  refine R_zif_eq rfl rfl (fun g1 => ?_) (fun g1 => ?_)
  · refine R_aload_n rfl rfl ?_
    refine R_cV (as := []) rfl rfl iv_M_faultNow (sp_fn_uG (q := p) (P := P) hn1 (by omega)) (by omega) rfl rfl rfl (by decide) rfl rfl (Nat.le_of_ble_eq_true rfl) (fun ρ9 hρ9 => ?_)
    exact T_ireturn rfl rfl (am_oki rfl ⟨(q1.mono pGu_N).trans (hρ9.mono pN_W), (hρ9.i (by unfold pW; omega)).trans (pGu_th q1 t0), by show nV ρ9 h w f v rh rl pn (uG (if ((gvF f (P p) h w p) 0 = I (4 + 0) ∧ (gvF f (P p) h w p) 1 = I (4 + 1) ∧ (gvF f (P p) h w p) 2 = I (4 + 2) ∧ (gvF f (P p) h w p) 3 = I (4 + 3)) then I else (uJ I 0 (I 0 + 1))) (gvF f (P p) h w p)); rw [if_pos (Classical.not_not.mp g1)]; exact nV_W hρ9 hn1⟩)
  · refine R_aload_n rfl rfl ?_
    refine R_gP (x := 121) rfl rfl fp_11_1 rfl ?_
    refine R_bipush (v := 8) rfl (by decide) ?_
    refine R_dup2 rfl rfl rfl ?_
    refine R_xL (j := 8) rfl rfl rfl (by omega) (by decide) ?_
    refine R_lconst (v := 1) rfl rfl ?_
    refine R_ladd rfl ?_
    refine R_wL (j := 8) rfl rfl rfl (by omega) (by decide) ?_
    have hn2 : nV (sL ρ1 121 8 ((ρ1.2.1 121 8) + 1)) h w f v rh rl pn (uG (uJ I 0 (I 0 + 1)) (gvF f (P p) h w p)) := by
      have z := ct_nV (k := 0) (x := ρ1.2.1 121 8 + 1) hn1 (Or.inl rfl) (by rw [Int64.toInt32_add, hn1.1.2.2.2.1.1]; rfl)
      rw [uG_uJ (by omega)] at z
      exact z
    refine R_aload_n rfl rfl ?_
    refine R_cV (as := []) rfl rfl iv_M_faultNow (sp_fn_uG (q := p) (P := P) hn2 (by omega)) (by omega) rfl rfl rfl (by decide) rfl rfl (Nat.le_of_ble_eq_true rfl) (fun ρ9 hρ9 => ?_)
    exact T_ireturn rfl rfl (am_oki rfl ⟨((q1.mono pGu_N).trans (smP_sL (p := pN) (Or.inr (Or.inl rfl)))).trans (hρ9.mono pN_W), (hρ9.i (by unfold pW; omega)).trans (pGu_th q1 t0), by show nV ρ9 h w f v rh rl pn (uG (if ((gvF f (P p) h w p) 0 = I (4 + 0) ∧ (gvF f (P p) h w p) 1 = I (4 + 1) ∧ (gvF f (P p) h w p) 2 = I (4 + 2) ∧ (gvF f (P p) h w p) 3 = I (4 + 3)) then I else (uJ I 0 (I 0 + 1))) (gvF f (P p) h w p)); rw [if_neg g1]; exact nV_W hρ9 hn2⟩)
set_option maxRecDepth 100000 in
set_option maxHeartbeats 4000000 in
theorem sp_M_probe {σ : am_G} {h w rh pn : Nat} {f v rl : am_Gr} {I : Nat → Int32} {n : Nat} {Hs : Nat → am_Sn} {P : Nat → Nat} {p : Nat} (hn : nV σ h w f v rh rl pn I) (hH : mH σ n Hs) (p_p : p < pn) (hP : prP pn I P) : am_Call am_TX 16 0 c_M_probe [.ref 120, .int (nI p)] (mm σ) (am_Ok (some (.int (gvE f P h w p))) (fun σ1 => smP pC σ σ1 ∧ σ1.1 120 0 = 0 ∧ nVD σ1 (h, w, f, v, rh, rl, pn, (uG (if ((gvF f (P p) h w p) 0 = I (4 + 0) ∧ (gvF f (P p) h w p) 1 = I (4 + 1) ∧ (gvF f (P p) h w p) 2 = I (4 + 2) ∧ (gvF f (P p) h w p) 3 = I (4 + 3)) then I else (uJ I 0 (I 0 + 1))) (gvF f (P p) h w p))) ∧ mH σ1 (nxZ n) (hC (h, w, f, v, rh, rl, pn, I) Hs))) := by
  have hv := hn.toV
  have hs := hn.2.1.2.1
  have hh1 := hv.1.1.1
  have hh6 := hv.1.1.2
  have hw1 := hv.1.2.1
  have hw6 := hv.1.2.2
  have hp6 := hn.2.1.2.2.2.1.1
  have hr6 := hn.2.1.2.2.2.2.2.2.1
  have hs7 := lw_lt hh6
  have ws7 := lw_lt hw6
  refine ⟨mf_M_probe, Nat.le_of_ble_eq_true rfl, ?_⟩
  refine R_aload_n rfl rfl ?_
  refine R_aload_n rfl rfl ?_
  refine R_iload_n rfl rfl ?_
  refine R_cV (as := [.int (nI p)]) rfl rfl iv_M_isPlace (isPlace_1 hn (k := p) (by omega)) (by omega) rfl rfl rfl (by decide) rfl rfl (Nat.le_of_ble_eq_true rfl) (fun _ q => ?_)
  obtain rfl := q.symm
  refine R_cV (as := [.int 1]) rfl rfl iv_M_passes (pass_1) (by omega) rfl rfl rfl (by decide) rfl rfl (Nat.le_of_ble_eq_true rfl) (fun _ q => ?_)
  obtain rfl := q.symm
  refine R_if_ne rfl rfl (fun _ => ?_) (fun z => absurd z (by decide))
  refine R_aload_n rfl rfl ?_
  refine R_cV (as := []) rfl rfl iv_M_remember (sp_remember (hn.fr (smP_sI (p := pQ) (k := 120) (j := 0) (x := 0) (by unfold pQ; omega)) (fun b => by unfold pQ; omega) (by unfold pQ; omega)) (hH.fr (smP_sI (p := pQ) (k := 120) (j := 0) (x := 0) (by unfold pQ; omega)) (by unfold pQ; omega) (fun b => by unfold pQ; omega))) (by omega) rfl rfl rfl (by decide) rfl rfl (Nat.le_of_ble_eq_true rfl) (fun ρ hρ => ?_)
  obtain ⟨hρ, hρH⟩ := hρ
  exact ((ch_probe (pR_f hρ (hn.fr (smP_sI (p := pQ) (k := 120) (j := 0) (x := 0) (by unfold pQ; omega)) (fun b => by unfold pQ; omega) (by unfold pQ; omega))) p_p hP ((hρ.i (by unfold pR; omega)).trans sI_s) (by omega)).mono (am_Ok.mono (fun τ e => ⟨(ch_end (smP_sI (p := pQ) (k := 120) (j := 0) (x := 0) (by unfold pQ; omega)) hρ hρH e.1).1, e.2.1, e.2.2, (ch_end (smP_sI (p := pQ) (k := 120) (j := 0) (x := 0) (by unfold pQ; omega)) hρ hρH e.1).2⟩))).weak ⟨rfl, rfl, trivial⟩
set_option maxRecDepth 100000 in
set_option maxHeartbeats 4000000 in
theorem sp_M_probe_x0 {σ : am_G} {h w rh pn : Nat} {f v rl : am_Gr} {I : Nat → Int32} {x : Int32} (hn : nV σ h w f v rh rl pn I) (hb : ¬ (0 ≤ x ∧ x < nI pn)) : am_Call am_TX 14 0 c_M_probe [.ref 120, .int x] (mm σ) (am_Ok (some (.int 0)) (fun σ1 => smP pQ σ σ1 ∧ σ1.1 120 0 = 1)) := by
  have hv := hn.toV
  have hs := hn.2.1.2.1
  have hh1 := hv.1.1.1
  have hh6 := hv.1.1.2
  have hw1 := hv.1.2.1
  have hw6 := hv.1.2.2
  have hp6 := hn.2.1.2.2.2.1.1
  have hr6 := hn.2.1.2.2.2.2.2.2.1
  have hs7 := lw_lt hh6
  have ws7 := lw_lt hw6
  refine ⟨mf_M_probe, Nat.le_of_ble_eq_true rfl, ?_⟩
  refine R_aload_n rfl rfl ?_
  refine R_aload_n rfl rfl ?_
  refine R_iload_n rfl rfl ?_
  refine R_cV (as := [.int x]) rfl rfl iv_M_isPlace (isPlace_0 hn hb) (by omega) rfl rfl rfl (by decide) rfl rfl (Nat.le_of_ble_eq_true rfl) (fun _ q => ?_)
  obtain rfl := q.symm
  refine R_cV (as := [.int 0]) rfl rfl iv_M_passes (pass_0) (by omega) rfl rfl rfl (by decide) rfl rfl (Nat.le_of_ble_eq_true rfl) (fun _ q => ?_)
  obtain rfl := q.symm
  refine R_if_ne rfl rfl (fun z => absurd z (by decide)) (fun _ => ?_)
  refine R_iconst (v := 0) rfl rfl ?_
  exact T_ireturn rfl rfl (am_oki rfl ⟨(smP_sI (p := pQ) (k := 120) (j := 0) (x := 1) (by unfold pQ; omega)), sI_s⟩)
/-- the numbers behind k tries -/
def rpJ (I : Nat → Int32) (f : am_Gr) (P : Nat → Nat) (h w pn s0 k : Nat) : Nat → Int32 := if k = 0 then I else uG (uJ I 1 (I 1 + nI k)) (gvF f (P (rpQ pn s0 (k - 1))) h w (rpQ pn s0 (k - 1)))
theorem rpJ_1 {I : Nat → Int32} {f : am_Gr} {P : Nat → Nat} {h w pn s0 k : Nat} : rpJ I f P h w pn s0 k 1 = I 1 + nI k := by
  unfold rpJ
  by_cases e : k = 0
  · rw [if_pos e, e]; exact (Int32.add_zero _).symm
  · rw [if_neg e]; rfl
theorem rpJ_8 {I : Nat → Int32} {f : am_Gr} {P : Nat → Nat} {h w pn s0 k : Nat} : ∀ j, (j < 4 ∨ 8 ≤ j) → j ≠ 1 → rpJ I f P h w pn s0 k j = I j := fun j hj h1 => by
  unfold rpJ
  by_cases e : k = 0
  · rw [if_pos e]
  · rw [if_neg e]
    unfold uG uJ
    rw [if_neg (by omega), if_neg h1]
theorem rpJ_s {I : Nat → Int32} {f : am_Gr} {P : Nat → Nat} {h w pn s0 k : Nat} : uG (uJ (rpJ I f P h w pn s0 k) 1 (rpJ I f P h w pn s0 k 1 + 1)) (gvF f (P (rpQ pn s0 k)) h w (rpQ pn s0 k)) = rpJ I f P h w pn s0 (k + 1) := by
  rw [rpJ_1]
  funext j
  show _ = rpJ I f P h w pn s0 (k + 1) j
  unfold rpJ
  rw [if_neg (show ¬ k + 1 = 0 by omega), show k + 1 - 1 = k by omega]
  unfold uG
  by_cases c : 4 ≤ j ∧ j < 8
  · rw [if_pos c, if_pos c]
  · rw [if_neg c, if_neg c]
    unfold uJ
    by_cases e : j = 1
    · rw [if_pos e, if_pos e, Int32.add_assoc, show nI k + 1 = nI (k + 1) from nI_add k 1]
    · rw [if_neg e, if_neg e]
      have z := @rpJ_8 I f P h w pn s0 k j (by omega) e
      unfold rpJ uG uJ at z
      exact z
theorem rpP {I : Nat → Int32} {f : am_Gr} {P : Nat → Nat} {h w pn s0 k : Nat} (hP : prP pn I P) : prP pn (uJ (rpJ I f P h w pn s0 k) 1 (rpJ I f P h w pn s0 k 1 + 1)) P := fun j hj => by
  have z := hP j hj
  refine ⟨?_, z.2⟩
  show uJ _ 1 _ (8 + j) = nI (P j)
  unfold uJ
  rw [if_neg (by omega), rpJ_8 _ (by omega) (by omega)]; exact z.1
def p127 (a _b : Nat) : Prop := a = 127
set_option maxRecDepth 100000 in
set_option maxHeartbeats 4000000 in
theorem lp_rk1 {σ : am_G} {pn s0 : Nat} {d k0 : Nat} {Q : am_Res → Prop} (hd : 0 ≤ d) (hx : ∀ (τ : am_G), (smP p127 σ τ ∧ ∀ j, j < 5 → τ.2.1 127 j = σ.2.1 121 (3 + j)) → am_R am_TX d k0 c_M_repair 63 [some (.ref 120), some (.int (nI pn)), some (.int (nI s0)), some (.int (nI 5)), none, none] [] (mm τ) Q) : ∀ (uu i : Nat) (τ : am_G), i + uu = 5 → (smP p127 σ τ ∧ ∀ j, j < i → τ.2.1 127 j = σ.2.1 121 (3 + j)) → am_R am_TX d k0 c_M_repair 38 [some (.ref 120), some (.int (nI pn)), some (.int (nI s0)), some (.int (nI i)), none, none] [] (mm τ) Q := by
  intro uu
  induction uu with
  | zero =>
    intro i τ hi hI
    obtain rfl : 5 = i := by omega
    refine R_iload_n rfl rfl ?_
    refine R_iconst (v := 5) rfl rfl ?_
    refine R_nicmp_ge (x := 5) (y := 5) rfl rfl (by omega) (by omega) (fun g1 => ?_) (fun z => by omega)
    exact hx τ hI
  | succ uu ih =>
    intro i τ hi hI
    refine R_iload_n rfl rfl ?_
    refine R_iconst (v := 5) rfl rfl ?_
    refine R_nicmp_ge (x := i) (y := 5) rfl rfl (by omega) (by omega) (fun z => by omega) (fun g1 => ?_)
    refine R_aload_n rfl rfl ?_
    refine R_gP (x := 127) rfl rfl fp_11_21 rfl ?_
    refine R_iload_n rfl rfl ?_
    refine R_aload_n rfl rfl ?_
    refine R_gP (x := 121) rfl rfl fp_11_1 rfl ?_
    refine R_iconst (v := 3) rfl rfl ?_
    refine R_iload_n rfl rfl ?_
    refine R_iaddN (x := 3) (y := i) rfl ?_
    refine R_xL (j := (3 + i)) rfl rfl rfl (by omega) (by decide) ?_
    refine R_wL (j := i) rfl rfl rfl (by omega) (by decide) ?_
    refine R_iincN (x := i) (m := 1) rfl rfl rfl (by decide) ?_
    refine R_goto rfl rfl ?_
    refine (ih (i + 1) (sL τ 127 i (τ.2.1 121 (3 + i))) (by omega) ⟨hI.1.trans (smP_sL (p := p127) rfl), fun j hj => ?_⟩).weak ⟨rfl, rfl, rfl, rfl, trivial⟩
    by_cases e : j = i
    · subst e; rw [sL_s]; exact (hI.1.1 121 _ (by unfold p127; omega)).2
    · rw [sL_o (Or.inr (by omega))]; exact hI.2 j (by omega)
def p38 (a b : Nat) : Prop := a = 121 ∧ 3 ≤ b ∧ b < 8
set_option maxRecDepth 100000 in
set_option maxHeartbeats 4000000 in
theorem lp_rk3 {ρ : am_G} {d k0 : Nat} {Q : am_Res → Prop} (hd : 0 ≤ d) (hx : ∀ (τ : am_G), (smP p38 ρ τ ∧ ∀ j, j < 5 → τ.2.1 121 (3 + j) = ρ.2.1 127 j) → am_R am_TX d k0 c_M_repair 139 [some (.ref 120), none, none, some (.int (nI 5)), none, none] [] (mm τ) Q) : ∀ (uu i : Nat) (τ : am_G), i + uu = 5 → (smP p38 ρ τ ∧ ∀ j, j < i → τ.2.1 121 (3 + j) = ρ.2.1 127 j) → am_R am_TX d k0 c_M_repair 114 [some (.ref 120), none, none, some (.int (nI i)), none, none] [] (mm τ) Q := by
  intro uu
  induction uu with
  | zero =>
    intro i τ hi hI
    obtain rfl : 5 = i := by omega
    refine R_iload_n rfl rfl ?_
    refine R_iconst (v := 5) rfl rfl ?_
    refine R_nicmp_ge (x := 5) (y := 5) rfl rfl (by omega) (by omega) (fun g1 => ?_) (fun z => by omega)
    exact hx τ hI
  | succ uu ih =>
    intro i τ hi hI
    refine R_iload_n rfl rfl ?_
    refine R_iconst (v := 5) rfl rfl ?_
    refine R_nicmp_ge (x := i) (y := 5) rfl rfl (by omega) (by omega) (fun z => by omega) (fun g1 => ?_)
    refine R_aload_n rfl rfl ?_
    refine R_gP (x := 121) rfl rfl fp_11_1 rfl ?_
    refine R_iconst (v := 3) rfl rfl ?_
    refine R_iload_n rfl rfl ?_
    refine R_iaddN (x := 3) (y := i) rfl ?_
    refine R_aload_n rfl rfl ?_
    refine R_gP (x := 127) rfl rfl fp_11_21 rfl ?_
    refine R_iload_n rfl rfl ?_
    refine R_xL (j := i) rfl rfl rfl (by omega) (by decide) ?_
    refine R_wL (j := (3 + i)) rfl rfl rfl (by omega) (by decide) ?_
    refine R_iincN (x := i) (m := 1) rfl rfl rfl (by decide) ?_
    refine R_goto rfl rfl ?_
    refine (ih (i + 1) (sL τ 121 (3 + i) (τ.2.1 127 i)) (by omega) ⟨hI.1.trans (smP_sL (p := p38) (by unfold p38; omega)), fun j hj => ?_⟩).weak ⟨rfl, rfl, trivial⟩
    by_cases e : j = i
    · subst e; rw [sL_s]; exact (hI.1.1 127 _ (by unfold p38; omega)).2
    · rw [sL_o (Or.inr (by omega))]; exact hI.2 j (by omega)
theorem rp_end {σ τ τ1 : am_G} {h w rh pn s0 : Nat} {f v rl : am_Gr} {I : Nat → Int32} {P : Nat → Nat} (hn : nV σ h w f v rh rl pn I) (q : smP pRp σ τ) (hn1 : nV τ h w f v rh rl pn (rpJ I f P h w pn s0 pn)) (hk : ∀ j, j < 5 → τ.2.1 127 j = σ.2.1 121 (3 + j)) (q3 : smP p38 τ τ1) (e : ∀ j, j < 5 → τ1.2.1 121 (3 + j) = τ.2.1 127 j) : smP pRp σ τ1 ∧ nV τ1 h w f v rh rl pn (uJ I 1 (I 1 + nI pn)) := by
  have q4 : smP pRp σ τ1 := q.trans (q3.mono (fun a b z => by unfold p38 at z; unfold pRp pGu; omega))
  have u : ∀ j, j ≠ 1 → uJ I 1 (I 1 + nI pn) j = I j := fun j a => by unfold uJ; rw [if_neg a]
  have e2 : ∀ j, j < 5 → τ1.2.1 121 (3 + j) = σ.2.1 121 (3 + j) := fun j hj => (e j hj).trans (hk j hj)
  refine ⟨q4, gu_nV hn q4 (fun j hj h0 h1 => u j h1) ?_ ?_ ?_⟩
  · rcases hn.1.2.2.1 with ⟨y, z⟩ | ⟨y, z, t⟩
    · exact Or.inl ⟨fun j hj => by rw [u _ (by omega)]; exact okV_g hn.2.1 y j hj, (e2 0 (by omega)).trans z⟩
    · refine Or.inr ⟨?_, (e2 0 (by omega)).trans z, fun j hj => ?_⟩
      · rcases hn.2.1.2.2.2.2.1 with a | ⟨g, a, b⟩
        · exact absurd (a 0 (by omega)) y
        · exact ⟨g, a, by rw [u 4 (by omega)]; exact b⟩
      · rw [u _ (by omega), ← t j hj]
        have z2 := e2 (j + 1) (by omega)
        rw [show 3 + (j + 1) = 4 + j by omega] at z2
        exact z2
  · rw [(q3.1 121 8 (by unfold p38; omega)).2, u 0 (by omega)]
    have z := hn1.1.2.2.2.1.1
    rw [rpJ_8 0 (by omega) (by omega)] at z; exact z
  · rw [(q3.1 121 9 (by unfold p38; omega)).2]
    have z := hn1.1.2.2.2.1.2
    rw [rpJ_1] at z; exact z
set_option maxRecDepth 100000 in
set_option maxHeartbeats 4000000 in
theorem lp_rk2 {σ : am_G} {h w rh pn : Nat} {f v rl : am_Gr} {I : Nat → Int32} {s0 : Nat} {P : Nat → Nat} {d k0 : Nat} (hn : nV σ h w f v rh rl pn I) (hP : prP pn I P) (hs0 : s0 ≤ 6) (hd : 12 ≤ d)  : ∀ (uu i : Nat) (τ : am_G), i + uu = pn → (smP pRp σ τ ∧ nV τ h w f v rh rl pn (rpJ I f P h w pn s0 i) ∧ ∀ j, j < 5 → τ.2.1 127 j = σ.2.1 121 (3 + j)) → am_R am_TX d k0 c_M_repair 65 [some (.ref 120), some (.int (nI pn)), some (.int (nI s0)), some (.int (nI i)), none, none] [] (mm τ) (am_Ok (some (.int (rpR (rpT f P h w pn s0 uu i).2))) (fun σ1 => smP pRp σ σ1 ∧ nV σ1 h w f v rh rl pn (rpI I f P h w (rpT f P h w pn s0 uu i)))) := by
  have hv := hn.toV
  have hs := hn.2.1.2.1
  have hh1 := hv.1.1.1
  have hh6 := hv.1.1.2
  have hw1 := hv.1.2.1
  have hw6 := hv.1.2.2
  have hp6 := hn.2.1.2.2.2.1.1
  have hr6 := hn.2.1.2.2.2.2.2.2.1
  have hs7 := lw_lt hh6
  have ws7 := lw_lt hw6
  intro uu
  induction uu with
  | zero =>
    intro i τ hi hI
    obtain rfl : pn = i := by omega
    skip
    refine R_iload_n rfl rfl ?_
    refine R_iload_n rfl rfl ?_
    refine R_nicmp_ge (x := pn) (y := pn) rfl rfl (by omega) (by omega) (fun g1 => ?_) (fun z => by omega)
    refine R_iconst (v := 0) rfl rfl ?_
    refine R_istore_n rfl (by decide) ?_
    refine (lp_rk3 (ρ := τ) (by omega) (fun τ1 hτ1 => ?_) 5 0 τ (by omega) ⟨smP.refl, fun j hj => absurd hj (Nat.not_lt_zero _)⟩).weak ⟨rfl, rfl, trivial⟩
    have hen := rp_end hn hI.1 hI.2.1 hI.2.2 hτ1.1 hτ1.2
    refine R_iconst (v := -1) rfl rfl ?_
    exact T_ireturn rfl rfl (am_oki rfl hen)
  | succ uu ih =>
    intro i τ hi hI
    have hqlt : (s0 + i) % pn < pn := Nat.mod_lt _ (by omega)
    refine R_iload_n rfl rfl ?_
    refine R_iload_n rfl rfl ?_
    refine R_nicmp_ge (x := i) (y := pn) rfl rfl (by omega) (by omega) (fun z => by omega) (fun g1 => ?_)
    refine R_iload_n rfl rfl ?_
    refine R_iload_n rfl rfl ?_
    refine R_iaddN (x := s0) (y := i) rfl ?_
    refine R_iload_n rfl rfl ?_
    refine R_iremN (x := (s0 + i)) (y := pn) rfl (by omega) (by omega) (by omega) ?_
    refine R_istore rfl (by decide) ?_
    refine R_aload_n rfl rfl ?_
    refine R_gP (x := 121) rfl rfl fp_11_1 rfl ?_
    refine R_bipush (v := 9) rfl (by decide) ?_
    refine R_dup2 rfl rfl rfl ?_
    refine R_xL (j := 9) rfl rfl rfl (by omega) (by decide) ?_
    refine R_lconst (v := 1) rfl rfl ?_
    refine R_ladd rfl ?_
    refine R_wL (j := 9) rfl rfl rfl (by omega) (by decide) ?_
    have hj0 : nV (sL τ 121 9 ((τ.2.1 121 9) + 1)) h w f v rh rl pn (uJ (rpJ I f P h w pn s0 i) 1 ((rpJ I f P h w pn s0 i) 1 + 1)) := ct_nV (k := 1) (x := τ.2.1 121 9 + 1) hI.2.1 (Or.inr rfl) (by rw [Int64.toInt32_add, hI.2.1.1.2.2.2.1.2]; rfl)
    refine R_aload_n rfl rfl ?_
    refine R_iload rfl rfl ?_
    refine R_cV (as := [.int (nI ((s0 + i) % pn))]) rfl rfl iv_M_guessBy (sp_guessBy (p := ((s0 + i) % pn)) hj0 (rpP hP) hqlt) (by omega) rfl rfl rfl (by decide) rfl rfl (Nat.le_of_ble_eq_true rfl) (fun ρ1 hρ1 => ?_)
    obtain ⟨q1, hn1⟩ := hρ1
    have hn1r := hn1
    rw [show uG (uJ (rpJ I f P h w pn s0 i) 1 ((rpJ I f P h w pn s0 i) 1 + 1)) (gvF f (P ((s0 + i) % pn)) h w ((s0 + i) % pn)) = (rpJ I f P h w pn s0 (i + 1)) from rpJ_s] at hn1
    refine R_istore rfl (by decide) ?_
    refine R_aload_n rfl rfl ?_
    refine R_cV (as := []) rfl rfl iv_M_faultNow (sp_fn_uG (q := rpQ pn s0 i) (P := P) hn1r (by unfold rpQ; omega)) (by omega) rfl rfl rfl (by decide) rfl rfl (Nat.le_of_ble_eq_true rfl) (fun ρ9 hρ9 => ?_)
    refine R_if_ne rfl rfl (fun g2 => ?_) (fun g2 => ?_)
    · refine R_iincN (x := i) (m := 1) rfl rfl rfl (by decide) ?_
      refine R_goto rfl rfl ?_
      have hk9 : ∀ j, j < 5 → ρ9.2.1 127 j = σ.2.1 121 (3 + j) := fun j hj => (hρ9.1 127 j (by unfold pW; omega)).2.trans ((q1.1 127 j (by unfold pGu pW; omega)).2.trans (hI.2.2 j hj))
      have e := ih (i + 1) ρ9 (by omega) ⟨((hI.1.trans (smP_sL (p := pRp) (k := 121) (j := 9) (x := τ.2.1 121 9 + 1) (by unfold pRp pGu; omega))).trans (q1.mono (fun a b z => Or.inl z))).trans (hρ9.mono (fun a b z => Or.inl (Or.inl z))), nV_W hρ9 hn1, hk9⟩
      rw [show rpT f P h w pn s0 (uu + 1) i = rpT f P h w pn s0 uu (i + 1) from by simp only [rpT]; exact if_neg g2]
      exact e.weak ⟨rfl, rfl, rfl, rfl, trivial⟩
    · refine R_iload rfl rfl ?_
      exact T_ireturn rfl rfl (am_oki (by simp only [rpT]; rw [if_pos g2]; rfl) ⟨((hI.1.trans (smP_sL (p := pRp) (k := 121) (j := 9) (x := τ.2.1 121 9 + 1) (by unfold pRp pGu; omega))).trans (q1.mono (fun a b z => Or.inl z))).trans (hρ9.mono (fun a b z => Or.inl (Or.inl z))), by simp only [rpT]; rw [if_pos g2]; exact nV_W hρ9 hn1⟩)
set_option maxRecDepth 100000 in
set_option maxHeartbeats 4000000 in
theorem ch_rp36 {σ : am_G} {h w rh pn : Nat} {f v rl : am_Gr} {I : Nat → Int32} {s0 : Nat} {P : Nat → Nat} {d k0 : Nat} (hn : nV σ h w f v rh rl pn I) (hP : prP pn I P) (hs0 : s0 ≤ 6) (t0 : σ.1 120 0 = 0) (hd : 15 ≤ d) : am_R am_TX d k0 c_M_repair 36 [some (.ref 120), some (.int (nI pn)), some (.int (nI s0)), none, none, none] [] (mm σ) (am_Ok (some (.int (rpR (rpT f P h w pn s0 pn 0).2))) (fun σ1 => smP pN σ σ1 ∧ σ1.1 120 0 = 0 ∧ nVD σ1 (h, w, f, v, rh, rl, pn, rpI I f P h w (rpT f P h w pn s0 pn 0)))) := by
  have hv := hn.toV
  have hs := hn.2.1.2.1
  have hh1 := hv.1.1.1
  have hh6 := hv.1.1.2
  have hw1 := hv.1.2.1
  have hw6 := hv.1.2.2
  have hp6 := hn.2.1.2.2.2.1.1
  have hr6 := hn.2.1.2.2.2.2.2.2.1
  have hs7 := lw_lt hh6
  have ws7 := lw_lt hw6
  refine R_iconst (v := 0) rfl rfl ?_
  refine R_istore_n rfl (by decide) ?_
  refine (lp_rk1 (pn := pn) (s0 := s0) (σ := σ) (by omega) (fun τ hτ => ?_) 5 0 σ (by omega) ⟨smP.refl, fun j hj => absurd hj (Nat.not_lt_zero _)⟩).weak ⟨rfl, rfl, rfl, rfl, trivial⟩
  refine R_iconst (v := 0) rfl rfl ?_
  refine R_istore_n rfl (by decide) ?_
  have e := lp_rk2 (s0 := s0) (P := P) (d := d) (k0 := k0) hn hP hs0 (by omega) pn 0 τ (by omega) ⟨hτ.1.mono (fun a b z => Or.inr z), hn.fr hτ.1 (fun b => by unfold p127; omega) (by unfold p127; omega), hτ.2⟩
  exact (e.mono (am_Ok.mono (fun ρ r => ⟨r.1.mono (fun a b z => by unfold pRp pGu pW at z; unfold pN pQ; omega), (r.1.i (by unfold pRp pGu pW; omega)).trans t0, r.2⟩))).weak ⟨rfl, rfl, rfl, rfl, trivial⟩
set_option maxRecDepth 100000 in
set_option maxHeartbeats 4000000 in
theorem ch_repair {σ : am_G} {h w rh pn : Nat} {f v rl : am_Gr} {I : Nat → Int32} {s0 : Nat} {P : Nat → Nat} {d k0 : Nat} (hn : nV σ h w f v rh rl pn I) (hP : prP pn I P) (h0 : (I 4 = -1 ∧ s0 = 0) ∨ ∃ g, g < pn ∧ I 4 = nI g ∧ s0 = g + 1) (t0 : σ.1 120 0 = 0) (hd : 15 ≤ d) : am_R am_TX d k0 c_M_repair 9 [some (.ref 120), none, none, none, none, none] [] (mm σ) (am_Ok (some (.int (rpR (rpT f P h w pn s0 pn 0).2))) (fun σ1 => smP pN σ σ1 ∧ σ1.1 120 0 = 0 ∧ nVD σ1 (h, w, f, v, rh, rl, pn, rpI I f P h w (rpT f P h w pn s0 pn 0)))) := by
  have hv := hn.toV
  have hs := hn.2.1.2.1
  have hh1 := hv.1.1.1
  have hh6 := hv.1.1.2
  have hw1 := hv.1.2.1
  have hw6 := hv.1.2.2
  have hp6 := hn.2.1.2.2.2.1.1
  have hr6 := hn.2.1.2.2.2.2.2.2.1
  have hs7 := lw_lt hh6
  have ws7 := lw_lt hw6
  rcases h0 with ⟨hI4, rfl⟩ | ⟨g, hg, hg4, rfl⟩
  · refine R_aload_n rfl rfl ?_
    refine R_iconst (v := 2) rfl rfl ?_
    refine R_cV (as := [.int 2]) rfl rfl iv_M_get (mget_x hn (j := 2) (by omega) hn.1.2.1.1) (by omega) rfl rfl rfl (by decide) rfl rfl (Nat.le_of_ble_eq_true rfl) (fun _ q => ?_)
    obtain rfl := q.symm
    refine R_istore_n rfl (by decide) ?_
    refine R_aload_n rfl rfl ?_
    refine R_iconst (v := 3) rfl rfl ?_
    refine R_cV (as := [.int 3]) rfl rfl iv_M_get ((by have z := mget_3 hn; rw [zP_f (fun y => y hI4)] at z; exact z)) (by omega) rfl rfl rfl (by decide) rfl rfl (Nat.le_of_ble_eq_true rfl) (fun _ q => ?_)
    obtain rfl := q.symm
    refine R_iconst (v := 1) rfl rfl ?_
    refine R_icmp_ne rfl rfl (fun _ => ?_) (fun z => absurd z (by decide))
    refine R_iconst (v := 0) rfl rfl ?_
    refine R_istore_n rfl (by decide) ?_
    exact (ch_rp36 (s0 := 0) hn hP (by omega) t0 hd).weak ⟨rfl, rfl, rfl, trivial⟩
  · have hI4 : ¬ I 4 = -1 := fun z => absurd (hg4.symm.trans z) (nI_m1 (by omega))
    refine R_aload_n rfl rfl ?_
    refine R_iconst (v := 2) rfl rfl ?_
    refine R_cV (as := [.int 2]) rfl rfl iv_M_get (mget_x hn (j := 2) (by omega) hn.1.2.1.1) (by omega) rfl rfl rfl (by decide) rfl rfl (Nat.le_of_ble_eq_true rfl) (fun _ q => ?_)
    obtain rfl := q.symm
    refine R_istore_n rfl (by decide) ?_
    refine R_aload_n rfl rfl ?_
    refine R_iconst (v := 3) rfl rfl ?_
    refine R_cV (as := [.int 3]) rfl rfl iv_M_get ((by have z := mget_3 hn; rw [zP_t hI4] at z; exact z)) (by omega) rfl rfl rfl (by decide) rfl rfl (Nat.le_of_ble_eq_true rfl) (fun _ q => ?_)
    obtain rfl := q.symm
    refine R_iconst (v := 1) rfl rfl ?_
    refine R_icmp_ne rfl rfl (fun z => absurd z (by decide)) (fun _ => ?_)
    refine R_aload_n rfl rfl ?_
    refine R_iconst (v := 4) rfl rfl ?_
    refine R_cV (as := [.int 4]) rfl rfl iv_M_get ((by have z := mget_g (j := 0) hn hI4 (by omega); rw [show I (4 + 0) = nI g from hg4] at z; exact z)) (by omega) rfl rfl rfl (by decide) rfl rfl (Nat.le_of_ble_eq_true rfl) (fun _ q => ?_)
    obtain rfl := q.symm
    refine R_iconst (v := 1) rfl rfl ?_
    refine R_iaddN (x := g) (y := 1) rfl ?_
    refine R_goto rfl rfl ?_
    refine R_istore_n rfl (by decide) ?_
    exact (ch_rp36 (s0 := g + 1) hn hP (by omega) t0 hd).weak ⟨rfl, rfl, rfl, trivial⟩
set_option maxRecDepth 100000 in
set_option maxHeartbeats 4000000 in
theorem sp_M_repair {σ : am_G} {h w rh pn : Nat} {f v rl : am_Gr} {I : Nat → Int32} {n : Nat} {Hs : Nat → am_Sn} {s0 : Nat} {P : Nat → Nat} (hn : nV σ h w f v rh rl pn I) (hH : mH σ n Hs) (hP : prP pn I P) (h0 : (I 4 = -1 ∧ s0 = 0) ∨ ∃ g, g < pn ∧ I 4 = nI g ∧ s0 = g + 1) : am_Call am_TX 16 0 c_M_repair [.ref 120] (mm σ) (am_Ok (some (.int (rpR (rpT f P h w pn s0 pn 0).2))) (fun σ1 => smP pC σ σ1 ∧ σ1.1 120 0 = 0 ∧ nVD σ1 (h, w, f, v, rh, rl, pn, rpI I f P h w (rpT f P h w pn s0 pn 0)) ∧ mH σ1 (nxZ n) (hC (h, w, f, v, rh, rl, pn, I) Hs))) := by
  have hv := hn.toV
  have hs := hn.2.1.2.1
  have hh1 := hv.1.1.1
  have hh6 := hv.1.1.2
  have hw1 := hv.1.2.1
  have hw6 := hv.1.2.2
  have hp6 := hn.2.1.2.2.2.1.1
  have hr6 := hn.2.1.2.2.2.2.2.2.1
  have hs7 := lw_lt hh6
  have ws7 := lw_lt hw6
  refine ⟨mf_M_repair, Nat.le_of_ble_eq_true rfl, ?_⟩
  refine R_aload_n rfl rfl ?_
  refine R_iconst (v := 0) rfl rfl ?_
  refine R_pI rfl rfl fw_11_0 rfl ?_
  refine R_aload_n rfl rfl ?_
  refine R_cV (as := []) rfl rfl iv_M_remember (sp_remember (hn.fr (smP_sI (p := pQ) (k := 120) (j := 0) (x := 0) (by unfold pQ; omega)) (fun b => by unfold pQ; omega) (by unfold pQ; omega)) (hH.fr (smP_sI (p := pQ) (k := 120) (j := 0) (x := 0) (by unfold pQ; omega)) (by unfold pQ; omega) (fun b => by unfold pQ; omega))) (by omega) rfl rfl rfl (by decide) rfl rfl (Nat.le_of_ble_eq_true rfl) (fun ρ hρ => ?_)
  obtain ⟨hρ, hρH⟩ := hρ
  exact ((ch_repair (pR_f hρ (hn.fr (smP_sI (p := pQ) (k := 120) (j := 0) (x := 0) (by unfold pQ; omega)) (fun b => by unfold pQ; omega) (by unfold pQ; omega))) hP h0 ((hρ.i (by unfold pR; omega)).trans sI_s) (by omega)).mono (am_Ok.mono (fun τ e => ⟨(ch_end (smP_sI (p := pQ) (k := 120) (j := 0) (x := 0) (by unfold pQ; omega)) hρ hρH e.1).1, e.2.1, e.2.2, (ch_end (smP_sI (p := pQ) (k := 120) (j := 0) (x := 0) (by unfold pQ; omega)) hρ hρH e.1).2⟩))).weak ⟨rfl, trivial⟩
