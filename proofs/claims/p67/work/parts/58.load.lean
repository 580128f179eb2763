/-! ===== parse, load ===== -/
def paT (B : List Int32) (n : Nat) : am_T := tkF 1000 B n 0
def paH (B : List Int32) (n : Nat) : Nat := (nx B n (paT B n)).2.2.2
def paW (B : List Int32) (n : Nat) : Nat := (nx B n (nx B n (paT B n))).2.2.2
/-- what the text says -/
def paE (B : List Int32) (n : Nat) : am_Tr := match mtE B n (paT B n) with
  | some e => .inl e
  | none => prE B n (paH B n) (paW B n) n (nx B n (nx B n (nx B n (nx B n (paT B n))))) (fun _ _ => 0) 0 (fun _ => 0) 0
def pA (a _b : Nat) : Prop := 3 ≤ a ∧ a < 14
def paP (σ σ1 : am_G) (h w : Nat) (r : am_Tr) : Prop := match r with
  | .inl e => smP pA σ σ1 ∧ σ1.1 13 1 = nI e.1 ∧ σ1.1 13 2 = nI e.2
  | .inr D => smP pA σ σ1 ∧ σ1.1 13 1 = 0 ∧ σ1.1 13 2 = -1 ∧ dfC σ1 h w D.1 D.2.1 D.2.2.1 D.2.2.2
theorem paP_of {σ ρ σ1 : am_G} {h w : Nat} {r : am_Tr} (q : smP pA σ ρ) (h1 : ρ.1 13 1 = 0) (h2 : ρ.1 13 2 = -1) (e : pEnd ρ σ1 h w r) : paP σ σ1 h w r := by
  match r, e with
  | .inl e, z => exact ⟨q.trans (z.1.mono (fun a b h => by unfold pA; omega)), z.2⟩
  | .inr D, z => exact ⟨q.trans (z.1.mono (fun a b h => by unfold pPs at h; unfold pA; omega)), (z.1.i (by unfold pPs; omega)).trans h1, (z.1.i (by unfold pPs; omega)).trans h2, z.2⟩
theorem dfC_0 {σ : am_G} {h w : Nat} {J : Nat → Int32} (hv : vS σ 3 h w (fun _ _ => 0) (fun _ _ => 0) 0 (fun _ _ => 0) 0 (rsI J)) (hr : σ.1 13 0 = 0) : dfC σ h w (fun _ _ => 0) 0 (fun _ => 0) 0 := by
  refine ⟨_, hv, fun j hj => ?_, fun j hj => absurd hj (by omega), hr⟩
  unfold rsI
  split
  · rfl
  · rfl
set_option maxRecDepth 100000 in
set_option maxHeartbeats 4000000 in
theorem sp_parse {σ : am_G} {n : Nat} {B : List Int32} (hB : iC σ n B) : am_Call am_TX 7 0 c_Parser_parse [.ref 13] (mm σ) (am_Ok (some (.int (zP (prB (paE B n) = true)))) (fun σ1 => paP σ σ1 (paH B n) (paW B n) (paE B n))) := by
  refine ⟨mf_Parser_parse, Nat.le_of_ble_eq_true rfl, ?_⟩
  refine R_aload_n rfl rfl ?_
  refine R_iconst (v := 0) rfl rfl ?_
  refine R_pI rfl rfl fw_6_1 rfl ?_
  refine R_aload_n rfl rfl ?_
  refine R_iconst (v := -1) rfl rfl ?_
  refine R_pI rfl rfl fw_6_2 rfl ?_
  refine R_aload_n rfl rfl ?_
  refine R_iconst (v := 0) rfl rfl ?_
  refine R_pI rfl rfl fw_6_0 rfl ?_
  refine R_aload_n rfl rfl ?_
  refine R_iconst (v := 0) rfl rfl ?_
  refine R_pI rfl rfl fw_6_7 rfl ?_
  refine R_aload_n rfl rfl ?_
  refine R_cV (as := []) rfl rfl iv_Parser_next (sp_next (e := 0) (hB.fr (((((smP_sI (p := pA) (k := 13) (j := 1) (x := 0) (by unfold pA; omega)).trans (smP_sI (k := 13) (j := 2) (x := -1) (by unfold pA; omega))).trans (smP_sI (k := 13) (j := 0) (x := 0) (by unfold pA; omega))).trans (smP_sI (k := 13) (j := 7) (x := 0) (by unfold pA; omega))) : smP pA σ (sI (sI (sI (sI σ 13 1 0) 13 2 (-1)) 13 0 0) 13 7 0)) (fun b => by unfold pA; omega)) (Nat.zero_le _) sI_s) (by decide) rfl rfl rfl (by decide) rfl rfl (Nat.le_of_ble_eq_true rfl) (fun τ1 hτ1 => ?_)
  obtain ⟨p1, k1⟩ := hτ1
  have b1 : tkB n (paT B n) := tkF_b (Nat.zero_le _)
  have q0 : smP pA σ τ1 := (((((smP_sI (p := pA) (k := 13) (j := 1) (x := 0) (by unfold pA; omega)).trans (smP_sI (k := 13) (j := 2) (x := -1) (by unfold pA; omega))).trans (smP_sI (k := 13) (j := 0) (x := 0) (by unfold pA; omega))).trans (smP_sI (k := 13) (j := 7) (x := 0) (by unfold pA; omega))) : smP pA σ (sI (sI (sI (sI σ 13 1 0) 13 2 (-1)) 13 0 0) 13 7 0)).trans (p1.mono (fun a b h => by unfold pP at h; unfold pA; omega))
  have e1 : τ1.1 13 1 = 0 := (p1.i (by unfold pP; omega)).trans ((sI_o (Or.inr (by decide))).trans ((sI_o (Or.inr (by decide))).trans ((sI_o (Or.inr (by decide))).trans sI_s)))
  have e2 : τ1.1 13 2 = -1 := (p1.i (by unfold pP; omega)).trans ((sI_o (Or.inr (by decide))).trans ((sI_o (Or.inr (by decide))).trans sI_s))
  have e0 : τ1.1 13 0 = 0 := (p1.i (by unfold pP; omega)).trans ((sI_o (Or.inr (by decide))).trans sI_s)
  have hB1 := hB.fr q0 (fun b => by unfold pA; omega)
  refine R_aload_n rfl rfl ?_
  by_cases g1 : mtE B n (paT B n) = none
  · refine R_cV (as := []) rfl rfl iv_Parser_parseMatrix (rP_none (sp_parseMatrix (t := paT B n) hB1 b1 k1) g1) (by decide) rfl rfl rfl (by decide) rfl rfl (Nat.le_of_ble_eq_true rfl) (fun τ2 hτ2 => ?_)
    obtain ⟨m1, m2, J, m3⟩ := hτ2
    refine R_istore_n rfl (by decide) ?_
    refine R_iconst (v := 0) rfl rfl ?_
    refine R_istore_n rfl (by decide) ?_
    rw [show paE B n = prE B n (paH B n) (paW B n) n (nx B n (nx B n (nx B n (nx B n (paT B n))))) (fun _ _ => 0) 0 (fun _ => 0) 0 from by unfold paE; rw [g1]]
    have q := fun k0 => lp_prs (ρ := τ2) (h := paH B n) (w := paW B n) (d := 7) (k0 := k0) (hB1.fr m1 (fun b => by unfold pDr; omega)) m3.1.1.2 (by omega) n 0 (nx B n (nx B n (nx B n (nx B n (paT B n))))) (fun _ _ => 0) 0 (fun _ => 0) 0 (nx_b (nx_b (nx_b (nx_b b1)))) (Nat.zero_le _) τ2 (by omega) ⟨smP.refl, m2, dfC_0 m3 ((m1.i (by unfold pDr; omega)).trans e0)⟩
    exact (am_R.mono (q _) (am_Ok.mono fun σ1 z => paP_of (q0.trans (m1.mono (fun a b h => by unfold pDr at h; unfold pA; omega))) ((m1.i (by unfold pDr; omega)).trans e1) ((m1.i (by unfold pDr; omega)).trans e2) z)).weak ⟨rfl, rfl, rfl, trivial⟩
  · refine R_cV (as := []) rfl rfl iv_Parser_parseMatrix (rP_some (sp_parseMatrix (t := paT B n) hB1 b1 k1) g1) (by decide) rfl rfl rfl (by decide) rfl rfl (Nat.le_of_ble_eq_true rfl) (fun τ2 hτ2 => ?_)
    obtain ⟨x, mx, me⟩ := hτ2
    refine R_istore_n rfl (by decide) ?_
    refine R_iconst (v := 0) rfl rfl ?_
    refine R_istore_n rfl (by decide) ?_
    rw [show paE B n = .inl x from by unfold paE; rw [mx]]
    exact (am_R.mono (lp_prs0 (i := 0) (hB1.fr me.1 (fun b => by omega)) (by omega)) (am_Ok.mono fun σ1 z => by rw [z]; exact ⟨q0.trans (me.1.mono (fun a b h => by unfold pA; omega)), me.2⟩)).weak ⟨rfl, rfl, rfl, trivial⟩
theorem sp_parse_x {σ : am_G} {n : Nat} {B : List Int32} {e : Nat × Nat} (hB : iC σ n B) (h : paE B n = .inl e) : am_Call am_TX 7 0 c_Parser_parse [.ref 13] (mm σ) (am_Ok (some (.int 0)) (fun σ1 => smP pA σ σ1 ∧ σ1.1 13 1 = nI e.1 ∧ σ1.1 13 2 = nI e.2)) := by
  have z := sp_parse hB
  rw [h] at z
  exact z
theorem sp_parse_ok {σ : am_G} {n : Nat} {B : List Int32} {f : am_Gr} {rt pn : Nat} {P : Nat → Nat} (hB : iC σ n B) (h : paE B n = .inr (f, rt, P, pn)) : am_Call am_TX 7 0 c_Parser_parse [.ref 13] (mm σ) (am_Ok (some (.int 1)) (fun σ1 => smP pA σ σ1 ∧ σ1.1 13 1 = 0 ∧ σ1.1 13 2 = -1 ∧ dfC σ1 (paH B n) (paW B n) f rt P pn)) := by
  have z := sp_parse hB
  rw [h] at z
  exact z
theorem iC_clear {σ : am_G} : iC (sI σ 1 0 0) 0 [] := ⟨rfl, sI_s, Nat.zero_le _, fun i x e => by simp at e⟩
set_option maxRecDepth 100000 in
set_option maxHeartbeats 4000000 in
theorem sp_D_load_x {σ : am_G} {nb : Nat} {B : List Int32} {e : Nat × Nat} (hB : iC σ nb B) (h : paE B nb = .inl e) : am_Call am_TX 8 0 c_D_load [.ref 0] (mm σ) (am_Ok (some (.int (-4))) (fun σ1 => smP (fun a _ => a = 1 ∨ (3 ≤ a ∧ a < 14)) σ σ1 ∧ iC σ1 0 [] ∧ σ1.1 13 1 = nI e.1 ∧ σ1.1 13 2 = nI e.2)) := by
  refine ⟨mf_D_load, Nat.le_of_ble_eq_true rfl, ?_⟩
  refine R_aload_n rfl rfl ?_
  refine R_gP (x := 13) rfl rfl fp_10_2 rfl ?_
  refine R_cV (as := []) rfl rfl iv_Parser_parse (sp_parse_x hB h) (by decide) rfl rfl rfl (by decide) rfl rfl (Nat.le_of_ble_eq_true rfl) (fun τ1 hτ1 => ?_)
  obtain ⟨p1, p2, p3⟩ := hτ1
  refine R_istore_n rfl (by decide) ?_
  refine R_aload_n rfl rfl ?_
  refine R_gP (x := 1) rfl rfl fp_10_0 rfl ?_
  refine R_iconst (v := 0) rfl rfl ?_
  refine R_pI rfl rfl fw_3_0 rfl ?_
  refine R_iload_n rfl rfl ?_
  refine R_if_ne rfl rfl (fun z => absurd z (by decide)) (fun _ => ?_)
  refine R_bipush (v := -4) rfl (by decide) ?_
  exact T_ireturn rfl rfl (am_oki rfl ⟨(p1.mono (fun a b h => by unfold pA at h; omega)).trans (smP_sI (Or.inl rfl)), iC_clear, (sI_o (Or.inl (by decide))).trans p2, (sI_o (Or.inl (by decide))).trans p3⟩)
set_option maxRecDepth 100000 in
set_option maxHeartbeats 4000000 in
theorem sp_D_load {σ : am_G} {h w rh pn : Nat} {f v rl : am_Gr} {I : Nat → Int32} {n : Nat} {Hs : Nat → am_Sn} {nb rt pn2 : Nat} {B : List Int32} {f2 : am_Gr} {P2 : Nat → Nat} (hv : vS σ 26 h w f v rh rl pn I) (hH : cH σ n Hs) (hB : iC σ nb B) (hpa : paE B nb = .inr (f2, rt, P2, pn2)) : am_Call am_TX 8 0 c_D_load [.ref 0] (mm σ) (am_Ok (some (.int (nI rt))) (fun σ1 => smP (fun a _ => a = 1 ∨ (3 ≤ a ∧ a < 14) ∨ (26 ≤ a ∧ a < 99)) σ σ1 ∧ iC σ1 0 [] ∧ σ1.1 13 1 = 0 ∧ σ1.1 13 2 = -1 ∧ cH σ1 (nxZ n) (hC (h, w, f, v, rh, rl, pn, I) Hs) ∧ ∃ J, cS σ1 26 (paH B nb, paW B nb, f2, (fun _ _ => 0), 0, (fun _ _ => 0), pn2, J) ∧ (∀ j, j < 8 → J j = if j < 2 then 0 else -1) ∧ prP pn2 J P2)) := by
  refine ⟨mf_D_load, Nat.le_of_ble_eq_true rfl, ?_⟩
  refine R_aload_n rfl rfl ?_
  refine R_gP (x := 13) rfl rfl fp_10_2 rfl ?_
  refine R_cV (as := []) rfl rfl iv_Parser_parse (sp_parse_ok hB hpa) (by decide) rfl rfl rfl (by decide) rfl rfl (Nat.le_of_ble_eq_true rfl) (fun τ1 hτ1 => ?_)
  obtain ⟨p1, p2, p3, J, v3, v4, v5, v6⟩ := hτ1
  refine R_istore_n rfl (by decide) ?_
  refine R_aload_n rfl rfl ?_
  refine R_gP (x := 1) rfl rfl fp_10_0 rfl ?_
  refine R_iconst (v := 0) rfl rfl ?_
  refine R_pI rfl rfl fw_3_0 rfl ?_
  refine R_iload_n rfl rfl ?_
  refine R_if_ne rfl rfl (fun _ => ?_) (fun z => absurd z (by decide))
  refine R_aload_n rfl rfl ?_
  refine R_gP (x := 37) rfl rfl fp_10_8 rfl ?_
  refine R_aload_n rfl rfl ?_
  refine R_gP (x := 26) rfl rfl fp_10_6 rfl ?_
  refine R_cV (as := [.ref 26]) rfl rfl iv_History_push (sp_pushV (D := (h, w, f, v, rh, rl, pn, I)) (((p1.mono (fun a b h => by unfold pA at h; omega)).trans (smP_sI (Or.inl rfl)) : smP (fun a _ => a = 1 ∨ (3 ≤ a ∧ a < 14)) σ (sI τ1 1 0 0)).vS hv (fun a b _ _ => by omega)) (hH.fr ((p1.mono (fun a b h => by unfold pA at h; omega)).trans (smP_sI (Or.inl rfl)) : smP (fun a _ => a = 1 ∨ (3 ≤ a ∧ a < 14)) σ (sI τ1 1 0 0)) (fun a b _ _ => by omega))) (by decide) rfl rfl rfl (by decide) rfl rfl (Nat.le_of_ble_eq_true rfl) (fun ρ hρ => ?_)
  obtain ⟨q1, q2⟩ := hρ
  refine R_aload_n rfl rfl ?_
  refine R_gP (x := 26) rfl rfl fp_10_6 rfl ?_
  refine R_aload_n rfl rfl ?_
  refine R_gP (x := 3) rfl rfl fp_10_1 rfl ?_
  refine R_cV (as := [.ref 3]) rfl rfl iv_State_copyFrom (sp_State_copyFrom isState_26 isState_3 (Or.inr (by omega)) (q1.vS ((smP_sI (p := plc 1 2) (k := 1) (j := 0) (x := 0) (by unfold plc; omega)).vS v3 (fun a b _ _ => by unfold plc; omega)) (fun a b _ _ => by unfold plc; omega))) (by decide) rfl rfl rfl (by decide) rfl rfl (Nat.le_of_ble_eq_true rfl) (fun _ q => ?_)
  obtain rfl := q.symm
  have q4 : smP (plc 26 37) ρ (putS ρ 26 (paH B nb) (paW B nb) f2 (fun _ _ => 0) 0 (fun _ _ => 0) pn2 J) := putS_fr (fun a b _ _ => by unfold plc; omega)
  refine R_aload_n rfl rfl ?_
  refine R_gP (x := 13) rfl rfl fp_10_2 rfl ?_
  refine R_gIN (n := rt) rfl rfl fd_6_0 ((q4.i (by unfold plc; omega)).trans ((q1.i (by unfold plc; omega)).trans ((sI_o (Or.inl (by decide))).trans v6))) ?_
  exact T_ireturn rfl rfl (am_oki rfl ⟨((((p1.mono (fun a b h => by unfold pA at h; omega)).trans (smP_sI (Or.inl rfl)) : smP (fun a _ => a = 1 ∨ (3 ≤ a ∧ a < 14)) σ (sI τ1 1 0 0)).mono (fun a b h => by omega)).trans (q1.mono (fun a b h => by unfold plc at h; omega))).trans (q4.mono (fun a b h => by unfold plc at h; omega)), (iC_clear.fr q1 (fun b => by unfold plc; omega)).fr q4 (fun b => by unfold plc; omega), (q4.i (by unfold plc; omega)).trans ((q1.i (by unfold plc; omega)).trans ((sI_o (Or.inl (by decide))).trans p2)), (q4.i (by unfold plc; omega)).trans ((q1.i (by unfold plc; omega)).trans ((sI_o (Or.inl (by decide))).trans p3)), q2.fr q4 (fun a b _ _ => by unfold plc; omega), J, vS_putS v3.1.1.2 v3.1.2.1.2 (by omega) v3.2.2.2.1.2, v4, v5⟩)

