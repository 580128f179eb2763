/-! ===== the law's errors ===== -/
def pW (a _b : Nat) : Prop := 1 ≤ a ∧ a < 14
def trE : am_Tr → Option (Nat × Nat)
  | .inl e => some e
  | .inr _ => none
def trF : am_Tr → am_Gr
  | .inl _ => fun _ _ => 0
  | .inr r => r.1
def trR : am_Tr → Nat
  | .inl _ => 0
  | .inr r => r.2.1
def trP : am_Tr → Nat → Nat
  | .inl _ => fun _ => 0
  | .inr r => r.2.2.1
def trN : am_Tr → Nat
  | .inl _ => 0
  | .inr r => r.2.2.2
theorem trE_s {r : am_Tr} {e : Nat × Nat} (h : trE r = some e) : r = .inl e := by
  cases r with
  | inl x => cases h; rfl
  | inr x => cases h
theorem trE_n {r : am_Tr} (h : trE r = none) : r = .inr (trF r, trR r, trP r, trN r) := by
  cases r with
  | inl x => cases h
  | inr x => rfl
theorem ltr_of {T : List Int32} (h : ∀ j, j < T.length → (T.getD j 0).toNatClampNeg < 128 ∧ T.getD j 0 = nI (T.getD j 0).toNatClampNeg) : ltr T := fun j hj => ⟨_, (h j hj).1, (h j hj).2⟩
section WRO
variable {σ : am_G} {ρ : am_Y} {o : Nat} {T : List Int32}
theorem pl_wrong {e : Nat × Nat} (hB : iC σ 0 []) (htx : ∀ σ1, smP pI σ σ1 → tx (ml σ1 ρ) o T) (hl : ltr T) (hT : T.length ≤ 380) (hp : paE T T.length = .inl e) (he : e.1 < 1000 ∧ e.2 < 1000) : am_Call am_TX 9 0 c_L_wrong [.ref 0, .ref o, .int (nI e.1), .int (nI e.2)] (ml σ ρ) (am_Oy (some (.int 1)) (fun σ1 ρ1 => ρ1 = ρ ∧ smP pW σ σ1 ∧ iC σ1 0 [])) := by
  refine ⟨mf_L_wrong, Nat.le_of_ble_eq_true rfl, ?_⟩
  refine R_aload_n rfl rfl ?_
  refine R_aload_n rfl rfl ?_
  refine R_qS (kc := 0) (k := 0) (as := [.ref 0, .ref o]) rfl rfl iv_L_feed (pl_feed hB htx hl hT) (by decide) rfl rfl rfl rfl (Nat.le_of_ble_eq_true rfl) (fun σ1 h1 => ?_)
  obtain ⟨q1, hB1⟩ := h1
  refine R_aload_n rfl rfl ?_
  refine R_qV (as := []) rfl rfl iv_D_load (sp_D_load_x hB1 hp) (fun _ z => z.1.mono (fun a b h => by unfold pLo; omega)) (by decide) rfl rfl rfl rfl (Nat.le_of_ble_eq_true rfl) (fun σ2 h2 => ?_)
  obtain ⟨q2, hB2, e1, e2⟩ := h2
  have q : smP pW σ σ2 := (q1.mono (fun a b h => by unfold pI at h; unfold pW; omega)).trans (q2.mono (fun a b h => by unfold pW; omega))
  refine R_bipush (v := -4) rfl (by decide) ?_
  refine R_icmp_ne rfl rfl (fun z => absurd rfl z) (fun _ => ?_)
  refine R_aload_n rfl rfl ?_
  refine R_qV (as := []) rfl rfl iv_D_errorCode sp_D_errorCode (fun _ z => z ▸ smP.refl) (by decide) rfl rfl rfl rfl (Nat.le_of_ble_eq_true rfl) (fun σ3 h3 => ?_)
  subst h3
  rw [e1]
  refine R_iload_n rfl rfl ?_
  refine R_icmp_ne rfl rfl (fun z => absurd rfl z) (fun _ => ?_)
  refine R_aload_n rfl rfl ?_
  refine R_qV (as := []) rfl rfl iv_D_errorPosition sp_D_errorPosition (fun _ z => z ▸ smP.refl) (by decide) rfl rfl rfl rfl (Nat.le_of_ble_eq_true rfl) (fun σ4 h4 => ?_)
  subst h4
  rw [e2]
  refine R_iload_n rfl rfl ?_
  refine R_icmp_ne rfl rfl (fun z => absurd rfl z) (fun _ => ?_)
  refine R_iconst (v := 1) rfl rfl ?_
  refine R_goto rfl rfl ?_
  exact T_zreturn rfl rfl rfl ⟨_, _, rfl, rfl, q, hB2⟩
/-- one wrong text told, and on -/
theorem er_step {c : am_C} {pc idx mid n i : Nat} {e : Nat × Nat} {ls : List (Option Value)} {σ0 : am_G} {Q : am_Res → Prop} {D : Nat} (hc : c.2 pc = some (.invokestatic idx, 3, mid, n)) (hs : c_L_wrong.1 = am_sig mid) (hn : n = 4) (hD : 10 ≤ D) (hi : (i, T) ∈ am_SL) (hl : ltr T) (hT : T.length ≤ 380) (hp : trE (paE T T.length) = some e) (he : e.1 < 1000 ∧ e.2 < 1000)
    (hq : smP pW σ0 σ) (hB : iC σ 0 []) (h : ∀ σ1, smP pW σ0 σ1 → iC σ1 0 [] → am_R am_TX D 0 c (pc + 3) ls [.int 1] (ml σ1 ρ) Q) : am_R am_TX D 0 c pc ls [.int (nI e.2), .int (nI e.1), .ref (1000 + i), .ref 0] (ml σ ρ) Q := by
  subst hn
  exact R_qS (kc := 0) (k := 0) (as := [.ref 0, .ref (1000 + i), .int (nI e.1), .int (nI e.2)]) hc hs iv_L_wrong (pl_wrong hB (fun σ1 _ => tx_c hi) hl hT (trE_s hp) he) (by omega) rfl rfl rfl rfl (Nat.le_of_ble_eq_true rfl) (fun σ1 h1 => h σ1 (hq.trans h1.1) h1.2)
end WRO
def er_5 : List Int32 := []
theorem er_m5 : (5, er_5) ∈ am_SL := List.mem_of_getElem? (i := 5) rfl
theorem er_l5 : ltr er_5 := ltr_of (by decide +kernel)
theorem er_p5 : trE (paE er_5 er_5.length) = some (1, 0) := by decide +kernel
def er_7 : List Int32 := [109, 97, 116, 114, 105, 120, 32, 55]
theorem er_m7 : (7, er_7) ∈ am_SL := List.mem_of_getElem? (i := 7) rfl
theorem er_l7 : ltr er_7 := ltr_of (by decide +kernel)
theorem er_p7 : trE (paE er_7 er_7.length) = some (2, 7) := by decide +kernel
def er_8 : List Int32 := [109, 97, 116, 114, 105, 120, 32, 50, 32, 48]
theorem er_m8 : (8, er_8) ∈ am_SL := List.mem_of_getElem? (i := 8) rfl
theorem er_l8 : ltr er_8 := ltr_of (by decide +kernel)
theorem er_p8 : trE (paE er_8 er_8.length) = some (2, 9) := by decide +kernel
def er_9 : List Int32 := [109, 97, 116, 114, 105, 120, 32, 49, 32, 49, 59, 109, 97, 116, 114, 105, 120]
theorem er_m9 : (9, er_9) ∈ am_SL := List.mem_of_getElem? (i := 12) rfl
theorem er_l9 : ltr er_9 := ltr_of (by decide +kernel)
theorem er_p9 : trE (paE er_9 er_9.length) = some (1, 11) := by decide +kernel
def er_10 : List Int32 := [109, 97, 116, 114, 105, 120, 32, 49, 32, 50, 59, 114, 111, 119, 32, 49, 59]
theorem er_m10 : (10, er_10) ∈ am_SL := List.mem_of_getElem? (i := 13) rfl
theorem er_l10 : ltr er_10 := ltr_of (by decide +kernel)
theorem er_p10 : trE (paE er_10 er_10.length) = some (1, 16) := by decide +kernel
def er_11 : List Int32 := [109, 97, 116, 114, 105, 120, 32, 49, 32, 50, 59, 114, 111, 119, 32, 49, 44, 50, 44]
theorem er_m11 : (11, er_11) ∈ am_SL := List.mem_of_getElem? (i := 14) rfl
theorem er_l11 : ltr er_11 := ltr_of (by decide +kernel)
theorem er_p11 : trE (paE er_11 er_11.length) = some (1, 18) := by decide +kernel
def er_12 : List Int32 := [109, 97, 116, 114, 105, 120, 32, 49, 32, 49, 59, 114, 111, 119, 32, 50, 49]
theorem er_m12 : (12, er_12) ∈ am_SL := List.mem_of_getElem? (i := 15) rfl
theorem er_l12 : ltr er_12 := ltr_of (by decide +kernel)
theorem er_p12 : trE (paE er_12 er_12.length) = some (2, 15) := by decide +kernel
def er_13 : List Int32 := [109, 97, 116, 114, 105, 120, 32, 49, 32, 49, 59, 114, 111, 119, 32, 45, 45]
theorem er_m13 : (13, er_13) ∈ am_SL := List.mem_of_getElem? (i := 16) rfl
theorem er_l13 : ltr er_13 := ltr_of (by decide +kernel)
theorem er_p13 : trE (paE er_13 er_13.length) = some (1, 16) := by decide +kernel
def er_14 : List Int32 := [109, 97, 116, 114, 105, 120, 32, 49, 32, 49, 59, 114, 111, 119, 32, 49, 59, 114, 111, 119]
theorem er_m14 : (14, er_14) ∈ am_SL := List.mem_of_getElem? (i := 17) rfl
theorem er_l14 : ltr er_14 := ltr_of (by decide +kernel)
theorem er_p14 : trE (paE er_14 er_14.length) = some (5, 17) := by decide +kernel
def er_15 : List Int32 := [109, 97, 116, 114, 105, 120, 32, 49, 32, 49, 59, 112, 114, 105, 109, 101, 32, 57, 56]
theorem er_m15 : (15, er_15) ∈ am_SL := List.mem_of_getElem? (i := 18) rfl
theorem er_l15 : ltr er_15 := ltr_of (by decide +kernel)
theorem er_p15 : trE (paE er_15 er_15.length) = some (2, 17) := by decide +kernel
def er_16 : List Int32 := [109, 97, 116, 114, 105, 120, 32, 49, 32, 49, 59, 112, 114, 105, 109, 101, 32, 57, 49]
theorem er_m16 : (16, er_16) ∈ am_SL := List.mem_of_getElem? (i := 19) rfl
theorem er_l16 : ltr er_16 := ltr_of (by decide +kernel)
theorem er_p16 : trE (paE er_16 er_16.length) = some (3, 17) := by decide +kernel
def er_17 : List Int32 := [109, 97, 116, 114, 105, 120, 32, 49, 32, 49, 59, 112, 114, 105, 109, 101, 32, 50, 59, 112, 114, 105, 109, 101, 32, 50]
theorem er_m17 : (17, er_17) ∈ am_SL := List.mem_of_getElem? (i := 20) rfl
theorem er_l17 : ltr er_17 := ltr_of (by decide +kernel)
theorem er_p17 : trE (paE er_17 er_17.length) = some (4, 25) := by decide +kernel
def er_18 : List Int32 := [109, 97, 116, 114, 105, 120, 32, 49, 32, 49, 59, 112, 114, 105, 109, 101, 32, 50, 59, 112, 114, 105, 109, 101, 32, 51, 59, 112, 114, 105, 109, 101, 32, 53, 59, 112, 114, 105, 109, 101, 32, 55, 59, 112, 114, 105, 109, 101, 32, 49, 49, 59, 112, 114, 105, 109, 101, 32, 49, 51, 59, 112, 114, 105, 109, 101]
theorem er_m18 : (18, er_18) ∈ am_SL := List.mem_of_getElem? (i := 21) rfl
theorem er_l18 : ltr er_18 := ltr_of (by decide +kernel)
theorem er_p18 : trE (paE er_18 er_18.length) = some (5, 61) := by decide +kernel
def er_t : List Int32 := [109, 97, 116, 114, 105, 120, 32, 50, 32, 50, 59, 112, 114, 105, 109, 101, 32, 50, 59, 114, 111, 119, 32, 45, 48, 44, 45, 32, 50, 48, 59]
theorem er_mt : (19, er_t) ∈ am_SL := List.mem_of_getElem? (i := 22) rfl
theorem er_lt : ltr er_t := ltr_of (by decide +kernel)
def er_r : am_Tr := paE er_t er_t.length
theorem er_pt : paE er_t er_t.length = .inr (trF er_r, trR er_r, trP er_r, trN er_r) := trE_n (by decide +kernel)
theorem er_t1 : trR er_r = 1 ∧ paH er_t er_t.length = 2 ∧ paW er_t er_t.length = 2 ∧ trN er_r = 1 := by decide +kernel
theorem er_t2 : (trF er_r 0 1).toInt32 = -20 ∧ (trF er_r 1 1).toInt32 = 0 := by decide +kernel
theorem er_t3 : rkO (trF er_r) 0 (2 ^ 2 - 1) (2 ^ 2 - 1) 2 2 = 1 := by decide +kernel
theorem er_t4 : rkO (trF er_r) 2 (2 ^ 2 - 1) (2 ^ 2 - 1) 2 2 = 0 := by decide +kernel
theorem er_t5 : ulF (trF er_r) 2 2 (trP er_r) 1 = 1 := by decide +kernel
theorem er_t6 : nuF (trF er_r) 2 2 (98 - 3) 3 = 5 := by decide +kernel
theorem am_Call.q {Tx : am_Tx} {d k : Nat} {c : am_C} {as : List Value} {μ : am_M} {Q Q2 : am_Res → Prop} (h : am_Call Tx d k c as μ Q) (e : Q = Q2) : am_Call Tx d k c as μ Q2 := e ▸ h

/-- the class's answers' places -/
theorem sm_lo {σ σ1 : am_G} (h : smP (plc 17 26) σ σ1) : smP pLo σ σ1 := h.mono (fun a b => by unfold plc pLo; omega)
theorem vS_q {σ σ1 : am_G} (q : smP (plc 17 26) σ σ1) {h w : Nat} {f v : am_Gr} {rh : Nat} {rl : am_Gr} {pn : Nat} {I : Nat → Int32} (hv : vS σ 26 h w f v rh rl pn I) : vS σ1 26 h w f v rh rl pn I := q.vS hv (fun a b _ _ => by unfold plc; omega)
theorem pl_errors {xs : Nat → Int32} {N : Int32} : am_Call am_TX 10 120 c_L_errors [] (mG xs N 0 [] [] []) (fun r => r.1 = .inl (some (.int 1))) := by
  refine ⟨mf_L_errors, Nat.le_of_ble_eq_true rfl, ?_⟩
  refine nd_begin (k := 0) rfl rfl rfl rfl rfl (okO_0 okO_n) (okO_0 okO_n) (by decide) ?_
  refine R_astore_n rfl (by decide) ?_
  show am_R am_TX 10 0 c_L_errors 8 [some (.ref 0)] [] _ _
  have hB : iC (lb_s xs N) 0 [] := TC_0.2.2.2.1
  have s0 : smP pW (lb_s xs N) (lb_s xs N) := smP.refl
  generalize hσ0 : lb_s xs N = σ0 at *
  refine R_aload_n rfl rfl ?_
  refine R_ldcS (i := 5) rfl (List.mem_of_getElem? (i := 5) rfl) ?_
  refine R_iconst (v := 1) rfl rfl ?_
  refine R_iconst (v := 0) rfl rfl ?_
  refine er_step (e := (1, 0)) (i := 5) (T := er_5) (σ0 := σ0) rfl rfl rfl (by decide) er_m5 er_l5 (by decide) er_p5 (by decide) s0 hB (fun τ1 q1 b1 => ?_)
  refine R_if_eq rfl rfl (fun z => absurd z (by decide)) (fun _ => ?_)
  refine R_aload_n rfl rfl ?_
  refine R_ldcS (i := 7) rfl (List.mem_of_getElem? (i := 7) rfl) ?_
  refine R_iconst (v := 2) rfl rfl ?_
  refine R_bipush (v := 7) rfl (by decide) ?_
  refine er_step (e := (2, 7)) (i := 7) (T := er_7) (σ0 := σ0) rfl rfl rfl (by decide) er_m7 er_l7 (by decide) er_p7 (by decide) q1 b1 (fun τ2 q2 b2 => ?_)
  refine R_if_eq rfl rfl (fun z => absurd z (by decide)) (fun _ => ?_)
  refine R_aload_n rfl rfl ?_
  refine R_ldcS (i := 8) rfl (List.mem_of_getElem? (i := 8) rfl) ?_
  refine R_iconst (v := 2) rfl rfl ?_
  refine R_bipush (v := 9) rfl (by decide) ?_
  refine er_step (e := (2, 9)) (i := 8) (T := er_8) (σ0 := σ0) rfl rfl rfl (by decide) er_m8 er_l8 (by decide) er_p8 (by decide) q2 b2 (fun τ3 q3 b3 => ?_)
  refine R_if_eq rfl rfl (fun z => absurd z (by decide)) (fun _ => ?_)
  refine R_aload_n rfl rfl ?_
  refine R_ldcS (i := 9) rfl (List.mem_of_getElem? (i := 9) rfl) ?_
  refine R_iconst (v := 1) rfl rfl ?_
  refine R_bipush (v := 11) rfl (by decide) ?_
  refine er_step (e := (1, 11)) (i := 9) (T := er_9) (σ0 := σ0) rfl rfl rfl (by decide) er_m9 er_l9 (by decide) er_p9 (by decide) q3 b3 (fun τ4 q4 b4 => ?_)
  refine R_if_eq rfl rfl (fun z => absurd z (by decide)) (fun _ => ?_)
  refine R_aload_n rfl rfl ?_
  refine R_ldcS (i := 10) rfl (List.mem_of_getElem? (i := 10) rfl) ?_
  refine R_iconst (v := 1) rfl rfl ?_
  refine R_bipush (v := 16) rfl (by decide) ?_
  refine er_step (e := (1, 16)) (i := 10) (T := er_10) (σ0 := σ0) rfl rfl rfl (by decide) er_m10 er_l10 (by decide) er_p10 (by decide) q4 b4 (fun τ5 q5 b5 => ?_)
  refine R_if_eq rfl rfl (fun z => absurd z (by decide)) (fun _ => ?_)
  refine R_aload_n rfl rfl ?_
  refine R_ldcS (i := 11) rfl (List.mem_of_getElem? (i := 11) rfl) ?_
  refine R_iconst (v := 1) rfl rfl ?_
  refine R_bipush (v := 18) rfl (by decide) ?_
  refine er_step (e := (1, 18)) (i := 11) (T := er_11) (σ0 := σ0) rfl rfl rfl (by decide) er_m11 er_l11 (by decide) er_p11 (by decide) q5 b5 (fun τ6 q6 b6 => ?_)
  refine R_if_ne rfl rfl (fun _ => ?_) (fun z => absurd z (by decide))
  refine R_aload_n rfl rfl ?_
  refine R_ldcS (i := 12) rfl (List.mem_of_getElem? (i := 12) rfl) ?_
  refine R_iconst (v := 2) rfl rfl ?_
  refine R_bipush (v := 15) rfl (by decide) ?_
  refine er_step (e := (2, 15)) (i := 12) (T := er_12) (σ0 := σ0) rfl rfl rfl (by decide) er_m12 er_l12 (by decide) er_p12 (by decide) q6 b6 (fun τ7 q7 b7 => ?_)
  refine R_if_eq rfl rfl (fun z => absurd z (by decide)) (fun _ => ?_)
  refine R_aload_n rfl rfl ?_
  refine R_ldcS (i := 13) rfl (List.mem_of_getElem? (i := 13) rfl) ?_
  refine R_iconst (v := 1) rfl rfl ?_
  refine R_bipush (v := 16) rfl (by decide) ?_
  refine er_step (e := (1, 16)) (i := 13) (T := er_13) (σ0 := σ0) rfl rfl rfl (by decide) er_m13 er_l13 (by decide) er_p13 (by decide) q7 b7 (fun τ8 q8 b8 => ?_)
  refine R_if_eq rfl rfl (fun z => absurd z (by decide)) (fun _ => ?_)
  refine R_aload_n rfl rfl ?_
  refine R_ldcS (i := 14) rfl (List.mem_of_getElem? (i := 14) rfl) ?_
  refine R_iconst (v := 5) rfl rfl ?_
  refine R_bipush (v := 17) rfl (by decide) ?_
  refine er_step (e := (5, 17)) (i := 14) (T := er_14) (σ0 := σ0) rfl rfl rfl (by decide) er_m14 er_l14 (by decide) er_p14 (by decide) q8 b8 (fun τ9 q9 b9 => ?_)
  refine R_if_eq rfl rfl (fun z => absurd z (by decide)) (fun _ => ?_)
  refine R_aload_n rfl rfl ?_
  refine R_ldcS (i := 15) rfl (List.mem_of_getElem? (i := 15) rfl) ?_
  refine R_iconst (v := 2) rfl rfl ?_
  refine R_bipush (v := 17) rfl (by decide) ?_
  refine er_step (e := (2, 17)) (i := 15) (T := er_15) (σ0 := σ0) rfl rfl rfl (by decide) er_m15 er_l15 (by decide) er_p15 (by decide) q9 b9 (fun τ10 q10 b10 => ?_)
  refine R_if_eq rfl rfl (fun z => absurd z (by decide)) (fun _ => ?_)
  refine R_aload_n rfl rfl ?_
  refine R_ldcS (i := 16) rfl (List.mem_of_getElem? (i := 16) rfl) ?_
  refine R_iconst (v := 3) rfl rfl ?_
  refine R_bipush (v := 17) rfl (by decide) ?_
  refine er_step (e := (3, 17)) (i := 16) (T := er_16) (σ0 := σ0) rfl rfl rfl (by decide) er_m16 er_l16 (by decide) er_p16 (by decide) q10 b10 (fun τ11 q11 b11 => ?_)
  refine R_if_eq rfl rfl (fun z => absurd z (by decide)) (fun _ => ?_)
  refine R_aload_n rfl rfl ?_
  refine R_ldcS (i := 17) rfl (List.mem_of_getElem? (i := 17) rfl) ?_
  refine R_iconst (v := 4) rfl rfl ?_
  refine R_bipush (v := 25) rfl (by decide) ?_
  refine er_step (e := (4, 25)) (i := 17) (T := er_17) (σ0 := σ0) rfl rfl rfl (by decide) er_m17 er_l17 (by decide) er_p17 (by decide) q11 b11 (fun τ12 q12 b12 => ?_)
  refine R_if_ne rfl rfl (fun _ => ?_) (fun z => absurd z (by decide))
  refine R_aload_n rfl rfl ?_
  refine R_ldcS (i := 18) rfl (List.mem_of_getElem? (i := 18) rfl) ?_
  refine R_iconst (v := 5) rfl rfl ?_
  refine R_bipush (v := 61) rfl (by decide) ?_
  refine er_step (e := (5, 61)) (i := 18) (T := er_18) (σ0 := σ0) rfl rfl rfl (by decide) er_m18 er_l18 (by decide) er_p18 (by decide) q12 b12 (fun τ13 q13 b13 => ?_)
  refine R_if_ne rfl rfl (fun _ => ?_) (fun z => absurd z (by decide))
  refine R_aload_n rfl rfl ?_
  refine R_ldcS (i := 19) rfl (List.mem_of_getElem? (i := 19) rfl) ?_
  refine R_qS (kc := 0) (k := 0) (as := [.ref 0, .ref (1000 + 19)]) rfl rfl iv_L_feed (pl_feed b13 (fun σ1 _ => tx_c er_mt) er_lt (by decide)) (by decide) rfl rfl rfl rfl (Nat.le_of_ble_eq_true rfl) (fun σ1 h1 => ?_)
  obtain ⟨p1, hB1⟩ := h1
  have hT : TC σ0 lb_k := hσ0 ▸ TC_0
  have p2 : smP pW σ0 σ1 := q13.trans (p1.mono (fun a b h => by unfold pI at h; unfold pW; omega))
  refine R_aload_n rfl rfl ?_
  refine R_qV (as := []) rfl rfl iv_D_load (sp_D_load (hT.1.fr p2 (fun a b _ _ => by unfold pW; omega)) (hT.2.1.fr p2 (fun a b _ _ => by unfold pW; omega)) hB1 er_pt) (fun _ z => z.1.mono (fun a b h => by unfold pLo; omega)) (by decide) rfl rfl rfl rfl (Nat.le_of_ble_eq_true rfl) (fun σ2 h2 => ?_)
  obtain ⟨-, -, -, -, -, J, v2, j1, j2⟩ := h2
  obtain ⟨f1, f2, f3, f4⟩ := er_t1
  rw [f2, f3, f4] at v2
  rw [f4] at j2
  rw [f1]
  have v2' : vS σ2 26 2 2 (trF er_r) (fun _ _ => 0) 0 (fun _ _ => 0) 1 J := v2
  refine R_iconst (v := 1) rfl rfl ?_
  refine R_icmp_ne rfl rfl (fun z => absurd rfl z) (fun _ => ?_)
  refine R_aload_n rfl rfl ?_
  refine R_iconst (v := 0) rfl rfl ?_
  refine R_iconst (v := 1) rfl rfl ?_
  refine R_qV (as := [.int (nI 0), .int (nI 1)]) rfl rfl iv_D_entry (sp_D_entry v2' (by decide) (by decide)) (fun _ z => sm_lo z) (by decide) rfl rfl rfl rfl (Nat.le_of_ble_eq_true rfl) (fun σ3 h3 => ?_)
  rw [er_t2.1]
  refine R_bipush (v := -20) rfl (by decide) ?_
  refine R_icmp_ne rfl rfl (fun z => absurd rfl z) (fun _ => ?_)
  refine R_aload_n rfl rfl ?_
  refine R_iconst (v := 1) rfl rfl ?_
  refine R_iconst (v := 1) rfl rfl ?_
  refine R_qV (as := [.int (nI 1), .int (nI 1)]) rfl rfl iv_D_entry (sp_D_entry (vS_q h3 v2') (by decide) (by decide)) (fun _ z => sm_lo z) (by decide) rfl rfl rfl rfl (Nat.le_of_ble_eq_true rfl) (fun σ4 h4 => ?_)
  rw [er_t2.2]
  refine R_if_ne rfl rfl (fun z => absurd rfl z) (fun _ => ?_)
  have h4' := h3.trans h4
  refine R_aload_n rfl rfl ?_
  refine R_iconst (v := 0) rfl rfl ?_
  refine R_qV (as := [.int (nI 0)]) rfl rfl iv_D_rank (sp_D_rank (vS_q h4' v2') (by decide)) (fun _ z => sm_lo z) (by decide) rfl rfl rfl rfl (Nat.le_of_ble_eq_true rfl) (fun σ5 h5 => ?_)
  rw [er_t3]
  have h5' := h4'.trans h5
  refine R_iconst (v := 1) rfl rfl ?_
  refine R_icmp_ne rfl rfl (fun z => absurd rfl z) (fun _ => ?_)
  refine R_aload_n rfl rfl ?_
  refine R_iconst (v := 2) rfl rfl ?_
  refine R_qV (as := [.int (nI 2)]) rfl rfl iv_D_rank (sp_D_rank (vS_q h5' v2') (by decide)) (fun _ z => sm_lo z) (by decide) rfl rfl rfl rfl (Nat.le_of_ble_eq_true rfl) (fun σ6 h6 => ?_)
  rw [er_t4]
  have h6' := h5'.trans h6
  refine R_if_ne rfl rfl (fun z => absurd rfl z) (fun _ => ?_)
  refine R_aload_n rfl rfl ?_
  refine R_qV (as := []) rfl rfl iv_D_unlucky (sp_D_unlucky (vS_q h6' v2') j2) (fun _ z => sm_lo z) (by decide) rfl rfl rfl rfl (Nat.le_of_ble_eq_true rfl) (fun σ7 h7 => ?_)
  rw [er_t5]
  have h7' := h6'.trans h7
  refine R_iconst (v := 1) rfl rfl ?_
  refine R_icmp_ne rfl rfl (fun z => absurd rfl z) (fun _ => ?_)
  refine R_aload_n rfl rfl ?_
  refine R_iconst (v := 3) rfl rfl ?_
  refine R_qV (as := [.int (nI 3)]) rfl rfl iv_D_nextUnlucky (sp_D_nextUnlucky (vS_q h7' v2') (by decide)) (fun _ z => sm_lo z) (by decide) rfl rfl rfl rfl (Nat.le_of_ble_eq_true rfl) (fun σ8 h8 => ?_)
  rw [er_t6]
  refine R_iconst (v := 5) rfl rfl ?_
  refine R_icmp_ne rfl rfl (fun z => absurd rfl z) (fun _ => ?_)
  refine R_iconst (v := 1) rfl rfl ?_
  refine R_goto rfl rfl ?_
  exact T_zreturn rfl rfl rfl rfl
