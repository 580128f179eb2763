/-! ===== the matrix of the text ===== -/
def wM : List Int32 := [109, 97, 116, 114, 105, 120]
def mtE (B : List Int32) (n : Nat) (t : am_T) : Option (Nat × Nat) :=
  if isWd B wM t then
    (if ckN 1 6 (nx B n t) = 0 then
      (if ckN 1 6 (nx B n (nx B n t)) = 0 then
        (if isSy B 59 (nx B n (nx B n (nx B n t))) then none else some (1, (nx B n (nx B n (nx B n t))).1))
        else some (ckN 1 6 (nx B n (nx B n t)), (nx B n (nx B n t)).1))
      else some (ckN 1 6 (nx B n t), (nx B n t).1))
  else some (1, t.1)
def pDr (a b : Nat) : Prop := (a = 13 ∧ 5 ≤ b) ∨ (3 ≤ a ∧ a < 13)
theorem pDr_14 : ∀ a b, pDr a b → 3 ≤ a ∧ a < 14 := fun a b h => by unfold pDr at h; omega
theorem pP_pDr {σ τ : am_G} (q : smP pP σ τ) : smP pDr σ τ := q.mono (fun a b h => by unfold pP at h; unfold pDr; omega)
theorem erC_f {P : Nat → Nat → Prop} {σ τ : am_G} {c x : Nat} (q : smP P σ τ) (hP : ∀ a b, P a b → 3 ≤ a ∧ a < 14) : erC σ (flS τ (nI c) (nI x)) c x := erC.pre q hP (erC_fl smP.refl)
set_option maxRecDepth 100000 in
set_option maxHeartbeats 4000000 in
theorem sp_parseMatrix {σ : am_G} {n : Nat} {B : List Int32} {t : am_T} (hB : iC σ n B) (hb : tkB n t) (hT : tkC σ t) : am_Call am_TX 5 0 c_Parser_parseMatrix [.ref 13] (mm σ) (am_Ok (some (.int (zP ((mtE B n t).isNone = true)))) (fun σ1 => rPost σ σ1 (mtE B n t) (smP pDr σ σ1 ∧ tkC σ1 (nx B n (nx B n (nx B n (nx B n t)))) ∧ ∃ J, vS σ1 3 (nx B n t).2.2.2 (nx B n (nx B n t)).2.2.2 (fun _ _ => 0) (fun _ _ => 0) 0 (fun _ _ => 0) 0 (rsI J)))) := by
  refine ⟨mf_Parser_parseMatrix, Nat.le_of_ble_eq_true rfl, ?_⟩
  refine R_aload_n rfl rfl ?_
  refine R_ldcS (i := 31) rfl (List.mem_of_getElem? (i := 31) rfl) ?_
  by_cases g1 : isWd B wM t
  · refine R_cV (as := [.ref (1000 + 31)]) rfl rfl iv_Parser_isWord ((by have z := sp_isWord (σ := σ) (t := t) hB hb hT (show (31, wM) ∈ am_SL from List.mem_of_getElem? (i := 11) rfl); rw [zP_t g1] at z; exact z)) (by decide) rfl rfl rfl (by decide) rfl rfl (Nat.le_of_ble_eq_true rfl) (fun _ q => ?_)
    obtain rfl := q.symm
    refine R_if_ne rfl rfl (fun _ => ?_) (fun z => absurd z (by decide))
    refine R_aload_n rfl rfl ?_
    refine R_cV (as := []) rfl rfl iv_Parser_next (sp_nextT hB hb hT) (by decide) rfl rfl rfl (by decide) rfl rfl (Nat.le_of_ble_eq_true rfl) (fun τ1 hτ1 => ?_)
    obtain ⟨p1, k1⟩ := hτ1
    have b1 := nx_b (B := B) hb
    refine R_aload_n rfl rfl ?_
    refine R_iconst (v := 1) rfl rfl ?_
    refine R_bipush (v := 6) rfl (by decide) ?_
    by_cases g2 : ckN 1 6 (nx B n t) = 0
    · refine R_cV (as := [.int 1, .int 6]) rfl rfl iv_Parser_isNumberFrom (sp_isNumberFrom k1 ⟨b1.1, b1.2.1⟩ (by decide) (by decide) g2) (by decide) rfl rfl rfl (by decide) rfl rfl (Nat.le_of_ble_eq_true rfl) (fun _ q => ?_)
      obtain rfl := q.symm
      have hk1 := ckN_0 g2
      refine R_if_ne rfl rfl (fun _ => ?_) (fun z => absurd z (by decide))
      refine R_aload_n rfl rfl ?_
      refine R_gIN (n := (nx B n t).2.2.2) rfl rfl fd_6_8 (k1.2.2.2 hk1.1) ?_
      refine R_istore_n rfl (by decide) ?_
      refine R_aload_n rfl rfl ?_
      refine R_cV (as := []) rfl rfl iv_Parser_next (sp_nextT (t := (nx B n t)) (hB.fr p1 (fun b => by unfold pP; omega)) b1 k1) (by decide) rfl rfl rfl (by decide) rfl rfl (Nat.le_of_ble_eq_true rfl) (fun τ2 hτ2 => ?_)
      obtain ⟨p2, k2⟩ := hτ2
      have b2 := nx_b (B := B) b1
      refine R_aload_n rfl rfl ?_
      refine R_iconst (v := 1) rfl rfl ?_
      refine R_bipush (v := 6) rfl (by decide) ?_
      by_cases g3 : ckN 1 6 (nx B n (nx B n t)) = 0
      · refine R_cV (as := [.int 1, .int 6]) rfl rfl iv_Parser_isNumberFrom (sp_isNumberFrom k2 ⟨b2.1, b2.2.1⟩ (by decide) (by decide) g3) (by decide) rfl rfl rfl (by decide) rfl rfl (Nat.le_of_ble_eq_true rfl) (fun _ q => ?_)
        obtain rfl := q.symm
        have hk2 := ckN_0 g3
        refine R_if_ne rfl rfl (fun _ => ?_) (fun z => absurd z (by decide))
        refine R_aload_n rfl rfl ?_
        refine R_gP (x := 3) rfl rfl fp_6_4 rfl ?_
        refine R_iload_n rfl rfl ?_
        refine R_aload_n rfl rfl ?_
        refine R_gIN (n := (nx B n (nx B n t)).2.2.2) rfl rfl fd_6_8 (k2.2.2.2 hk2.1) ?_
        refine R_cV (as := [.int (nI ((nx B n t).2.2.2)), .int (nI ((nx B n (nx B n t)).2.2.2))]) rfl rfl iv_State_reset (sp_State_reset isState_3) (by decide) rfl rfl rfl (by decide) rfl rfl (Nat.le_of_ble_eq_true rfl) (fun _ q => ?_)
        obtain rfl := q.symm
        have q3 : smP (plc 3 13) τ2 (putS τ2 3 (nx B n t).2.2.2 (nx B n (nx B n t)).2.2.2 (fun _ _ => 0) (fun _ _ => 0) 0 (fun _ _ => 0) 0 (rsI (fun j => τ2.1 (3 + 9) j))) := putS_fr (fun a b _ _ => by unfold plc; omega)
        have v3 : vS (putS τ2 3 (nx B n t).2.2.2 (nx B n (nx B n t)).2.2.2 (fun _ _ => 0) (fun _ _ => 0) 0 (fun _ _ => 0) 0 (rsI (fun j => τ2.1 (3 + 9) j))) 3 (nx B n t).2.2.2 (nx B n (nx B n t)).2.2.2 (fun _ _ => 0) (fun _ _ => 0) 0 (fun _ _ => 0) 0 (rsI (fun j => τ2.1 (3 + 9) j)) := vS_putS hk1.2.2 hk2.2.2 (by omega) (by omega)
        refine R_aload_n rfl rfl ?_
        refine R_cV (as := []) rfl rfl iv_Parser_next (sp_nextT (t := (nx B n (nx B n t))) (((hB.fr p1 (fun b => by unfold pP; omega)).fr p2 (fun b => by unfold pP; omega)).fr q3 (fun b => by unfold plc; omega)) b2 (k2.fr q3 (fun b => by unfold plc; omega))) (by decide) rfl rfl rfl (by decide) rfl rfl (Nat.le_of_ble_eq_true rfl) (fun τ3 hτ3 => ?_)
        obtain ⟨p3, k3⟩ := hτ3
        refine R_aload_n rfl rfl ?_
        refine R_bipush (v := 59) rfl (by decide) ?_
        by_cases g4 : isSy B 59 (nx B n (nx B n (nx B n t)))
        · refine R_cV (as := [.int 59]) rfl rfl iv_Parser_passSymbol (sp_passSymbol (t := (nx B n (nx B n (nx B n t)))) ((((hB.fr p1 (fun b => by unfold pP; omega)).fr p2 (fun b => by unfold pP; omega)).fr q3 (fun b => by unfold plc; omega)).fr p3 (fun b => by unfold pP; omega)) (nx_b b2) k3 g4) (by decide) rfl rfl rfl (by decide) rfl rfl (Nat.le_of_ble_eq_true rfl) (fun ν hν => ?_)
          obtain ⟨p4, k4⟩ := hν
          rw [show mtE B n t = none from by unfold mtE; rw [if_pos g1, if_pos g2, if_pos g3]; exact if_pos g4]
          exact T_zreturn rfl rfl rfl (am_oki rfl ⟨((((pP_pDr p1).trans (pP_pDr p2)).trans (q3.mono (fun a b => by unfold plc pDr; omega))).trans (pP_pDr p3)).trans (pP_pDr p4), k4, _, p4.vS (p3.vS v3 (fun a b _ _ => by unfold pP; omega)) (fun a b _ _ => by unfold pP; omega)⟩)
        · refine R_cV (as := [.int 59]) rfl rfl iv_Parser_passSymbol (sp_passSymbol_x (t := (nx B n (nx B n (nx B n t)))) ((((hB.fr p1 (fun b => by unfold pP; omega)).fr p2 (fun b => by unfold pP; omega)).fr q3 (fun b => by unfold plc; omega)).fr p3 (fun b => by unfold pP; omega)) (nx_b b2) k3 g4) (by decide) rfl rfl rfl (by decide) rfl rfl (Nat.le_of_ble_eq_true rfl) (fun _ q => ?_)
          obtain rfl := q.symm
          rw [show mtE B n t = some (1, (nx B n (nx B n (nx B n t))).1) from by unfold mtE; rw [if_pos g1, if_pos g2, if_pos g3]; exact if_neg g4]
          exact T_zreturn rfl rfl rfl (am_oki rfl (erC_f ((((pP_pDr p1).trans (pP_pDr p2)).trans (q3.mono (fun a b => by unfold plc pDr; omega))).trans (pP_pDr p3)) pDr_14))
      · refine R_cV (as := [.int 1, .int 6]) rfl rfl iv_Parser_isNumberFrom (sp_isNumberFrom_x k2 ⟨b2.1, b2.2.1⟩ (by decide) (by decide) g3) (by decide) rfl rfl rfl (by decide) rfl rfl (Nat.le_of_ble_eq_true rfl) (fun _ q => ?_)
        obtain rfl := q.symm
        refine R_if_ne rfl rfl (fun z => absurd z (by decide)) (fun _ => ?_)
        refine R_iconst (v := 0) rfl rfl ?_
        rw [show mtE B n t = some (ckN 1 6 (nx B n (nx B n t)), (nx B n (nx B n t)).1) from by unfold mtE; rw [if_pos g1, if_pos g2]; exact if_neg g3]
        exact T_zreturn rfl rfl rfl (am_oki rfl (erC_f ((pP_pDr p1).trans (pP_pDr p2)) pDr_14))
    · refine R_cV (as := [.int 1, .int 6]) rfl rfl iv_Parser_isNumberFrom (sp_isNumberFrom_x k1 ⟨b1.1, b1.2.1⟩ (by decide) (by decide) g2) (by decide) rfl rfl rfl (by decide) rfl rfl (Nat.le_of_ble_eq_true rfl) (fun _ q => ?_)
      obtain rfl := q.symm
      refine R_if_ne rfl rfl (fun z => absurd z (by decide)) (fun _ => ?_)
      refine R_iconst (v := 0) rfl rfl ?_
      rw [show mtE B n t = some (ckN 1 6 (nx B n t), (nx B n t).1) from by unfold mtE; rw [if_pos g1]; exact if_neg g2]
      exact T_zreturn rfl rfl rfl (am_oki rfl (erC_f (pP_pDr p1) pDr_14))
  · refine R_cV (as := [.ref (1000 + 31)]) rfl rfl iv_Parser_isWord ((by have z := sp_isWord (σ := σ) (t := t) hB hb hT (show (31, wM) ∈ am_SL from List.mem_of_getElem? (i := 11) rfl); rw [zP_f g1] at z; exact z)) (by decide) rfl rfl rfl (by decide) rfl rfl (Nat.le_of_ble_eq_true rfl) (fun _ q => ?_)
    obtain rfl := q.symm
    refine R_if_ne rfl rfl (fun z => absurd z (by decide)) (fun _ => ?_)
    refine R_aload_n rfl rfl ?_
    refine R_iconst (v := 1) rfl rfl ?_
    refine R_cV (as := [.int 1]) rfl rfl iv_Parser_fail (sp_fail hT.1) (by decide) rfl rfl rfl (by decide) rfl rfl (Nat.le_of_ble_eq_true rfl) (fun _ q => ?_)
    obtain rfl := q.symm
    rw [show mtE B n t = some (1, t.1) from by unfold mtE; exact if_neg g1]
    exact T_zreturn rfl rfl rfl (am_oki rfl (erC_f (P := pDr) smP.refl pDr_14))

