/-! ===== the model's text ===== -/
def xM (σ : am_G) (n : Nat) (B : List Int32) : Prop := B.length = n ∧ σ.1 120 13 = nI n ∧ n ≤ 400 ∧ ∀ i x, B[i]? = some x → σ.1 126 i = x.toInt8.toInt32 ∧ x.toInt8.toInt32 &&& 255 = x
theorem xM.fr {P : Nat → Nat → Prop} {σ σ1 : am_G} (q : smP P σ σ1) {n : Nat} {B : List Int32} (h : xM σ n B) (hp : ¬ P 120 13 ∧ ∀ b, ¬ P 126 b) : xM σ1 n B :=
  ⟨h.1, (q.i hp.1).trans h.2.1, h.2.2.1, fun i x e => ⟨(q.i (hp.2 i)).trans (h.2.2.2 i x e).1, (h.2.2.2 i x e).2⟩⟩
theorem xM_at {σ : am_G} {n k : Nat} {B : List Int32} (h : xM σ n B) (hk : k < n) : σ.1 126 k &&& 255 = ibA B k := by
  have e := List.getElem?_eq_getElem (l := B) (i := k) (by rw [h.1]; exact hk)
  unfold ibA
  rw [e, (h.2.2.2 k _ e).1]
  exact (h.2.2.2 k _ e).2
theorem xM_s {σ : am_G} {n k : Nat} {B : List Int32} (h : xM σ n B) (hk : k < n) : σ.1 126 k = (ibA B k).toInt8.toInt32 := by
  have e := List.getElem?_eq_getElem (l := B) (i := k) (by rw [h.1]; exact hk)
  unfold ibA
  rw [e]
  exact (h.2.2.2 k _ e).1
set_option maxRecDepth 100000 in
set_option maxHeartbeats 4000000 in
theorem sp_mbyteAt {σ : am_G} {n k : Nat} {B : List Int32} (h : xM σ n B) (hk : k < 2 ^ 31) : am_Call am_TX 0 0 c_M_byteAt [.ref 120, .int (nI k)] (mm σ) (am_Ok (some (.int (ibA B k))) (fun σ1 => σ1 = σ)) := by
  have h400 := h.2.2.1
  refine ⟨mf_M_byteAt, Nat.le_of_ble_eq_true rfl, ?_⟩
  refine R_iload_n rfl rfl ?_
  refine R_aload_n rfl rfl ?_
  refine R_gIN (n := n) rfl rfl fd_11_13 h.2.1 ?_
  refine R_nicmp_ge (x := k) (y := n) rfl rfl (by omega) (by omega) (fun h1 => ?_) (fun h1 => ?_)
  · refine R_iconst (v := -1) rfl rfl ?_
    exact T_ireturn rfl rfl (am_oki ((ibA_o h.1 (by omega)).symm) rfl)
  · refine R_aload_n rfl rfl ?_
    refine R_gP (x := 126) rfl rfl fp_11_11 rfl ?_
    refine R_iload_n rfl rfl ?_
    refine R_xB (j := k) rfl rfl rfl (by omega) (by decide) ?_
    refine R_sipush (v := 255) rfl (by decide) ?_
    refine R_iand rfl ?_
    refine R_goto rfl rfl ?_
    exact T_ireturn rfl rfl (am_oki (xM_at h (by omega)) rfl)
set_option maxRecDepth 100000 in
set_option maxHeartbeats 4000000 in
theorem sp_good {σ : am_G} {c : Nat} (h : σ.1 120 18 = nI c) (hc : c < 6) : am_Call am_TX 0 0 c_M_good [.ref 120] (mm σ) (am_Ok (some (.int (zP (c = 0)))) (fun σ1 => σ1 = σ)) := by
  refine ⟨mf_M_good, Nat.le_of_ble_eq_true rfl, ?_⟩
  refine R_aload_n rfl rfl ?_
  refine R_gIN (n := c) rfl rfl fd_11_18 h ?_
  refine R_nif_ne (x := c) rfl rfl (by omega) (fun h1 => ?_) (fun h1 => ?_)
  · refine R_iconst (v := 0) rfl rfl ?_
    exact T_zreturn rfl rfl rfl (am_oki (zP_f (by omega)).symm rfl)
  · refine R_iconst (v := 1) rfl rfl ?_
    refine R_goto rfl rfl ?_
    exact T_zreturn rfl rfl rfl (am_oki (zP_t (by omega)).symm rfl)
set_option maxRecDepth 100000 in
set_option maxHeartbeats 4000000 in
theorem sp_errs_1 {σ : am_G} {c : Nat} {x : Int32} (h : σ.1 120 18 = nI c) (hc : c < 6) (h0 : ¬ c = 0) : am_Call am_TX 1 0 c_M_errs [.ref 120, .int x] (mm σ) (am_Ok none (fun σ1 => σ1 = σ)) := by
  refine ⟨mf_M_errs, Nat.le_of_ble_eq_true rfl, ?_⟩
  refine R_aload_n rfl rfl ?_
  refine R_cV (as := []) rfl rfl iv_M_good ((by have z := sp_good h hc; rw [zP_f h0] at z; exact z)) (by decide) rfl rfl rfl (by decide) rfl rfl (Nat.le_of_ble_eq_true rfl) (fun _ q => ?_)
  obtain rfl := q.symm
  refine R_if_ne rfl rfl (fun z => absurd z (by decide)) (fun _ => ?_)
  exact T_return rfl rfl (am_okv0 rfl)
set_option maxRecDepth 100000 in
set_option maxHeartbeats 4000000 in
theorem sp_errs_0 {σ : am_G} {x y : Int32} (h : σ.1 120 18 = nI 0) (h2 : σ.1 120 15 = y) : am_Call am_TX 1 0 c_M_errs [.ref 120, .int x] (mm σ) (am_Ok none (fun σ1 => σ1 = sI (sI σ 120 18 x) 120 19 y)) := by
  refine ⟨mf_M_errs, Nat.le_of_ble_eq_true rfl, ?_⟩
  refine R_aload_n rfl rfl ?_
  refine R_cV (as := []) rfl rfl iv_M_good ((by have z := sp_good h (by omega); rw [zP_t rfl] at z; exact z)) (by decide) rfl rfl rfl (by decide) rfl rfl (Nat.le_of_ble_eq_true rfl) (fun _ q => ?_)
  obtain rfl := q.symm
  refine R_if_ne rfl rfl (fun _ => ?_) (fun z => absurd z (by decide))
  refine R_aload_n rfl rfl ?_
  refine R_iload_n rfl rfl ?_
  refine R_pI rfl rfl fw_11_18 rfl ?_
  refine R_aload_n rfl rfl ?_
  refine R_aload_n rfl rfl ?_
  refine R_gIX (x := y) rfl rfl fd_11_15 ((sI_o (Or.inr (by decide))).trans h2) ?_
  refine R_pI rfl rfl fw_11_19 rfl ?_
  exact T_return rfl rfl (am_okv0 rfl)
