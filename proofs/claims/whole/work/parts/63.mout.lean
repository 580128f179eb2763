/-! ===== the model's output ===== -/
def oM (σ : am_G) (L : List Int32) : Prop := σ.1 120 27 = nI L.length ∧ L.length ≤ 1000 ∧ ∀ i x, L[i]? = some x → σ.1 131 i = x
def pOm (a b : Nat) : Prop := (a = 120 ∧ b = 27) ∨ a = 131
/-- a byte that is stored as it is -/
def b7 (x : Int32) : Prop := x.toInt8.toInt32 = x
theorem oM.fr {P : Nat → Nat → Prop} {σ σ1 : am_G} (q : smP P σ σ1) {L : List Int32} (h : oM σ L) (hp : ¬ P 120 27 ∧ ∀ b, ¬ P 131 b) : oM σ1 L :=
  ⟨(q.i hp.1).trans h.1, h.2.1, fun i x e => (q.i (hp.2 i)).trans (h.2.2 i x e)⟩
theorem oM_push {σ : am_G} {L : List Int32} {x y : Int32} (hy : y = x) (h : oM σ L) (hl : L.length < 1000) : oM (sI (sI σ 131 L.length y) 120 27 (nI (L.length + 1))) (L ++ [x]) := by
  subst hy
  refine ⟨?_, ?_, fun i z e => ?_⟩
  · rw [sI_s, List.length_append]; rfl
  · rw [List.length_append]; show L.length + 1 ≤ 1000; omega
  · rw [sI_o (Or.inl (by decide))]
    by_cases hi : i = L.length
    · subst hi
      rw [sI_s]
      rw [List.getElem?_append_right (Nat.le_refl _), Nat.sub_self] at e
      exact Option.some.inj e
    · rw [sI_o (Or.inr hi)]
      by_cases h2 : i < L.length
      · rw [List.getElem?_append_left h2] at e
        exact h.2.2 i z e
      · rw [List.getElem?_append_right (by omega), List.getElem?_eq_none (by show 1 ≤ i - L.length; omega)] at e
        exact absurd e (by simp)
set_option maxRecDepth 100000 in
set_option maxHeartbeats 4000000 in
theorem sp_mwrite {σ : am_G} {L : List Int32} {x : Int32} (hx : b7 x) (h : oM σ L) (hl : L.length < 1000) : am_Call am_TX 0 0 c_M_write [.ref 120, .int x] (mm σ) (am_Ok none (fun σ1 => smP pOm σ σ1 ∧ oM σ1 (L ++ [x]))) := by
  refine ⟨mf_M_write, Nat.le_of_ble_eq_true rfl, ?_⟩
  refine R_aload_n rfl rfl ?_
  refine R_gP (x := 131) rfl rfl fp_11_26 rfl ?_
  refine R_aload_n rfl rfl ?_
  refine R_gIN (n := L.length) rfl rfl fd_11_27 h.1 ?_
  refine R_iload_n rfl rfl ?_
  refine R_i2b rfl ?_
  refine R_wB (j := L.length) rfl rfl rfl (by omega) (by decide) ?_
  refine R_aload_n rfl rfl ?_
  refine R_dup rfl rfl ?_
  refine R_gIN (n := L.length) rfl rfl fd_11_27 ((sI_o (Or.inl (by decide))).trans h.1) ?_
  refine R_iconst (v := 1) rfl rfl ?_
  refine R_iaddN (x := L.length) (y := 1) rfl ?_
  refine R_pI rfl rfl fw_11_27 rfl ?_
  exact T_return rfl rfl (am_okv0 ⟨(smP_sI (p := pOm) (k := 131) (j := L.length) (Or.inr rfl)).trans (smP_sI (Or.inl ⟨rfl, rfl⟩)), oM_push ((congrArg (fun z : Int32 => z.toInt8.toInt32) hx).trans hx) h hl⟩)
set_option maxRecDepth 100000 in
set_option maxHeartbeats 4000000 in
theorem sp_M_errorCode {σ : am_G} : am_Call am_TX 0 0 c_M_errorCode [.ref 120] (mm σ) (am_Ok (some (.int (σ.1 120 18))) (fun σ1 => σ1 = sI σ 120 0 0)) := by
  refine ⟨mf_M_errorCode, Nat.le_of_ble_eq_true rfl, ?_⟩
  refine R_aload_n rfl rfl ?_
  refine R_iconst (v := 0) rfl rfl ?_
  refine R_pI rfl rfl fw_11_0 rfl ?_
  refine R_aload_n rfl rfl ?_
  refine R_gI rfl rfl fd_11_18 ?_
  exact T_ireturn rfl rfl (am_oki (sI_o (Or.inr (by decide))) rfl)
set_option maxRecDepth 100000 in
set_option maxHeartbeats 4000000 in
theorem sp_M_errorPosition {σ : am_G} : am_Call am_TX 0 0 c_M_errorPosition [.ref 120] (mm σ) (am_Ok (some (.int (σ.1 120 19))) (fun σ1 => σ1 = sI σ 120 0 0)) := by
  refine ⟨mf_M_errorPosition, Nat.le_of_ble_eq_true rfl, ?_⟩
  refine R_aload_n rfl rfl ?_
  refine R_iconst (v := 0) rfl rfl ?_
  refine R_pI rfl rfl fw_11_0 rfl ?_
  refine R_aload_n rfl rfl ?_
  refine R_gI rfl rfl fd_11_19 ?_
  exact T_ireturn rfl rfl (am_oki (sI_o (Or.inr (by decide))) rfl)
set_option maxRecDepth 100000 in
set_option maxHeartbeats 4000000 in
theorem sp_M_undoCount {σ : am_G} : am_Call am_TX 0 0 c_M_undoCount [.ref 120] (mm σ) (am_Ok (some (.int (σ.1 120 25))) (fun σ1 => σ1 = sI σ 120 0 0)) := by
  refine ⟨mf_M_undoCount, Nat.le_of_ble_eq_true rfl, ?_⟩
  refine R_aload_n rfl rfl ?_
  refine R_iconst (v := 0) rfl rfl ?_
  refine R_pI rfl rfl fw_11_0 rfl ?_
  refine R_aload_n rfl rfl ?_
  refine R_gI rfl rfl fd_11_25 ?_
  exact T_ireturn rfl rfl (am_oki (sI_o (Or.inr (by decide))) rfl)
