/-! ===== the model's scan ===== -/
def pSc (a b : Nat) : Prop := a = 120 ∧ (b = 14 ∨ b = 17)
set_option maxRecDepth 100000 in
set_option maxHeartbeats 4000000 in
theorem lp_sc0 {σ : am_G} {n S : Nat} {B : List Int32} {d k0 : Nat} {Q : am_Res → Prop} (hB : xM σ n B) (hx : ∀ τ, smP pSc σ τ → τ.1 120 14 = nI S → am_R am_TX d k0 c_M_scan 39 [some (.ref 120), none] [] (mm τ) Q) (hd : 1 ≤ d) : ∀ (uu i : Nat) (he : skF isBb B uu i = S) (τ : am_G), i + uu = n → (smP pSc σ τ ∧ τ.1 120 14 = nI i) → am_R am_TX d k0 c_M_scan 0 [some (.ref 120), none] [] (mm τ) Q := by
  have h400 := hB.2.2.1
  intro uu
  induction uu with
  | zero =>
    intro i he τ hi hI
    obtain rfl : n = i := by omega
    refine R_aload_n rfl rfl ?_
    refine R_aload_n rfl rfl ?_
    refine R_gIN (n := n) rfl rfl fd_11_14 hI.2 ?_
    refine R_cV (as := [.int (nI n)]) rfl rfl iv_M_byteAt ((by have z := sp_mbyteAt (k := n) (hB.fr hI.1 ⟨by unfold pSc; omega, fun b => by unfold pSc; omega⟩) (by omega); rw [ibA_o hB.1 (by omega)] at z; exact z)) (by omega) rfl rfl rfl (by decide) rfl rfl (Nat.le_of_ble_eq_true rfl) (fun _ q => ?_)
    obtain rfl := q.symm
    refine R_bipush (v := 32) rfl (by decide) ?_
    refine R_icmp_eq rfl rfl (fun z => absurd z (by decide)) (fun _ => ?_)
    refine R_aload_n rfl rfl ?_
    refine R_aload_n rfl rfl ?_
    refine R_gIN (n := n) rfl rfl fd_11_14 hI.2 ?_
    refine R_cV (as := [.int (nI n)]) rfl rfl iv_M_byteAt ((by have z := sp_mbyteAt (k := n) (hB.fr hI.1 ⟨by unfold pSc; omega, fun b => by unfold pSc; omega⟩) (by omega); rw [ibA_o hB.1 (by omega)] at z; exact z)) (by omega) rfl rfl rfl (by decide) rfl rfl (Nat.le_of_ble_eq_true rfl) (fun _ q => ?_)
    obtain rfl := q.symm
    refine R_bipush (v := 10) rfl (by decide) ?_
    refine R_icmp_ne rfl rfl (fun _ => ?_) (fun z => absurd z (by decide))
    rw [show S = n from he.symm] at hx
    exact (hx τ hI.1 hI.2).weak ⟨rfl, trivial⟩
  | succ uu ih =>
    intro i he τ hi hI
    refine R_aload_n rfl rfl ?_
    refine R_aload_n rfl rfl ?_
    refine R_gIN (n := i) rfl rfl fd_11_14 hI.2 ?_
    refine R_cV (as := [.int (nI i)]) rfl rfl iv_M_byteAt (sp_mbyteAt (k := i) (hB.fr hI.1 ⟨by unfold pSc; omega, fun b => by unfold pSc; omega⟩) (by omega)) (by omega) rfl rfl rfl (by decide) rfl rfl (Nat.le_of_ble_eq_true rfl) (fun _ q => ?_)
    obtain rfl := q.symm
    refine R_bipush (v := 32) rfl (by decide) ?_
    refine R_icmp_eq rfl rfl (fun h1 => ?_) (fun h1 => ?_)
    · refine R_aload_n rfl rfl ?_
      refine R_dup rfl rfl ?_
      refine R_gIN (n := i) rfl rfl fd_11_14 hI.2 ?_
      refine R_iconst (v := 1) rfl rfl ?_
      refine R_iaddN (x := i) (y := 1) rfl ?_
      refine R_pI rfl rfl fw_11_14 rfl ?_
      refine R_goto rfl rfl ?_
      exact (ih (i + 1) (by rw [← he]; simp only [skF]; exact (if_pos (decide_eq_true (Or.inl h1))).symm) (sI τ 120 14 (nI (i + 1))) (by omega) ⟨hI.1.trans (smP_sI ⟨rfl, by decide⟩), sI_s⟩).weak ⟨rfl, trivial⟩
    · refine R_aload_n rfl rfl ?_
      refine R_aload_n rfl rfl ?_
      refine R_gIN (n := i) rfl rfl fd_11_14 hI.2 ?_
      refine R_cV (as := [.int (nI i)]) rfl rfl iv_M_byteAt (sp_mbyteAt (k := i) (hB.fr hI.1 ⟨by unfold pSc; omega, fun b => by unfold pSc; omega⟩) (by omega)) (by omega) rfl rfl rfl (by decide) rfl rfl (Nat.le_of_ble_eq_true rfl) (fun _ q => ?_)
      obtain rfl := q.symm
      refine R_bipush (v := 10) rfl (by decide) ?_
      refine R_icmp_ne rfl rfl (fun h2 => ?_) (fun h2 => ?_)
      · rw [show S = i from by rw [← he]; simp only [skF]; exact if_neg (fun z => (of_decide_eq_true z).elim h1 h2)] at hx
        exact (hx τ hI.1 hI.2).weak ⟨rfl, trivial⟩
      · refine R_aload_n rfl rfl ?_
        refine R_dup rfl rfl ?_
        refine R_gIN (n := i) rfl rfl fd_11_14 hI.2 ?_
        refine R_iconst (v := 1) rfl rfl ?_
        refine R_iaddN (x := i) (y := 1) rfl ?_
        refine R_pI rfl rfl fw_11_14 rfl ?_
        refine R_goto rfl rfl ?_
        exact (ih (i + 1) (by rw [← he]; simp only [skF]; exact (if_pos (decide_eq_true (Or.inr h2))).symm) (sI τ 120 14 (nI (i + 1))) (by omega) ⟨hI.1.trans (smP_sI ⟨rfl, by decide⟩), sI_s⟩).weak ⟨rfl, trivial⟩
