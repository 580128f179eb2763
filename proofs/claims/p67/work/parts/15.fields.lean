/-! ===== the rules of fields and arrays over the state ===== -/
def fdI (ci j : Nat) : Prop := ci < 13 ∧ j < am_nf ci ∧ (am_ty ci j = .int ∨ am_ty ci j = .boolean ∨ am_ty ci j = .byte)
def fdW (ci j : Nat) : Prop := fdI ci j ∧ ((am_q ci).2.1 j).2.2.2 = false
def fdP (ci j : Nat) : Prop := ci < 13 ∧ j < am_nf ci ∧ ∀ ad i q, am_fv ad (am_ty ci j) i q = va_rf (q.map ad)
theorem fp_0_0 : fdP 0 0 := ⟨by decide, by decide, fun _ _ _ => rfl⟩
theorem fp_0_1 : fdP 0 1 := ⟨by decide, by decide, fun _ _ _ => rfl⟩
theorem fd_0_2 : fdI 0 2 := ⟨by decide, by decide, Or.inl rfl⟩
theorem fw_0_2 : fdW 0 2 := ⟨fd_0_2, by decide⟩
theorem fd_0_3 : fdI 0 3 := ⟨by decide, by decide, Or.inl rfl⟩
theorem fw_0_3 : fdW 0 3 := ⟨fd_0_3, by decide⟩
theorem fd_1_0 : fdI 1 0 := ⟨by decide, by decide, Or.inl rfl⟩
theorem fw_1_0 : fdW 1 0 := ⟨fd_1_0, by decide⟩
theorem fd_1_1 : fdI 1 1 := ⟨by decide, by decide, Or.inl rfl⟩
theorem fw_1_1 : fdW 1 1 := ⟨fd_1_1, by decide⟩
theorem fd_1_2 : fdI 1 2 := ⟨by decide, by decide, Or.inl rfl⟩
theorem fw_1_2 : fdW 1 2 := ⟨fd_1_2, by decide⟩
theorem fd_1_3 : fdI 1 3 := ⟨by decide, by decide, Or.inl rfl⟩
theorem fw_1_3 : fdW 1 3 := ⟨fd_1_3, by decide⟩
theorem fd_2_0 : fdI 2 0 := ⟨by decide, by decide, Or.inl rfl⟩
theorem fw_2_0 : fdW 2 0 := ⟨fd_2_0, by decide⟩
theorem fd_2_1 : fdI 2 1 := ⟨by decide, by decide, Or.inl rfl⟩
theorem fw_2_1 : fdW 2 1 := ⟨fd_2_1, by decide⟩
theorem fp_2_2 : fdP 2 2 := ⟨by decide, by decide, fun _ _ _ => rfl⟩
theorem fd_3_0 : fdI 3 0 := ⟨by decide, by decide, Or.inl rfl⟩
theorem fw_3_0 : fdW 3 0 := ⟨fd_3_0, by decide⟩
theorem fp_3_1 : fdP 3 1 := ⟨by decide, by decide, fun _ _ _ => rfl⟩
theorem fd_4_0 : fdI 4 0 := ⟨by decide, by decide, Or.inl rfl⟩
theorem fw_4_0 : fdW 4 0 := ⟨fd_4_0, by decide⟩
theorem fd_4_1 : fdI 4 1 := ⟨by decide, by decide, Or.inl rfl⟩
theorem fw_4_1 : fdW 4 1 := ⟨fd_4_1, by decide⟩
theorem fp_4_2 : fdP 4 2 := ⟨by decide, by decide, fun _ _ _ => rfl⟩
theorem fd_5_0 : fdI 5 0 := ⟨by decide, by decide, Or.inl rfl⟩
theorem fw_5_0 : fdW 5 0 := ⟨fd_5_0, by decide⟩
theorem fp_5_1 : fdP 5 1 := ⟨by decide, by decide, fun _ _ _ => rfl⟩
theorem fd_6_0 : fdI 6 0 := ⟨by decide, by decide, Or.inl rfl⟩
theorem fw_6_0 : fdW 6 0 := ⟨fd_6_0, by decide⟩
theorem fd_6_1 : fdI 6 1 := ⟨by decide, by decide, Or.inl rfl⟩
theorem fw_6_1 : fdW 6 1 := ⟨fd_6_1, by decide⟩
theorem fd_6_2 : fdI 6 2 := ⟨by decide, by decide, Or.inl rfl⟩
theorem fw_6_2 : fdW 6 2 := ⟨fd_6_2, by decide⟩
theorem fp_6_3 : fdP 6 3 := ⟨by decide, by decide, fun _ _ _ => rfl⟩
theorem fp_6_4 : fdP 6 4 := ⟨by decide, by decide, fun _ _ _ => rfl⟩
theorem fd_6_5 : fdI 6 5 := ⟨by decide, by decide, Or.inl rfl⟩
theorem fw_6_5 : fdW 6 5 := ⟨fd_6_5, by decide⟩
theorem fd_6_6 : fdI 6 6 := ⟨by decide, by decide, Or.inl rfl⟩
theorem fw_6_6 : fdW 6 6 := ⟨fd_6_6, by decide⟩
theorem fd_6_7 : fdI 6 7 := ⟨by decide, by decide, Or.inl rfl⟩
theorem fw_6_7 : fdW 6 7 := ⟨fd_6_7, by decide⟩
theorem fd_6_8 : fdI 6 8 := ⟨by decide, by decide, Or.inl rfl⟩
theorem fw_6_8 : fdW 6 8 := ⟨fd_6_8, by decide⟩
theorem fp_7_0 : fdP 7 0 := ⟨by decide, by decide, fun _ _ _ => rfl⟩
theorem fp_7_1 : fdP 7 1 := ⟨by decide, by decide, fun _ _ _ => rfl⟩
theorem fp_7_2 : fdP 7 2 := ⟨by decide, by decide, fun _ _ _ => rfl⟩
theorem fp_7_3 : fdP 7 3 := ⟨by decide, by decide, fun _ _ _ => rfl⟩
theorem fp_8_0 : fdP 8 0 := ⟨by decide, by decide, fun _ _ _ => rfl⟩
theorem fp_8_1 : fdP 8 1 := ⟨by decide, by decide, fun _ _ _ => rfl⟩
theorem fp_9_0 : fdP 9 0 := ⟨by decide, by decide, fun _ _ _ => rfl⟩
theorem fp_9_1 : fdP 9 1 := ⟨by decide, by decide, fun _ _ _ => rfl⟩
theorem fp_9_2 : fdP 9 2 := ⟨by decide, by decide, fun _ _ _ => rfl⟩
theorem fd_9_3 : fdI 9 3 := ⟨by decide, by decide, Or.inl rfl⟩
theorem fw_9_3 : fdW 9 3 := ⟨fd_9_3, by decide⟩
theorem fd_9_4 : fdI 9 4 := ⟨by decide, by decide, Or.inl rfl⟩
theorem fw_9_4 : fdW 9 4 := ⟨fd_9_4, by decide⟩
theorem fd_9_5 : fdI 9 5 := ⟨by decide, by decide, Or.inl rfl⟩
theorem fw_9_5 : fdW 9 5 := ⟨fd_9_5, by decide⟩
theorem fp_9_6 : fdP 9 6 := ⟨by decide, by decide, fun _ _ _ => rfl⟩
theorem fp_10_0 : fdP 10 0 := ⟨by decide, by decide, fun _ _ _ => rfl⟩
theorem fp_10_1 : fdP 10 1 := ⟨by decide, by decide, fun _ _ _ => rfl⟩
theorem fp_10_2 : fdP 10 2 := ⟨by decide, by decide, fun _ _ _ => rfl⟩
theorem fp_10_3 : fdP 10 3 := ⟨by decide, by decide, fun _ _ _ => rfl⟩
theorem fp_10_4 : fdP 10 4 := ⟨by decide, by decide, fun _ _ _ => rfl⟩
theorem fp_10_5 : fdP 10 5 := ⟨by decide, by decide, fun _ _ _ => rfl⟩
theorem fp_10_6 : fdP 10 6 := ⟨by decide, by decide, fun _ _ _ => rfl⟩
theorem fp_10_7 : fdP 10 7 := ⟨by decide, by decide, fun _ _ _ => rfl⟩
theorem fp_10_8 : fdP 10 8 := ⟨by decide, by decide, fun _ _ _ => rfl⟩
theorem fp_10_9 : fdP 10 9 := ⟨by decide, by decide, fun _ _ _ => rfl⟩
theorem fp_10_10 : fdP 10 10 := ⟨by decide, by decide, fun _ _ _ => rfl⟩
theorem fp_10_11 : fdP 10 11 := ⟨by decide, by decide, fun _ _ _ => rfl⟩
theorem fp_11_0 : fdP 11 0 := ⟨by decide, by decide, fun _ _ _ => rfl⟩
theorem fd_11_1 : fdI 11 1 := ⟨by decide, by decide, Or.inr (Or.inr rfl)⟩
theorem fw_11_1 : fdW 11 1 := ⟨fd_11_1, by decide⟩
theorem fd_11_2 : fdI 11 2 := ⟨by decide, by decide, Or.inr (Or.inl rfl)⟩
theorem fw_11_2 : fdW 11 2 := ⟨fd_11_2, by decide⟩
theorem fd_11_3 : fdI 11 3 := ⟨by decide, by decide, Or.inl rfl⟩
theorem fw_11_3 : fdW 11 3 := ⟨fd_11_3, by decide⟩
theorem fp_12_0 : fdP 12 0 := ⟨by decide, by decide, fun _ _ _ => rfl⟩
theorem fd_12_1 : fdI 12 1 := ⟨by decide, by decide, Or.inr (Or.inr rfl)⟩
theorem fd_12_2 : fdI 12 2 := ⟨by decide, by decide, Or.inl rfl⟩
theorem fw_12_2 : fdW 12 2 := ⟨fd_12_2, by decide⟩
theorem fd_12_3 : fdI 12 3 := ⟨by decide, by decide, Or.inr (Or.inl rfl)⟩
theorem fw_12_3 : fdW 12 3 := ⟨fd_12_3, by decide⟩
section AMF
variable {Tx : am_Tx} {d k : Nat} {c : am_C} {pc idx ci j kp n x a b : Nat} {ls : List (Option Value)} {st : List Value} {σ : am_G} {Q : am_Res → Prop} {i xi : Int32} {xl : Int64}
theorem R_gI (hc : c.2 pc = some (.getfield idx, 3, ci, j)) (hS : Sh[kp]? = some (0, ci)) (hf : fdI ci j) (h : am_R Tx d k c (pc + 3) ls (.int (σ.1 kp j) :: st) (mm σ) Q) : am_R Tx d k c pc ls (.ref kp :: st) (mm σ) Q :=
  R_getI (a := 0) (b := 0) hc hf.1 hS hf.2.1 (fun ad i q => by rcases hf.2.2 with e | e | e <;> rw [e] <;> rfl) h
theorem R_gP (hc : c.2 pc = some (.getfield idx, 3, ci, j)) (hS : Sh[kp]? = some (0, ci)) (hf : fdP ci j) (hp : am_P σ.2.2 kp j = some x) (h : am_R Tx d k c (pc + 3) ls (.ref x :: st) (mm σ) Q) : am_R Tx d k c pc ls (.ref kp :: st) (mm σ) Q :=
  R_getP (a := 0) (b := 0) hc hf.1 hS hf.2.1 hf.2.2 hp h
theorem R_pI (hc : c.2 pc = some (.putfield idx, 3, ci, j)) (hS : Sh[kp]? = some (0, ci)) (hf : fdW ci j) (hn : am_ty ci j = .int) (h : am_R Tx d k c (pc + 3) ls st (mm (sI σ kp j xi)) Q) : am_R Tx d k c pc ls (.int xi :: .ref kp :: st) (mm σ) Q :=
  R_putI (a := 0) (b := 0) hc hf.1.1 hS hf.1.2.1 (fun ad i q => by rcases hf.1.2.2 with e | e | e <;> rw [e] <;> rfl) hf.2 (by rw [hn]; rfl) (by rw [hn]; rfl) h
theorem R_pZ (hc : c.2 pc = some (.putfield idx, 3, ci, j)) (hS : Sh[kp]? = some (0, ci)) (hf : fdW ci j) (hn : am_ty ci j = .boolean) (hx : narrow .boolean (.int xi) = .int xi) (hy : fits .boolean (.int xi) = true) (h : am_R Tx d k c (pc + 3) ls st (mm (sI σ kp j xi)) Q) : am_R Tx d k c pc ls (.int xi :: .ref kp :: st) (mm σ) Q :=
  R_putI (a := 0) (b := 0) hc hf.1.1 hS hf.1.2.1 (fun ad i q => by rcases hf.1.2.2 with e | e | e <;> rw [e] <;> rfl) hf.2 (by rw [hn]; exact hx) (by rw [hn]; exact hy) h
theorem R_xL (hc : c.2 pc = some (.laload, 1, a, b)) (hS : Sh[kp]? = some (2, n)) (hi : i = nI j) (hj : j < n) (hn : n < 2 ^ 31) (h : am_R Tx d k c (pc + 1) ls (.long (σ.2.1 kp j) :: st) (mm σ) Q) : am_R Tx d k c pc ls (.int i :: .ref kp :: st) (mm σ) Q := R_lald hc hS hi hj hn h
theorem R_xI (hc : c.2 pc = some (.iaload, 1, a, b)) (hS : Sh[kp]? = some (1, n)) (hi : i = nI j) (hj : j < n) (hn : n < 2 ^ 31) (h : am_R Tx d k c (pc + 1) ls (.int (σ.1 kp j) :: st) (mm σ) Q) : am_R Tx d k c pc ls (.int i :: .ref kp :: st) (mm σ) Q := R_iald hc hS hi hj hn h
theorem R_xB (hc : c.2 pc = some (.baload, 1, a, b)) (hS : Sh[kp]? = some (3, n)) (hi : i = nI j) (hj : j < n) (hn : n < 2 ^ 31) (h : am_R Tx d k c (pc + 1) ls (.int (σ.1 kp j) :: st) (mm σ) Q) : am_R Tx d k c pc ls (.int i :: .ref kp :: st) (mm σ) Q := R_bald hc hS hi hj hn h
theorem R_xZ (hc : c.2 pc = some (.baload, 1, a, b)) (hS : Sh[kp]? = some (4, n)) (hi : i = nI j) (hj : j < n) (hn : n < 2 ^ 31) (h : am_R Tx d k c (pc + 1) ls (.int (σ.1 kp j) :: st) (mm σ) Q) : am_R Tx d k c pc ls (.int i :: .ref kp :: st) (mm σ) Q := R_zald hc hS hi hj hn h
theorem R_xP (hc : c.2 pc = some (.aaload, 1, a, b)) (hS : Sh[kp]? = some (5, n)) (hi : i = nI j) (hj : j < n) (hn : n < 2 ^ 31) (hp : am_P σ.2.2 kp j = some x) (h : am_R Tx d k c (pc + 1) ls (.ref x :: st) (mm σ) Q) : am_R Tx d k c pc ls (.int i :: .ref kp :: st) (mm σ) Q := R_aald hc hS hi hj hn hp h
theorem R_wL (hc : c.2 pc = some (.lastore, 1, a, b)) (hS : Sh[kp]? = some (2, n)) (hi : i = nI j) (hj : j < n) (hn : n < 2 ^ 31) (h : am_R Tx d k c (pc + 1) ls st (mm (sL σ kp j xl)) Q) : am_R Tx d k c pc ls (.long xl :: .int i :: .ref kp :: st) (mm σ) Q := R_last hc hS hi hj hn h
theorem R_wI (hc : c.2 pc = some (.iastore, 1, a, b)) (hS : Sh[kp]? = some (1, n)) (hi : i = nI j) (hj : j < n) (hn : n < 2 ^ 31) (h : am_R Tx d k c (pc + 1) ls st (mm (sI σ kp j xi)) Q) : am_R Tx d k c pc ls (.int xi :: .int i :: .ref kp :: st) (mm σ) Q := R_iast hc hS hi hj hn h
theorem R_wB (hc : c.2 pc = some (.bastore, 1, a, b)) (hS : Sh[kp]? = some (3, n)) (hi : i = nI j) (hj : j < n) (hn : n < 2 ^ 31) (h : am_R Tx d k c (pc + 1) ls st (mm (sI σ kp j (vp_nar .byte xi))) Q) : am_R Tx d k c pc ls (.int xi :: .int i :: .ref kp :: st) (mm σ) Q := R_bast hc hS hi hj hn h
theorem R_wZ (hc : c.2 pc = some (.bastore, 1, a, b)) (hS : Sh[kp]? = some (4, n)) (hi : i = nI j) (hj : j < n) (hn : n < 2 ^ 31) (h : am_R Tx d k c (pc + 1) ls st (mm (sI σ kp j (vp_nar .boolean xi))) Q) : am_R Tx d k c pc ls (.int xi :: .int i :: .ref kp :: st) (mm σ) Q := R_zast hc hS hi hj hn h
theorem R_aln {kd : Nat} {v : Int32} (hc : c.2 pc = some (.arraylength, 1, a, b)) (hS : Sh[kp]? = some (kd, n)) (hk0 : 1 ≤ kd ∧ kd ≤ 5) (hv : Int32.ofNat n = v) (h : am_R Tx d k c (pc + 1) ls (.int v :: st) (mm σ) Q) : am_R Tx d k c pc ls (.ref kp :: st) (mm σ) Q := R_alen (ty := .int) hc hS hk0 hv h
end AMF
