/-! ===== Matrix ===== -/
set_option maxRecDepth 100000 in
set_option maxHeartbeats 4000000 in
theorem sp_Matrix_at {σ : am_G} {k i j : Nat} (hM : isMat k) (hi : i < 2 ^ 31) (hj : j < 2 ^ 31) : am_Call am_TX 0 0 c_Matrix_at [.ref k, .int (nI i), .int (nI j)] (mm σ) (am_Ok (some (.long (gL σ k i j))) (fun σ1 => σ1 = σ)) := by
  refine ⟨mf_Matrix_at, Nat.le_of_ble_eq_true rfl, ?_⟩
  refine R_iload_n rfl rfl ?_
  refine R_nif_lt (x := i) rfl rfl (by omega) (fun h1 => ?_) (fun h1 => ?_)
  · refine R_iconst (v := 0) rfl rfl ?_
    refine R_istore_n rfl (by decide) ?_
    refine R_iload_n rfl rfl ?_
    refine R_if_eq rfl rfl (fun _ => ?_) (fun z => absurd z (by decide))
    refine R_lconst (v := 0) rfl rfl ?_
    exact T_lreturn rfl rfl (am_okl (by unfold gL; rw [if_neg (by omega)]) rfl)
  · refine R_iload_n rfl rfl ?_
    refine R_bipush (v := 6) rfl (by decide) ?_
    refine R_nicmp_ge (x := i) (y := 6) rfl rfl (by omega) (by omega) (fun h2 => ?_) (fun h2 => ?_)
    · refine R_iconst (v := 0) rfl rfl ?_
      refine R_istore_n rfl (by decide) ?_
      refine R_iload_n rfl rfl ?_
      refine R_if_eq rfl rfl (fun _ => ?_) (fun z => absurd z (by decide))
      refine R_lconst (v := 0) rfl rfl ?_
      exact T_lreturn rfl rfl (am_okl (by unfold gL; rw [if_neg (by omega)]) rfl)
    · refine R_iload_n rfl rfl ?_
      refine R_nif_lt (x := j) rfl rfl (by omega) (fun h3 => ?_) (fun h3 => ?_)
      · refine R_iconst (v := 0) rfl rfl ?_
        refine R_istore_n rfl (by decide) ?_
        refine R_iload_n rfl rfl ?_
        refine R_if_eq rfl rfl (fun _ => ?_) (fun z => absurd z (by decide))
        refine R_lconst (v := 0) rfl rfl ?_
        exact T_lreturn rfl rfl (am_okl (by unfold gL; rw [if_neg (by omega)]) rfl)
      · refine R_iload_n rfl rfl ?_
        refine R_bipush (v := 6) rfl (by decide) ?_
        refine R_nicmp_ge (x := j) (y := 6) rfl rfl (by omega) (by omega) (fun h4 => ?_) (fun h4 => ?_)
        · refine R_iconst (v := 0) rfl rfl ?_
          refine R_istore_n rfl (by decide) ?_
          refine R_iload_n rfl rfl ?_
          refine R_if_eq rfl rfl (fun _ => ?_) (fun z => absurd z (by decide))
          refine R_lconst (v := 0) rfl rfl ?_
          exact T_lreturn rfl rfl (am_okl (by unfold gL; rw [if_neg (by omega)]) rfl)
        · refine R_iconst (v := 1) rfl rfl ?_
          refine R_goto rfl rfl ?_
          refine R_istore_n rfl (by decide) ?_
          refine R_iload_n rfl rfl ?_
          refine R_if_eq rfl rfl (fun z => absurd z (by decide)) (fun _ => ?_)
          refine R_aload_n rfl rfl ?_
          refine R_gP (x := (k + 1)) rfl hM.1 fp_4_2 ((am_P_3 (by decide)).trans hM.2.2) ?_
          refine R_iload_n rfl rfl ?_
          refine R_bipush (v := 6) rfl (by decide) ?_
          refine R_imulN (x := i) (y := 6) rfl ?_
          refine R_iload_n rfl rfl ?_
          refine R_iaddN (x := (i * 6)) (y := j) rfl ?_
          refine R_xL (j := i * 6 + j) rfl hM.2.1 rfl (by omega) (by decide) ?_
          refine R_goto rfl rfl ?_
          exact T_lreturn rfl rfl (am_okl (by unfold gL; rw [if_pos (by omega)]) rfl)
set_option maxRecDepth 100000 in
set_option maxHeartbeats 4000000 in
theorem sp_Matrix_put {σ : am_G} {k i j : Nat} {x : Int64} (hM : isMat k) (hi : i < 2 ^ 31) (hj : j < 2 ^ 31) : am_Call am_TX 0 0 c_Matrix_put [.ref k, .int (nI i), .int (nI j), .long x] (mm σ) (am_Ok none (fun σ1 => σ1 = uL σ k i j x)) := by
  refine ⟨mf_Matrix_put, Nat.le_of_ble_eq_true rfl, ?_⟩
  refine R_iload_n rfl rfl ?_
  refine R_nif_lt (x := i) rfl rfl (by omega) (fun h1 => ?_) (fun h1 => ?_)
  · exact T_return rfl rfl (am_okv0 (by unfold uL; rw [if_neg (by omega)]))
  · refine R_iload_n rfl rfl ?_
    refine R_bipush (v := 6) rfl (by decide) ?_
    refine R_nicmp_ge (x := i) (y := 6) rfl rfl (by omega) (by omega) (fun h2 => ?_) (fun h2 => ?_)
    · exact T_return rfl rfl (am_okv0 (by unfold uL; rw [if_neg (by omega)]))
    · refine R_iload_n rfl rfl ?_
      refine R_nif_lt (x := j) rfl rfl (by omega) (fun h3 => ?_) (fun h3 => ?_)
      · exact T_return rfl rfl (am_okv0 (by unfold uL; rw [if_neg (by omega)]))
      · refine R_iload_n rfl rfl ?_
        refine R_bipush (v := 6) rfl (by decide) ?_
        refine R_nicmp_ge (x := j) (y := 6) rfl rfl (by omega) (by omega) (fun h4 => ?_) (fun h4 => ?_)
        · exact T_return rfl rfl (am_okv0 (by unfold uL; rw [if_neg (by omega)]))
        · refine R_aload_n rfl rfl ?_
          refine R_gP (x := (k + 1)) rfl hM.1 fp_4_2 ((am_P_3 (by decide)).trans hM.2.2) ?_
          refine R_iload_n rfl rfl ?_
          refine R_bipush (v := 6) rfl (by decide) ?_
          refine R_imulN (x := i) (y := 6) rfl ?_
          refine R_iload_n rfl rfl ?_
          refine R_iaddN (x := (i * 6)) (y := j) rfl ?_
          refine R_lload_n rfl rfl ?_
          refine R_wL (j := i * 6 + j) rfl hM.2.1 rfl (by omega) (by decide) ?_
          exact T_return rfl rfl (am_okv0 (by unfold uL; rw [if_pos (by omega)]))
/-- the first n numbers of the place p are f's -/
def aF (L : Nat → Nat → Int64) (p n : Nat) (f : Nat → Int64) : Nat → Nat → Int64 := fun a b => if a = p then (if b < n then f b else L a b) else L a b
theorem aF_put {L : Nat → Nat → Int64} {p n : Nat} {f : Nat → Int64} {x : Int64} (hx : x = f n) : am_up (aF L p n f) p n x = aF L p (n + 1) f := by
  subst hx
  funext a b
  simp only [am_up, aF]
  by_cases ha : a = p
  · simp only [if_pos ha]
    by_cases hb : b = n
    · subst hb; rw [if_pos rfl, if_pos (by omega)]
    · rw [if_neg hb]
      by_cases hb2 : b < n
      · rw [if_pos hb2, if_pos (by omega)]
      · rw [if_neg hb2, if_neg (by omega)]
  · simp only [if_neg ha]
theorem aF_0 {L : Nat → Nat → Int64} {p : Nat} {f : Nat → Int64} : aF L p 0 f = L := by
  funext a b
  simp [aF]
theorem aF_off {L : Nat → Nat → Int64} {p n a : Nat} {f : Nat → Int64} (h : a ≠ p) : aF L p n f a = L a := by
  funext b
  simp [aF, h]
