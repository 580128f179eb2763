/-! ===== the model writes a number ===== -/
theorem td_sgn {m s : Int} (hs : 0 < s) (hm : m < 0) : m.tdiv s ≤ 0 := by
  have e : m = -(-m) := by omega
  rw [e, Int.neg_tdiv, Int.tdiv_eq_ediv_of_nonneg (by omega)]
  have := Int.ediv_nonneg (a := -m) (b := s) (by omega) (by omega)
  omega
theorem td_cmp {m s : Int} (hs : 0 < s) : m.tdiv s < 10 ↔ m.tdiv 10 < s := by
  rcases Int.lt_or_le m 0 with h | h
  · have h1 := td_sgn hs h
    have h2 := td_sgn (s := 10) (by omega) h
    constructor <;> intro _ <;> omega
  · rw [Int.tdiv_eq_ediv_of_nonneg h, Int.tdiv_eq_ediv_of_nonneg h, Int.ediv_lt_iff_lt_mul hs, Int.ediv_lt_iff_lt_mul (by omega)]
    constructor <;> intro _ <;> omega
theorem l_divp {m s : Int64} (hs : 0 < s.toInt) : (m / s).toInt = m.toInt.tdiv s.toInt := by
  rw [Int64.toInt_div]
  have h1 := Int.natAbs_tdiv_le_natAbs m.toInt s.toInt
  have h2 := Int64.toInt_lt m
  have h3 := Int64.le_toInt m
  have h4 : m.toInt < 0 → m.toInt.tdiv s.toInt ≤ 0 := td_sgn hs
  exact Int.bmod_eq_of_le (by omega) (by omega)
theorem sc_v : ∀ i, i < 19 → 0 < (sc (i + 1)).toInt := by decide +kernel
theorem sc_cmp {m : Int64} {i : Nat} (hi : i < 19) : m / sc (i + 1) < 10 ↔ m / 10 < sc (i + 1) := by
  rw [l_lt, l_lt, l_divp (sc_v i hi), l_divp (by decide)]
  exact td_cmp (sc_v i hi)
theorem sc_top {m : Int64} : m / sc (18 + 1) < 10 := by
  rw [l_lt, l_divp (sc_v 18 (by omega)), show (sc (18 + 1)).toInt = 1000000000000000000 from by decide +kernel, show (10 : Int64).toInt = 10 from rfl]
  have h2 := Int64.toInt_lt m
  rcases Int.lt_or_le m.toInt 0 with h | h
  · have := td_sgn (s := 1000000000000000000) (by omega) h
    omega
  · rw [Int.tdiv_eq_ediv_of_nonneg h]
    omega
set_option maxRecDepth 100000 in
set_option maxHeartbeats 4000000 in
theorem lp_mn1 {σ : am_G} {v : Int64} {d k0 : Nat} {Q : am_Res → Prop} (hx : am_R am_TX d k0 c_M_writeNumber 36 [some (.ref 120), some (.long v), none, some (.long (sc (exF (absL v) 18 0 + 1))), none, none, none] [] (mm σ) Q) (hd : 1 ≤ d) : ∀ (uu i : Nat) (he : exF (absL v) uu i = exF (absL v) 18 0), i + uu = 18 → am_R am_TX d k0 c_M_writeNumber 14 [some (.ref 120), some (.long v), none, some (.long (sc (i + 1))), none, none, none] [] (mm σ) Q := by
  intro uu
  induction uu with
  | zero =>
    intro i he hi
    obtain rfl : 18 = i := by omega
    refine R_lload_n rfl rfl ?_
    refine R_cS (as := [.long v]) rfl rfl iv_M_size (sp_msize) (by omega) rfl rfl rfl rfl (Nat.le_of_ble_eq_true rfl) (fun _ q => ?_)
    obtain rfl := q.symm
    refine R_lload_n rfl rfl ?_
    refine R_ldiv rfl (by have := sc_pos (j := 18 + 1) (by omega) (by omega); exact fun e => this (by rw [e]; decide)) ?_
    refine R_ldc2 (v := 10) rfl (by decide) ?_
    refine R_l_lt rfl rfl rfl (fun h1 => ?_) (fun z => absurd sc_top z)
    rw [show exF (absL v) 18 0 = 18 from he.symm] at hx
    exact hx.weak ⟨rfl, rfl, rfl, trivial⟩
  | succ uu ih =>
    intro i he hi
    refine R_lload_n rfl rfl ?_
    refine R_cS (as := [.long v]) rfl rfl iv_M_size (sp_msize) (by omega) rfl rfl rfl rfl (Nat.le_of_ble_eq_true rfl) (fun _ q => ?_)
    obtain rfl := q.symm
    refine R_lload_n rfl rfl ?_
    refine R_ldiv rfl (by have := sc_pos (j := i + 1) (by omega) (by omega); exact fun e => this (by rw [e]; decide)) ?_
    refine R_ldc2 (v := 10) rfl (by decide) ?_
    refine R_l_lt rfl rfl rfl (fun h1 => ?_) (fun h1 => ?_)
    · rw [show exF (absL v) 18 0 = i from by rw [← he]; simp only [exF]; exact if_pos ((sc_cmp (by omega)).mp h1)] at hx
      exact hx.weak ⟨rfl, rfl, rfl, trivial⟩
    · refine R_lload_n rfl rfl ?_
      refine R_ldc2 (v := 10) rfl (by decide) ?_
      refine R_lmul rfl ?_
      refine R_lstore_n rfl (by decide) ?_
      refine R_goto rfl rfl ?_
      exact (ih (i + 1) (by rw [← he]; simp only [exF]; exact (if_neg (fun z => h1 ((sc_cmp (by omega)).mpr z))).symm) (by omega)).weak ⟨rfl, rfl, rfl, trivial⟩
