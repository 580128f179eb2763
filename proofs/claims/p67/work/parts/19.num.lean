/-! ===== numbers ===== -/
theorem i32_rem {x y : Nat} (hx : x < 2 ^ 31) (hy : y < 2 ^ 31) : nI x - nI x / nI y * nI y = nI (x % y) := by
  have hX := nI_toInt hx
  have hY := nI_toInt hy
  have hR := nI_toInt (show x % y < 2 ^ 31 by have := Nat.mod_le x y; omega)
  have h1 : (x / y) * y + x % y = x := by rw [Nat.mul_comm]; exact Nat.div_add_mod x y
  have h2 : x / y ≤ x := Nat.div_le_self x y
  have h0 : (x : Int).tdiv (y : Int) = ((x / y : Nat) : Int) := rfl
  have e2 : ((x / y : Nat) : Int) * (y : Int) = (((x / y) * y : Nat) : Int) := (Int.natCast_mul _ _).symm
  apply Int32.toInt_inj.1
  rw [Int32.toInt_sub, Int32.toInt_mul, Int32.toInt_div, hX, hY, hR, h0]
  generalize hq : x / y = q at *
  generalize hp : q * y = p at *
  generalize x % y = r at *
  have e1 : ((q : Nat) : Int).bmod (2 ^ 32) = ((q : Nat) : Int) := by rw [Int.bmod_eq_of_le] <;> omega
  rw [e1, e2]
  have e3 : ((p : Nat) : Int).bmod (2 ^ 32) = ((p : Nat) : Int) := by rw [Int.bmod_eq_of_le] <;> omega
  have h4 : (x : Int) - (p : Int) = (r : Int) := by clear e3 e1 e2 h0 hX hY hR; omega
  have h5 : r ≤ x := by clear e3 e1 e2 h0 hX hY hR; omega
  rw [e3, h4]
  clear e3 e1 e2 h0 hX hY hR h4 h1
  exact Int.bmod_eq_of_le (by omega) (by omega)
theorem nI_ne00 {y : Nat} (h0 : 0 < y) (hy : y < 2 ^ 31) : ¬ nI y = 0 := fun e => by
  have := nI_toInt hy
  rw [e] at this
  have h : (0 : Int32).toInt = 0 := rfl
  omega
section AMD
variable {Tx : am_Tx} {d k : Nat} {c : am_C} {pc a b : Nat} {ls : List (Option Value)} {st : List Value} {μ : am_M} {Q : am_Res → Prop} {x y : Nat}
theorem R_iremN (hc : c.2 pc = some (.irem, 1, a, b)) (h0 : 0 < y) (hx : x < 2 ^ 31) (hy : y < 2 ^ 31) (h : am_R Tx d k c (pc + 1) ls (.int (nI (x % y)) :: st) μ Q) : am_R Tx d k c pc ls (.int (nI y) :: .int (nI x) :: st) μ Q :=
  R_irem hc (nI_ne00 h0 hy) (by rw [i32_rem hx hy]; exact h)
end AMD
def absL (x : Int64) : Int64 := if x < 0 then -x else x
/-- what is left of a division -/
def remL (x y : Int64) : Int64 := x - x / y * y
theorem remL_toInt {x y : Int64} : (remL x y).toInt = x.toInt.tmod y.toInt := by
  unfold remL
  have h1 : (x - x / y * y).toInt = (x % y).toInt := by
    rw [Int64.toInt_mod, Int64.toInt_sub, Int64.toInt_mul, Int64.toInt_div]
    have h2 := Int.tmod_add_mul_tdiv x.toInt y.toInt
    have h3 : (x.toInt - ((x.toInt.tdiv y.toInt).bmod (2 ^ 64) * y.toInt).bmod (2 ^ 64)).bmod (2 ^ 64) = (x.toInt.tmod y.toInt).bmod (2 ^ 64) := by
      rw [Int.bmod_mul_bmod, Int.sub_bmod_bmod]
      congr 1
      rw [Int.mul_comm]; omega
    rw [h3]
    have h4 := Int64.toInt_lt (x % y)
    have h5 := Int64.le_toInt (x % y)
    rw [Int64.toInt_mod] at h4 h5
    rw [Int.bmod_eq_of_le] <;> omega
  rw [h1, Int64.toInt_mod]
/-- modulo y, from 0 on -/
def fmL (v y : Int64) : Int64 := if remL v y < 0 then remL v y + y else remL v y
theorem l_lt {x y : Int64} : x < y ↔ x.toInt < y.toInt := Int64.lt_iff_toInt_lt
theorem l_le {x y : Int64} : x ≤ y ↔ x.toInt ≤ y.toInt := Int64.le_iff_toInt_le
theorem l0 : (0 : Int64).toInt = 0 := rfl
theorem l_eq {x y : Int64} : x = y ↔ x.toInt = y.toInt := Int64.toInt_inj.symm
theorem l_eq0 {x : Int64} : x = 0 ↔ x.toInt = 0 := l_eq
theorem l_xor0 {x y : Int64} (hy : ¬ y < 0) : x ^^^ y < 0 ↔ x < 0 := by
  have hm : ∀ z : Int64, z < 0 ↔ z.toBitVec.msb = true := by
    intro z
    rw [l_lt, l0]
    show z.toBitVec.toInt < 0 ↔ _
    rw [BitVec.msb_eq_toInt, decide_eq_true_iff]
  rw [hm] at hy
  rw [hm, hm, Int64.toBitVec_xor, BitVec.msb_xor]
  simp [hy]
theorem fmL_toInt {v y : Int64} (hy : 0 < y.toInt) : (fmL v y).toInt = v.toInt % y.toInt := by
  have h1 := @remL_toInt v y
  have h2 : v.toInt.tmod y.toInt = if v.toInt % y.toInt = 0 ∨ 0 ≤ v.toInt then v.toInt % y.toInt else v.toInt % y.toInt - y.toInt := by
    rw [Int.tmod_eq_emod]
    by_cases h0 : 0 ≤ v.toInt
    · rw [if_pos (Or.inl h0), if_pos (Or.inr h0)]; omega
    · by_cases h3 : v.toInt % y.toInt = 0
      · rw [if_pos (Or.inr (Int.dvd_of_emod_eq_zero h3)), if_pos (Or.inl h3)]; omega
      · rw [if_neg (by rintro (h | h); exact h0 h; exact h3 (Int.emod_eq_zero_of_dvd h)), if_neg (by rintro (h | h); exact h3 h; exact h0 h), Int.natAbs_of_nonneg (by omega)]
  have h3 := Int.emod_nonneg v.toInt (show y.toInt ≠ 0 by omega)
  have h4 := Int.emod_lt_of_pos v.toInt hy
  have h5 := Int64.toInt_lt y
  unfold fmL
  by_cases h : remL v y < 0
  · rw [if_pos h]
    rw [l_lt, l0, h1, h2] at h
    rw [Int64.toInt_add, h1, h2]
    by_cases hc : v.toInt % y.toInt = 0 ∨ 0 ≤ v.toInt
    · rw [if_pos hc] at h; omega
    · rw [if_neg hc, Int.bmod_eq_of_le] <;> omega
  · rw [if_neg h]
    rw [l_lt, l0, h1, h2] at h
    rw [h1, h2]
    by_cases hc : v.toInt % y.toInt = 0 ∨ 0 ≤ v.toInt
    · rw [if_pos hc]
    · rw [if_neg hc] at h ⊢; omega
theorem remL_neg {v y : Int64} (hv : ¬ v < 0) : ¬ remL v y < 0 := by
  rw [l_lt, l0] at hv ⊢
  rw [remL_toInt]
  have := Int.tmod_nonneg (b := y.toInt) (show 0 ≤ v.toInt by omega)
  omega
theorem remL_pos {v y : Int64} (hv : v < 0) (h : ¬ remL v y = 0) : remL v y < 0 := by
  rw [l_lt, l0] at hv ⊢
  rw [l_eq0] at h
  rw [remL_toInt] at h ⊢
  have h1 := Int.neg_tmod v.toInt y.toInt
  have h2 := Int.tmod_nonneg (a := - v.toInt) (b := y.toInt) (by omega)
  omega
/-- modulo n; 0 stands for the integers -/
def rdL (n : Nat) (v : Int64) : Int64 := if n = 0 then v else fmL v (nI n).toInt64
theorem nI_64 {n : Nat} (h : n < 2 ^ 31) : (nI n).toInt64.toInt = n := by
  rw [Int32.toInt_toInt64, nI_toInt h]
def eu : Nat → Int64 → Int64 → Int64
  | 0, x, _ => x
  | n + 1, x, y => if y = 0 then x else eu n y (remL x y)
/-- the greatest common divisor, as both systems reckon it -/
def cdL (a b : Int64) : Int64 := eu 200 (absL a) (absL b)
def qtL (v y : Int64) : Int64 := if y = 0 then 0 else v / y
/-- the number of a set's members -/
def pc (s : Nat) : Nat := (s % 2) + (s / 2 % 2) + (s / 4 % 2) + (s / 8 % 2) + (s / 16 % 2) + (s / 32 % 2)

set_option maxRecDepth 100000 in
set_option maxHeartbeats 4000000 in
theorem sp_abs {σ : am_G} {x : Int64} : am_Call am_TX 0 0 c_JMath_abs [.long x] (mm σ) (am_Ok (some (.long (absL x))) (fun σ1 => σ1 = σ)) := by
  refine ⟨mf_JMath_abs, Nat.le_of_ble_eq_true rfl, ?_⟩
  refine R_lload_n rfl rfl ?_
  refine R_lconst (v := 0) rfl rfl ?_
  refine R_l_ge rfl rfl rfl (fun h1 => ?_) (fun h1 => ?_)
  · refine R_lload_n rfl rfl ?_
    exact T_lreturn rfl rfl (am_okl (by unfold absL; rw [if_neg (by simp only [l_lt, l_le] at *; omega)]) rfl)
  · refine R_lload_n rfl rfl ?_
    refine R_lneg rfl ?_
    refine R_goto rfl rfl ?_
    exact T_lreturn rfl rfl (am_okl (by unfold absL; rw [if_pos (by first | exact h1 | exact Int64.not_le.mp h1 | (simp only [l_lt, l_le] at *; omega))]) rfl)
set_option maxRecDepth 100000 in
set_option maxHeartbeats 4000000 in
theorem sp_floorMod {σ : am_G} {v y : Int64} (hy : 0 < y) : am_Call am_TX 0 0 c_JMath_floorMod [.long v, .long y] (mm σ) (am_Ok (some (.long (fmL v y))) (fun σ1 => σ1 = σ)) := by
  have hy0 : ¬ y < 0 := by rw [l_lt, l0] at *; omega
  have hyn : ¬ y = 0 := by rw [l_lt, l0] at hy; rw [l_eq0]; omega
  refine ⟨mf_JMath_floorMod, Nat.le_of_ble_eq_true rfl, ?_⟩
  refine R_lload_n rfl rfl ?_
  refine R_lload_n rfl rfl ?_
  refine R_lrem rfl hyn ?_
  refine R_lstore rfl (by decide) ?_
  refine R_lload_n rfl rfl ?_
  refine R_lload_n rfl rfl ?_
  refine R_lxor rfl ?_
  refine R_lconst (v := 0) rfl rfl ?_
  refine R_l_ge rfl rfl rfl (fun h1 => ?_) (fun h1 => ?_)
  · refine R_lload rfl rfl ?_
    exact T_lreturn rfl rfl (am_okl (by show _ = fmL v y; unfold fmL; rw [if_neg (remL_neg (fun z => absurd ((l_xor0 hy0).mpr z) (by first | assumption | exact Int64.not_lt.mpr h1 | (simp only [l_lt, l_le] at *; omega))))]; rfl) rfl)
  · refine R_lload rfl rfl ?_
    refine R_lconst (v := 0) rfl rfl ?_
    refine R_l_eq rfl rfl rfl (fun h2 => ?_) (fun h2 => ?_)
    · refine R_lload rfl rfl ?_
      exact T_lreturn rfl rfl (am_okl (by show _ = fmL v y; unfold fmL; rw [if_neg (by show ¬ (v - v / y * y) < 0; rw [h2]; decide)]; rfl) rfl)
    · refine R_lload rfl rfl ?_
      refine R_lload_n rfl rfl ?_
      refine R_ladd rfl ?_
      exact T_lreturn rfl rfl (am_okl (by show _ = fmL v y; unfold fmL; rw [if_pos (remL_pos ((l_xor0 hy0).mp (by first | assumption | exact Int64.not_le.mp h1 | (simp only [l_lt, l_le] at *; omega))) (by assumption))]; rfl) rfl)
/-- a member more, a member less -/
def wi (s k : Nat) : Nat := if s.testBit k then s else s + 2 ^ k
def wo (s k : Nat) : Nat := if s.testBit k then s - 2 ^ k else s
theorem set_raw : ∀ s : Nat, s < 64 → ∀ k : Nat, k < 6 → (nI s >>> (nI k &&& 31) &&& 1 = zP (s.testBit k = true)) ∧ (nI s ||| nI (2 ^ k) = nI (wi s k)) ∧ (nI s &&& (nI (2 ^ k) ^^^ (-1)) = nI (wo s k)) ∧ wi s k < 64 ∧ wo s k < 64 ∧ ((nI s >>> (nI k &&& 31)) >>> ((1 : Int32) &&& 31) = nI (s / 2 ^ (k + 1))) := by decide +kernel
theorem wi_lt {s k : Nat} (hs : s < 64) (hk : k < 6) : wi s k < 64 := (set_raw s hs k hk).2.2.2.1
theorem wo_lt {s k : Nat} (hs : s < 64) (hk : k < 6) : wo s k < 64 := (set_raw s hs k hk).2.2.2.2.1
theorem lw_lt {h : Nat} (hh : h ≤ 6) : 2 ^ h - 1 < 64 := by
  have key : ∀ h, h ≤ 6 → 2 ^ h - 1 < 64 := by decide
  exact key h hh
theorem pc_le {s : Nat} : pc s ≤ 6 := by unfold pc; omega
section AMS
variable {Tx : am_Tx} {d k : Nat} {c : am_C} {pc a b : Nat} {ls : List (Option Value)} {st : List Value} {μ : am_M} {Q : am_Res → Prop} {x y s : Nat}
theorem R_iorB (hc : c.2 pc = some (.ior, 1, a, b)) (hs : s < 64) (hy : y < 6) (h : am_R Tx d k c (pc + 1) ls (.int (nI (wi s y)) :: st) μ Q) : am_R Tx d k c pc ls (.int (nI (2 ^ y)) :: .int (nI s) :: st) μ Q :=
  R_ior hc (by rw [(set_raw s hs y hy).2.1]; exact h)
theorem R_iandB (hc : c.2 pc = some (.iand, 1, a, b)) (hs : s < 64) (hy : y < 6) (h : am_R Tx d k c (pc + 1) ls (.int (nI (wo s y)) :: st) μ Q) : am_R Tx d k c pc ls (.int (nI (2 ^ y) ^^^ (-1)) :: .int (nI s) :: st) μ Q :=
  R_iand hc (by rw [(set_raw s hs y hy).2.2.1]; exact h)
end AMS
theorem zP_ne {p : Prop} [Decidable p] (h : ¬ zP p = 0) : p := by
  by_cases hp : p
  · exact hp
  · exact absurd (zP_f hp) h
theorem zP_0 {p : Prop} [Decidable p] (h : zP p = 0) : ¬ p := fun hp => by rw [zP_t hp] at h; exact absurd h (by decide)
set_option maxRecDepth 100000 in
set_option maxHeartbeats 4000000 in
theorem sp_has {σ : am_G} {s k : Nat} (hs : s < 64) (hk : k < 6) : am_Call am_TX 0 0 c_D_has [.int (nI s), .int (nI k)] (mm σ) (am_Ok (some (.int (zP (s.testBit k = true)))) (fun σ1 => σ1 = σ)) := by
  refine ⟨mf_D_has, Nat.le_of_ble_eq_true rfl, ?_⟩
  refine R_iload_n rfl rfl ?_
  refine R_iload_n rfl rfl ?_
  refine R_ishr rfl ?_
  refine R_iconst (v := 1) rfl rfl ?_
  refine R_iand rfl ?_
  refine R_if_eq rfl rfl (fun h1 => ?_) (fun h1 => ?_)
  · refine R_iconst (v := 0) rfl rfl ?_
    exact T_zreturn rfl rfl rfl (am_oki (by rw [(set_raw s hs k hk).1] at h1; exact (zP_f (zP_0 h1)).symm) rfl)
  · refine R_iconst (v := 1) rfl rfl ?_
    refine R_goto rfl rfl ?_
    exact T_zreturn rfl rfl rfl (am_oki (by rw [(set_raw s hs k hk).1] at h1; exact (zP_t (zP_ne h1)).symm) rfl)
set_option maxRecDepth 100000 in
set_option maxHeartbeats 4000000 in
theorem sp_without {σ : am_G} {s k : Nat} (hs : s < 64) (hk : k < 6) : am_Call am_TX 0 0 c_D_without [.int (nI s), .int (nI k)] (mm σ) (am_Ok (some (.int (nI (wo s k)))) (fun σ1 => σ1 = σ)) := by
  refine ⟨mf_D_without, Nat.le_of_ble_eq_true rfl, ?_⟩
  refine R_iload_n rfl rfl ?_
  refine R_iconst (v := 1) rfl rfl ?_
  refine R_iload_n rfl rfl ?_
  refine R_shl1N (y := k) rfl (by omega) ?_
  refine R_iconst (v := -1) rfl rfl ?_
  refine R_ixor rfl ?_
  refine R_iandB (s := s) (y := k) rfl (by first | assumption | omega) (by omega) ?_
  exact T_ireturn rfl rfl (am_oki (rfl) rfl)
theorem bit_raw : ∀ s : Nat, s < 64 → (((((((((nI s) - ((((nI s).toUInt32 >>> ((1 : Int32).toUInt32 &&& Int32.toUInt32 31)).toInt32) &&& 1431655765)) &&& 858993459) + (((((nI s) - ((((nI s).toUInt32 >>> ((1 : Int32).toUInt32 &&& Int32.toUInt32 31)).toInt32) &&& 1431655765)).toUInt32 >>> ((2 : Int32).toUInt32 &&& Int32.toUInt32 31)).toInt32) &&& 858993459)) + ((((((nI s) - ((((nI s).toUInt32 >>> ((1 : Int32).toUInt32 &&& Int32.toUInt32 31)).toInt32) &&& 1431655765)) &&& 858993459) + (((((nI s) - ((((nI s).toUInt32 >>> ((1 : Int32).toUInt32 &&& Int32.toUInt32 31)).toInt32) &&& 1431655765)).toUInt32 >>> ((2 : Int32).toUInt32 &&& Int32.toUInt32 31)).toInt32) &&& 858993459)).toUInt32 >>> ((4 : Int32).toUInt32 &&& Int32.toUInt32 31)).toInt32)) &&& 252645135) + ((((((((nI s) - ((((nI s).toUInt32 >>> ((1 : Int32).toUInt32 &&& Int32.toUInt32 31)).toInt32) &&& 1431655765)) &&& 858993459) + (((((nI s) - ((((nI s).toUInt32 >>> ((1 : Int32).toUInt32 &&& Int32.toUInt32 31)).toInt32) &&& 1431655765)).toUInt32 >>> ((2 : Int32).toUInt32 &&& Int32.toUInt32 31)).toInt32) &&& 858993459)) + ((((((nI s) - ((((nI s).toUInt32 >>> ((1 : Int32).toUInt32 &&& Int32.toUInt32 31)).toInt32) &&& 1431655765)) &&& 858993459) + (((((nI s) - ((((nI s).toUInt32 >>> ((1 : Int32).toUInt32 &&& Int32.toUInt32 31)).toInt32) &&& 1431655765)).toUInt32 >>> ((2 : Int32).toUInt32 &&& Int32.toUInt32 31)).toInt32) &&& 858993459)).toUInt32 >>> ((4 : Int32).toUInt32 &&& Int32.toUInt32 31)).toInt32)) &&& 252645135).toUInt32 >>> ((8 : Int32).toUInt32 &&& Int32.toUInt32 31)).toInt32)) + (((((((((nI s) - ((((nI s).toUInt32 >>> ((1 : Int32).toUInt32 &&& Int32.toUInt32 31)).toInt32) &&& 1431655765)) &&& 858993459) + (((((nI s) - ((((nI s).toUInt32 >>> ((1 : Int32).toUInt32 &&& Int32.toUInt32 31)).toInt32) &&& 1431655765)).toUInt32 >>> ((2 : Int32).toUInt32 &&& Int32.toUInt32 31)).toInt32) &&& 858993459)) + ((((((nI s) - ((((nI s).toUInt32 >>> ((1 : Int32).toUInt32 &&& Int32.toUInt32 31)).toInt32) &&& 1431655765)) &&& 858993459) + (((((nI s) - ((((nI s).toUInt32 >>> ((1 : Int32).toUInt32 &&& Int32.toUInt32 31)).toInt32) &&& 1431655765)).toUInt32 >>> ((2 : Int32).toUInt32 &&& Int32.toUInt32 31)).toInt32) &&& 858993459)).toUInt32 >>> ((4 : Int32).toUInt32 &&& Int32.toUInt32 31)).toInt32)) &&& 252645135) + ((((((((nI s) - ((((nI s).toUInt32 >>> ((1 : Int32).toUInt32 &&& Int32.toUInt32 31)).toInt32) &&& 1431655765)) &&& 858993459) + (((((nI s) - ((((nI s).toUInt32 >>> ((1 : Int32).toUInt32 &&& Int32.toUInt32 31)).toInt32) &&& 1431655765)).toUInt32 >>> ((2 : Int32).toUInt32 &&& Int32.toUInt32 31)).toInt32) &&& 858993459)) + ((((((nI s) - ((((nI s).toUInt32 >>> ((1 : Int32).toUInt32 &&& Int32.toUInt32 31)).toInt32) &&& 1431655765)) &&& 858993459) + (((((nI s) - ((((nI s).toUInt32 >>> ((1 : Int32).toUInt32 &&& Int32.toUInt32 31)).toInt32) &&& 1431655765)).toUInt32 >>> ((2 : Int32).toUInt32 &&& Int32.toUInt32 31)).toInt32) &&& 858993459)).toUInt32 >>> ((4 : Int32).toUInt32 &&& Int32.toUInt32 31)).toInt32)) &&& 252645135).toUInt32 >>> ((8 : Int32).toUInt32 &&& Int32.toUInt32 31)).toInt32)).toUInt32 >>> ((16 : Int32).toUInt32 &&& Int32.toUInt32 31)).toInt32)) &&& 63) = nI (pc s) := by decide +kernel
set_option maxRecDepth 100000 in
set_option maxHeartbeats 4000000 in
theorem sp_bitCount {σ : am_G} {s : Nat} (hs : s < 64) : am_Call am_TX 0 0 c_JInteger_bitCount [.int (nI s)] (mm σ) (am_Ok (some (.int (nI (pc s)))) (fun σ1 => σ1 = σ)) := by
  refine ⟨mf_JInteger_bitCount, Nat.le_of_ble_eq_true rfl, ?_⟩
  refine R_iload_n rfl rfl ?_
  refine R_iload_n rfl rfl ?_
  refine R_iconst (v := 1) rfl rfl ?_
  refine R_iushr rfl ?_
  refine R_ldcw (b := 0) (v := 1431655765) rfl (by decide) ?_
  refine R_iand rfl ?_
  refine R_isub rfl ?_
  refine R_istore_n rfl (by decide) ?_
  refine R_iload_n rfl rfl ?_
  refine R_ldcw (b := 0) (v := 858993459) rfl (by decide) ?_
  refine R_iand rfl ?_
  refine R_iload_n rfl rfl ?_
  refine R_iconst (v := 2) rfl rfl ?_
  refine R_iushr rfl ?_
  refine R_ldcw (b := 0) (v := 858993459) rfl (by decide) ?_
  refine R_iand rfl ?_
  refine R_iadd rfl ?_
  refine R_istore_n rfl (by decide) ?_
  refine R_iload_n rfl rfl ?_
  refine R_iload_n rfl rfl ?_
  refine R_iconst (v := 4) rfl rfl ?_
  refine R_iushr rfl ?_
  refine R_iadd rfl ?_
  refine R_ldcw (b := 0) (v := 252645135) rfl (by decide) ?_
  refine R_iand rfl ?_
  refine R_istore_n rfl (by decide) ?_
  refine R_iload_n rfl rfl ?_
  refine R_iload_n rfl rfl ?_
  refine R_bipush (v := 8) rfl (by decide) ?_
  refine R_iushr rfl ?_
  refine R_iadd rfl ?_
  refine R_istore_n rfl (by decide) ?_
  refine R_iload_n rfl rfl ?_
  refine R_iload_n rfl rfl ?_
  refine R_bipush (v := 16) rfl (by decide) ?_
  refine R_iushr rfl ?_
  refine R_iadd rfl ?_
  refine R_istore_n rfl (by decide) ?_
  refine R_iload_n rfl rfl ?_
  refine R_bipush (v := 63) rfl (by decide) ?_
  refine R_iand rfl ?_
  exact T_ireturn rfl rfl (am_oki (bit_raw s hs) rfl)
set_option maxRecDepth 100000 in
set_option maxHeartbeats 4000000 in
theorem sp_signed {σ : am_G} {v : Int64} {s k : Nat} (hs : s < 64) (hk : k < 6) : am_Call am_TX 1 0 c_D_signed [.long v, .int (nI s), .int (nI k)] (mm σ) (am_Ok (some (.long (if pc (s / 2 ^ (k + 1)) % 2 = 0 then v else -v))) (fun σ1 => σ1 = σ)) := by
  have h64 : s / 2 ^ (k + 1) < 64 := Nat.lt_of_le_of_lt (Nat.div_le_self _ _) hs
  have ev : ∀ t : Nat, t ≤ 6 → (nI t &&& 1 = 0 ↔ t % 2 = 0) := by decide +kernel
  refine ⟨mf_D_signed, Nat.le_of_ble_eq_true rfl, ?_⟩
  refine R_iload_n rfl rfl ?_
  refine R_iload_n rfl rfl ?_
  refine R_ishr rfl ?_
  refine R_iconst (v := 1) rfl rfl ?_
  refine R_ishr rfl ?_
  refine R_cS (as := [.int (((nI s) >>> ((nI k) &&& 31)) >>> (1 &&& 31))]) rfl rfl iv_JInteger_bitCount ((by have := sp_bitCount (σ := σ) h64; rw [← (set_raw s hs k hk).2.2.2.2.2] at this; exact this)) (by decide) rfl rfl rfl rfl (Nat.le_of_ble_eq_true rfl) (fun _ q => ?_)
  obtain rfl := q.symm
  refine R_iconst (v := 1) rfl rfl ?_
  refine R_iand rfl ?_
  refine R_if_ne rfl rfl (fun h1 => ?_) (fun h1 => ?_)
  · refine R_lload_n rfl rfl ?_
    refine R_lneg rfl ?_
    exact T_lreturn rfl rfl (am_okl ((if_neg (fun z => h1 ((ev _ pc_le).mpr z))).symm) rfl)
  · refine R_lload_n rfl rfl ?_
    refine R_goto rfl rfl ?_
    exact T_lreturn rfl rfl (am_okl ((if_pos ((ev _ pc_le).mp (by first | assumption | exact Classical.not_not.mp h1))).symm) rfl)
set_option maxRecDepth 100000 in
set_option maxHeartbeats 4000000 in
theorem sp_quotient {σ : am_G} {v y : Int64} : am_Call am_TX 0 0 c_D_quotient [.long v, .long y] (mm σ) (am_Ok (some (.long (qtL v y))) (fun σ1 => σ1 = σ)) := by
  refine ⟨mf_D_quotient, Nat.le_of_ble_eq_true rfl, ?_⟩
  refine R_lload_n rfl rfl ?_
  refine R_lconst (v := 0) rfl rfl ?_
  refine R_l_ne rfl rfl rfl (fun h1 => ?_) (fun h1 => ?_)
  · refine R_lload_n rfl rfl ?_
    refine R_lload_n rfl rfl ?_
    refine R_ldiv rfl h1 ?_
    exact T_lreturn rfl rfl (am_okl (by unfold qtL; first | rw [if_pos h1] | rw [if_neg h1] | rw [if_pos (Classical.not_not.mp h1)]) rfl)
  · refine R_lconst (v := 0) rfl rfl ?_
    refine R_goto rfl rfl ?_
    exact T_lreturn rfl rfl (am_okl (by unfold qtL; first | rw [if_pos h1] | rw [if_neg h1] | rw [if_pos (Classical.not_not.mp h1)]) rfl)
set_option maxRecDepth 100000 in
set_option maxHeartbeats 4000000 in
theorem sp_remainder {σ : am_G} {v y : Int64} : am_Call am_TX 1 0 c_D_remainder [.long v, .long y] (mm σ) (am_Ok (some (.long (if y ≤ 0 then v else fmL v y))) (fun σ1 => σ1 = σ)) := by
  refine ⟨mf_D_remainder, Nat.le_of_ble_eq_true rfl, ?_⟩
  refine R_lload_n rfl rfl ?_
  refine R_lconst (v := 0) rfl rfl ?_
  refine R_l_gt rfl rfl rfl (fun h1 => ?_) (fun h1 => ?_)
  · refine R_lload_n rfl rfl ?_
    refine R_lload_n rfl rfl ?_
    refine R_cS (as := [.long v, .long y]) rfl rfl iv_JMath_floorMod (sp_floorMod (by first | assumption | (simp only [l_lt, l_le] at *; omega))) (by decide) rfl rfl rfl rfl (Nat.le_of_ble_eq_true rfl) (fun _ q => ?_)
    obtain rfl := q.symm
    exact T_lreturn rfl rfl (am_okl (by first | rw [if_pos (by simp only [l_lt, l_le] at *; omega)] | rw [if_neg (by simp only [l_lt, l_le] at *; omega)]) rfl)
  · refine R_lload_n rfl rfl ?_
    refine R_goto rfl rfl ?_
    exact T_lreturn rfl rfl (am_okl (by first | rw [if_pos (by simp only [l_lt, l_le] at *; omega)] | rw [if_neg (by simp only [l_lt, l_le] at *; omega)]) rfl)
theorem nI_64p {n : Nat} (h : n < 2 ^ 31) : (nI n).toInt64 ≤ 0 ↔ n = 0 := by
  rw [l_le, l0, nI_64 h]; omega
theorem sp_rem {σ : am_G} {v : Int64} {n : Nat} (hn : n < 2 ^ 31) : am_Call am_TX 1 0 c_D_remainder [.long v, .long (nI n).toInt64] (mm σ) (am_Ok (some (.long (rdL n v))) (fun σ1 => σ1 = σ)) := by
  have h := sp_remainder (σ := σ) (v := v) (y := (nI n).toInt64)
  have e : (if (nI n).toInt64 ≤ 0 then v else fmL v (nI n).toInt64) = rdL n v := by
    unfold rdL
    by_cases h0 : n = 0
    · rw [if_pos h0, if_pos ((nI_64p hn).mpr h0)]
    · rw [if_neg h0, if_neg (fun z => h0 ((nI_64p hn).mp z))]
  rw [e] at h; exact h
