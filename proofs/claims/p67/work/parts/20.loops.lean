/-! ===== loops over numbers ===== -/
theorem remL_lt {x y : Int64} (hy : ¬ y = 0) : (remL x y).toInt.natAbs < y.toInt.natAbs := by
  rw [remL_toInt]
  have h : y.toInt ≠ 0 := fun e => hy (l_eq0.mpr e)
  have := Int.natAbs_tmod x.toInt y.toInt
  rw [this]
  exact Nat.mod_lt _ (by omega)
theorem remL_half {x y : Int64} (hy : ¬ y = 0) (h : y.toInt.natAbs ≤ x.toInt.natAbs) : 2 * (remL x y).toInt.natAbs ≤ x.toInt.natAbs := by
  have h0 : y.toInt ≠ 0 := fun e => hy (l_eq0.mpr e)
  rw [remL_toInt, Int.natAbs_tmod]
  generalize x.toInt.natAbs = a at *
  have hb : 0 < y.toInt.natAbs := by omega
  generalize y.toInt.natAbs = b at *
  have h1 := Nat.div_add_mod a b
  have h2 := Nat.mod_lt a hb
  have h3 : 1 ≤ a / b := (Nat.one_le_div_iff hb).mpr h
  have h4 : b * 1 ≤ b * (a / b) := Nat.mul_le_mul_left b h3
  omega
theorem eu_s {n : Nat} {x y : Int64} : eu (n + 1) x y = if y = 0 then x else eu n y (remL x y) := rfl
/-- in so many steps the second number is 0 -/
theorem eu_end : ∀ (n : Nat) (x y : Int64), y.toInt.natAbs ≤ x.toInt.natAbs → x.toInt.natAbs < 2 ^ n → ∀ k, 2 * n ≤ k → eu k x y = eu (2 * n) x y := by
  intro n
  induction n with
  | zero =>
    intro x y hxy hx k _
    have h0 : y = 0 := l_eq0.mpr (by omega)
    subst h0
    cases k with
    | zero => rfl
    | succ k => rfl
  | succ n ih =>
    intro x y hxy hx k hk
    obtain ⟨j, rfl⟩ : ∃ j, k = j + 2 := ⟨k - 2, by omega⟩
    show eu (j + 1 + 1) x y = eu (2 * n + 1 + 1) x y
    by_cases h0 : y = 0
    · subst h0; rfl
    · have h2 := remL_lt (x := x) h0
      have h3 := remL_half h0 hxy
      rw [eu_s (n := j + 1), eu_s (n := 2 * n + 1), if_neg h0, if_neg h0, eu_s (n := j), eu_s (n := 2 * n)]
      by_cases h1 : remL x y = 0
      · rw [if_pos h1, if_pos h1]
      · rw [if_neg h1, if_neg h1]
        have h4 := remL_lt (x := y) h1
        exact ih (remL x y) (remL y (remL x y)) (by omega) (by rw [Nat.pow_succ] at hx; omega) j (by omega)
theorem natAbs63 (x : Int64) : x.toInt.natAbs < 2 ^ 64 := by
  have h1 := Int64.toInt_lt x
  have h2 := Int64.le_toInt x
  omega
theorem eu_ends (x y : Int64) (k : Nat) (hk : 130 ≤ k) : eu k x y = eu 130 x y := by
  by_cases h0 : y = 0
  · subst h0
    obtain ⟨j, rfl⟩ : ∃ j, k = j + 1 := ⟨k - 1, by omega⟩
    rfl
  · obtain ⟨j, rfl⟩ : ∃ j, k = j + 1 := ⟨k - 1, by omega⟩
    rw [show (130 : Nat) = 129 + 1 from rfl, eu_s, eu_s, if_neg h0, if_neg h0]
    have h1 := remL_lt (x := x) h0
    rw [eu_end 64 y (remL x y) (by omega) (natAbs63 y) j (by omega), eu_end 64 y (remL x y) (by omega) (natAbs63 y) 129 (by omega)]
/-- the second number after k steps is 0 -/
def eu2 : Nat → Int64 → Int64 → Prop
  | 0, _, y => y = 0
  | n + 1, x, y => y = 0 ∨ eu2 n y (remL x y)
theorem eu2_end : ∀ (n : Nat) (x y : Int64), y.toInt.natAbs ≤ x.toInt.natAbs → x.toInt.natAbs < 2 ^ n → eu2 (2 * n) x y := by
  intro n
  induction n with
  | zero =>
    intro x y hxy hx
    exact l_eq0.mpr (by omega)
  | succ n ih =>
    intro x y hxy hx
    show eu2 (2 * n + 1 + 1) x y
    by_cases h0 : y = 0
    · exact Or.inl h0
    · refine Or.inr ?_
      have h2 := remL_lt (x := x) h0
      have h3 := remL_half h0 hxy
      by_cases h1 : remL x y = 0
      · exact Or.inl h1
      · have h4 := remL_lt (x := y) h1
        exact Or.inr (ih (remL x y) (remL y (remL x y)) (by omega) (by rw [Nat.pow_succ] at hx; omega))
theorem eu2_129 (x y : Int64) : eu2 129 x y := by
  by_cases h0 : y = 0
  · exact Or.inl h0
  · exact Or.inr (eu2_end 64 y (remL x y) (by have := remL_lt (x := x) h0; omega) (natAbs63 y))
theorem eu_0 (n : Nat) (x : Int64) : eu n x 0 = x := by
  cases n with
  | zero => rfl
  | succ n => rfl
set_option maxRecDepth 100000 in
set_option maxHeartbeats 4000000 in
theorem lp_cd {σ : am_G} {d k0 : Nat}   : ∀ (uu i : Nat) (x : Int64) (y : Int64), i + uu = 200 → am_R am_TX d k0 c_D_commonDivisor 15 [none, none, none, none, some (.long x), none, some (.long y), none, some (.int (nI i)), none, none] [] (mm σ) (am_Ok (some (.long (eu uu x y))) (fun σ1 => σ1 = σ)) := by
  intro uu
  induction uu with
  | zero =>
    intro i x y hi
    obtain rfl : 200 = i := by omega
    refine R_iload rfl rfl ?_
    refine R_sipush (v := 200) rfl (by decide) ?_
    refine R_nicmp_ge (x := 200) (y := 200) rfl rfl (by omega) (by omega) (fun h1 => ?_) (fun z => by omega)
    refine R_lload rfl rfl ?_
    exact T_lreturn rfl rfl (am_okl (by first | rfl | (rw [h2]; exact (eu_0 _ _).symm) | (rw [Classical.not_not.mp h2]; exact (eu_0 _ _).symm)) rfl)
  | succ uu ih =>
    intro i x y hi
    refine R_iload rfl rfl ?_
    refine R_sipush (v := 200) rfl (by decide) ?_
    refine R_nicmp_ge (x := i) (y := 200) rfl rfl (by omega) (by omega) (fun z => by omega) (fun h1 => ?_)
    refine R_lload rfl rfl ?_
    refine R_lconst (v := 0) rfl rfl ?_
    refine R_l_eq rfl rfl rfl (fun h2 => ?_) (fun h2 => ?_)
    · refine R_lload rfl rfl ?_
      exact T_lreturn rfl rfl (am_okl (by first | rfl | (rw [h2]; exact (eu_0 _ _).symm) | (rw [Classical.not_not.mp h2]; exact (eu_0 _ _).symm)) rfl)
    · refine R_lload rfl rfl ?_
      refine R_lload rfl rfl ?_
      refine R_lrem rfl h2 ?_
      refine R_lstore rfl (by decide) ?_
      refine R_lload rfl rfl ?_
      refine R_lstore rfl (by decide) ?_
      refine R_lload rfl rfl ?_
      refine R_lstore rfl (by decide) ?_
      refine R_iincN (x := i) (m := 1) rfl rfl rfl (by decide) ?_
      refine R_goto rfl rfl ?_
      have e : eu (uu + 1) x y = eu uu y (x - x / y * y) := by rw [eu_s, if_neg h2]; rfl
      rw [e]
      exact (ih (i + 1) y (x - x / y * y) (by omega)).weak ⟨rfl, rfl, rfl, trivial⟩
set_option maxRecDepth 100000 in
set_option maxHeartbeats 4000000 in
theorem sp_cd {σ : am_G} {a b : Int64} : am_Call am_TX 1 0 c_D_commonDivisor [.long a, .long b] (mm σ) (am_Ok (some (.long (cdL a b))) (fun σ1 => σ1 = σ)) := by
  refine ⟨mf_D_commonDivisor, Nat.le_of_ble_eq_true rfl, ?_⟩
  refine R_lload_n rfl rfl ?_
  refine R_cS (as := [.long a]) rfl rfl iv_JMath_abs (sp_abs) (by decide) rfl rfl rfl rfl (Nat.le_of_ble_eq_true rfl) (fun _ q => ?_)
  obtain rfl := q.symm
  refine R_lstore rfl (by decide) ?_
  refine R_lload_n rfl rfl ?_
  refine R_cS (as := [.long b]) rfl rfl iv_JMath_abs (sp_abs) (by decide) rfl rfl rfl rfl (Nat.le_of_ble_eq_true rfl) (fun _ q => ?_)
  obtain rfl := q.symm
  refine R_lstore rfl (by decide) ?_
  refine R_iconst (v := 0) rfl rfl ?_
  refine R_istore rfl (by decide) ?_
  exact (lp_cd 200 0 (absL a) (absL b) rfl).weak ⟨rfl, rfl, rfl, trivial⟩
theorem eu_step : ∀ (n : Nat) (x y : Int64), eu2 n x y → eu (n + 1) x y = eu n x y := by
  intro n
  induction n with
  | zero => intro x y h; have h0 : y = 0 := h; subst h0; rfl
  | succ n ih =>
    intro x y h
    by_cases h0 : y = 0
    · subst h0; rfl
    · show (if y = 0 then x else eu (n + 1) y (remL x y)) = (if y = 0 then x else eu n y (remL x y))
      rw [if_neg h0, if_neg h0]
      exact ih _ _ (h.resolve_left h0)
theorem eu_x (x y : Int64) : eu 130 x y = eu 129 x y := eu_step 129 x y (eu2_129 x y)
/-- whether a number from 2 to 97 is a prime: no factor from d on -/
def prF (n d : Nat) : Prop := ∀ e, d ≤ e → e ≤ 9 → e * e ≤ n → n % e ≠ 0
theorem prF_big {n d : Nat} (h : n < d * d) : prF n d := fun e h1 _ h3 => absurd (Nat.le_trans (Nat.mul_le_mul h1 h1) h3) (by omega)
theorem prF_s {n d : Nat} (h : n % d ≠ 0) : prF n d ↔ prF n (d + 1) :=
  ⟨fun p e h1 h2 h3 => p e (by omega) h2 h3, fun p e h1 h2 h3 => if q : e = d then q ▸ h else p e (by omega) h2 h3⟩
/-- the primes from 2 to 97 -/
def prL : List Nat := [2, 3, 5, 7, 11, 13, 17, 19, 23, 29, 31, 37, 41, 43, 47, 53, 59, 61, 67, 71, 73, 79, 83, 89, 97]
theorem prF_2 {n : Nat} (h2 : 2 ≤ n) (hn : n ≤ 97) : prF n 2 ↔ n ∈ prL := by
  have key : ∀ n : Nat, n < 98 → (2 ≤ n → ((∀ e : Nat, e < 10 → (¬ 2 ≤ e ∨ ¬ e * e ≤ n ∨ ¬ n % e = 0)) ↔ n ∈ prL)) := by decide +kernel
  refine ⟨fun p => (key n (by omega) h2).mp (fun e b => ?_), fun p e a b c => ?_⟩
  · by_cases h1 : 2 ≤ e
    · by_cases h3 : e * e ≤ n
      · exact Or.inr (Or.inr (p e h1 (by omega) h3))
      · exact Or.inr (Or.inl h3)
    · exact Or.inl h1
  · rcases (key n (by omega) h2).mpr p e (by omega) with h | h | h
    · exact absurd a h
    · exact absurd c h
    · exact h
set_option maxRecDepth 100000 in
set_option maxHeartbeats 4000000 in
theorem lp_prime {σ : am_G} {n : Nat} {d k0 : Nat} (h2 : 2 ≤ n) (hn : n ≤ 97)  : ∀ (uu i : Nat) (τ : am_G), i + uu = 10 → (τ = σ ∧ 2 ≤ i ∧ (prF n i ↔ n ∈ prL)) → am_R am_TX d k0 c_D_isPrime 2 [some (.int (nI n)), some (.int (nI i))] [] (mm τ) (am_Ok (some (.int (zP (n ∈ prL)))) (fun σ1 => σ1 = σ)) := by
  intro uu
  induction uu with
  | zero =>
    intro i τ hi hI
    obtain rfl : 10 = i := by omega
    have h2i := hI.2.1
    refine R_iload_n rfl rfl ?_
    refine R_iload_n rfl rfl ?_
    refine R_imulN (x := 10) (y := 10) rfl ?_
    refine R_iload_n rfl rfl ?_
    refine R_nicmp_gt (x := (10 * 10)) (y := n) rfl rfl (by omega) (by omega) (fun h1 => ?_) (fun z => by omega)
    refine R_iconst (v := 1) rfl rfl ?_
    exact T_zreturn rfl rfl rfl (am_oki ((zP_t (hI.2.2.mp (prF_big (by omega)))).symm) hI.1)
  | succ uu ih =>
    intro i τ hi hI
    have h2i := hI.2.1
    have hq : i * i ≤ 100 := Nat.le_trans (Nat.mul_le_mul (show i ≤ 10 by omega) (show i ≤ 10 by omega)) (by omega)
    have hm := Nat.mod_le n i
    refine R_iload_n rfl rfl ?_
    refine R_iload_n rfl rfl ?_
    refine R_imulN (x := i) (y := i) rfl ?_
    refine R_iload_n rfl rfl ?_
    refine R_nicmp_gt (x := (i * i)) (y := n) rfl rfl (by omega) (by omega) (fun h1 => ?_) (fun h1 => ?_)
    · refine R_iconst (v := 1) rfl rfl ?_
      exact T_zreturn rfl rfl rfl (am_oki ((zP_t (hI.2.2.mp (prF_big (by omega)))).symm) hI.1)
    · refine R_iload_n rfl rfl ?_
      refine R_bipush (v := 97) rfl (by decide) ?_
      refine R_nicmp_ge (x := i) (y := 97) rfl rfl (by omega) (by omega) (fun z => by omega) (fun h2 => ?_)
      refine R_iload_n rfl rfl ?_
      refine R_iload_n rfl rfl ?_
      refine R_iremN (x := n) (y := i) rfl (by omega) (by omega) (by omega) ?_
      refine R_nif_ne (x := (n % i)) rfl rfl (by omega) (fun h3 => ?_) (fun h3 => ?_)
      · refine R_iincN (x := i) (m := 1) rfl rfl rfl (by decide) ?_
        refine R_goto rfl rfl ?_
        refine (ih (i + 1) τ (by omega) ?_).weak ⟨rfl, rfl, trivial⟩
        exact ⟨hI.1, by omega, (prF_s (by omega)).symm.trans hI.2.2⟩
      · refine R_iconst (v := 0) rfl rfl ?_
        exact T_zreturn rfl rfl rfl (am_oki ((zP_f (fun q => absurd (hI.2.2.mpr q i (Nat.le_refl i) (by omega) (by omega)) (fun z => z (by omega)))).symm) hI.1)
set_option maxRecDepth 100000 in
set_option maxHeartbeats 4000000 in
theorem sp_prime {σ : am_G} {n : Nat} (h2 : 2 ≤ n) (hn : n ≤ 97) : am_Call am_TX 0 0 c_D_isPrime [.int (nI n)] (mm σ) (am_Ok (some (.int (zP (n ∈ prL)))) (fun σ1 => σ1 = σ)) := by
  refine ⟨mf_D_isPrime, Nat.le_of_ble_eq_true rfl, ?_⟩
  refine R_iconst (v := 2) rfl rfl ?_
  refine R_istore_n rfl (by decide) ?_
  exact (lp_prime h2 hn 8 2 σ rfl ⟨rfl, by omega, prF_2 h2 hn⟩).weak ⟨rfl, rfl, trivial⟩
