/-! ===== the law's divisors ===== -/
def gD : Nat → Nat → Nat → Prop
  | 0, _, B => B = 0
  | n + 1, A, B => B = 0 ∨ gD n B (A % B)
theorem gD_of : ∀ n A B, B ≤ A → A * B < 2 ^ n → gD n A B
  | 0, A, B, h1, h2 => by
    show B = 0
    have h3 : B * B ≤ A * B := Nat.mul_le_mul_right B h1
    refine Decidable.byContradiction fun z => ?_
    have : 1 * 1 ≤ B * B := Nat.mul_le_mul (by omega) (by omega)
    omega
  | n + 1, A, B, h1, h2 => by
    by_cases h0 : B = 0
    · exact Or.inl h0
    · refine Or.inr (gD_of n B (A % B) (Nat.le_of_lt (Nat.mod_lt _ (by omega))) ?_)
      have h3 := Nat.mod_lt A (show B > 0 by omega)
      have h4 := Nat.div_add_mod A B
      have h5 : 1 ≤ A / B := Nat.div_pos h1 (by omega)
      have h6 : B * 1 ≤ B * (A / B) := Nat.mul_le_mul_left B h5
      have h7 : (A % B + A % B) * B ≤ A * B := Nat.mul_le_mul_right B (by omega)
      rw [Nat.add_mul] at h7
      rw [Nat.pow_succ] at h2
      have h8 : B * (A % B) = A % B * B := Nat.mul_comm _ _
      omega
theorem gD_all {A B : Nat} (hA : A ≤ 46080000000) (hB : B ≤ 46080000000) : gD 73 A B := by
  have h1 : A * B ≤ 46080000000 * 46080000000 := Nat.mul_le_mul hA hB
  have h2 : B * A ≤ 46080000000 * 46080000000 := Nat.mul_le_mul hB hA
  by_cases h : B ≤ A
  · exact gD_of 73 A B h (Nat.lt_of_le_of_lt h1 (by decide))
  · refine Or.inr ?_
    rw [Nat.mod_eq_of_lt (by omega)]
    exact gD_of 72 B A (by omega) (Nat.lt_of_le_of_lt h2 (by decide))
theorem mB_rem {a b : Int64} (ha : mB a) : mB (remL a b) := by
  show (remL a b).toInt.natAbs ≤ _
  rw [remL_toInt, Int.natAbs_tmod]
  exact Nat.le_trans (Nat.mod_le _ _) ha
theorem cd_rem {a b : Int64} (ha : mB a) (hb : mB b) : cdL b (remL a b) = cdL a b := by
  rw [l_eq, cdL_t hb (mB_rem ha), cdL_t ha hb, remL_toInt, Int.natAbs_tmod]
  generalize a.toInt.natAbs = X
  generalize b.toInt.natAbs = Y
  rw [Nat.gcd_comm X Y, Nat.gcd_rec Y X, Nat.gcd_comm]
theorem cd_0 {a : Int64} (ha : mB a) : cdL a 0 = absL a := by
  rw [l_eq, cdL_t ha mB_0, absL_t ha, l0, Int.natAbs_zero, Nat.gcd_zero_right]
theorem cd_z {a b : Int64} (ha : mB a) (hb : mB b) : cdL a b = 0 ↔ a = 0 ∧ b = 0 := by
  rw [l_eq0, cdL_t ha hb, l_eq0, l_eq0]
  constructor
  · intro h
    have h1 : Nat.gcd a.toInt.natAbs b.toInt.natAbs = 0 := by omega
    have h2 := Nat.gcd_eq_zero_iff.mp h1
    omega
  · rintro ⟨h1, h2⟩
    rw [h1, h2]
    rfl
theorem pl_common {μ : am_M} : ∀ (n : Nat) (a b : Int64), mB a → mB b → gD n a.toInt.natAbs b.toInt.natAbs → am_Call am_TX (n + 1) 0 c_L_common [.long a, .long b] μ (am_Pu (some (.long (cdL a b))) μ) := by
  have zero : ∀ (n : Nat) (a b : Int64), mB a → b = 0 → am_Call am_TX (n + 1) 0 c_L_common [.long a, .long b] μ (am_Pu (some (.long (cdL a b))) μ) := by
    intro n a b ha hb
    refine ⟨mf_L_common, Nat.le_of_ble_eq_true rfl, ?_⟩
    refine R_lload_n rfl rfl ?_
    refine R_lconst (v := 0) rfl rfl ?_
    refine R_l_ne rfl rfl rfl (fun z => absurd hb z) (fun _ => ?_)
    refine R_lload_n rfl rfl ?_
    refine R_pS (as := [.long a]) rfl rfl iv_JMath_abs pu_abs (by omega) rfl rfl rfl rfl (Nat.le_of_ble_eq_true rfl) ?_
    refine R_goto rfl rfl ?_
    refine T_lreturn rfl rfl (am_pul ?_)
    rw [hb, cd_0 ha]
  intro n
  induction n with
  | zero =>
    intro a b ha hb hg
    have hg : b.toInt.natAbs = 0 := hg
    exact zero 0 a b ha (l_eq0.mpr (by omega))
  | succ n ih =>
    intro a b ha hb hg
    by_cases h0 : b = 0
    · exact zero (n + 1) a b ha h0
    · have hg2 : gD n b.toInt.natAbs (remL a b).toInt.natAbs := by
        rw [remL_toInt, Int.natAbs_tmod]
        exact hg.resolve_left (fun z => h0 (l_eq0.mpr (by omega)))
      refine ⟨mf_L_common, Nat.le_of_ble_eq_true rfl, ?_⟩
      refine R_lload_n rfl rfl ?_
      refine R_lconst (v := 0) rfl rfl ?_
      refine R_l_ne rfl rfl rfl (fun _ => ?_) (fun z => absurd z h0)
      refine R_lload_n rfl rfl ?_
      refine R_lload_n rfl rfl ?_
      refine R_lload_n rfl rfl ?_
      refine R_lrem rfl h0 ?_
      refine R_pS (as := [.long b, .long (remL a b)]) rfl rfl iv_L_common (ih b (remL a b) hb (mB_rem ha) hg2) (by omega) rfl rfl rfl rfl (Nat.le_of_ble_eq_true rfl) ?_
      exact T_lreturn rfl rfl (am_pul (cd_rem ha hb))
section LDV
variable {h w rh pn : Nat} {f v rl : am_Gr} {I : Nat → Int32} {ρ : am_Y}
theorem mB_mn (hf : fSm f h w) (hh : h ≤ 6) (hw : w ≤ 6) {A B : Nat} (hA : A < 2 ^ h) (hB : B < 2 ^ w) (hp : pc A = pc B) : mB (mnF f A w B) := Nat.le_trans (mnF_t hf hh hw hA hB (by omega)).2 (bdN_6 _ pc_le)
theorem dvC_B (hf : fSm f h w) (hh : h ≤ 6) (hw : w ≤ 6) {A n : Nat} {a : Int64} (hA : A < 2 ^ h) (hp : pc A = n) (ha : mB a) : ∀ i, i ≤ 2 ^ w → mB (dvC f A w n a i) ∧ (dvC f A w n a i = 0 ↔ a = 0 ∧ ∀ j, j < i → pc j = n → mnF f A w j = 0)
  | 0, _ => ⟨ha, fun z => ⟨z, fun j hj => absurd hj (Nat.not_lt_zero j)⟩, fun z => z.1⟩
  | i + 1, hi => by
    obtain ⟨h1, h2⟩ := dvC_B hf hh hw hA hp ha i (by omega)
    simp only [dvC]
    by_cases c : pc i = n
    · have hm := mB_mn hf hh hw hA (show i < 2 ^ w by omega) (hp.trans c.symm)
      rw [if_pos c]
      refine ⟨cdL_B h1 hm, ?_⟩
      rw [cd_z h1 hm, h2]
      constructor
      · rintro ⟨⟨z1, z2⟩, z3⟩
        refine ⟨z1, fun j hj hp => ?_⟩
        by_cases e : j = i
        · rw [e]; exact z3
        · exact z2 j (by omega) hp
      · rintro ⟨z1, z2⟩
        exact ⟨⟨z1, fun j hj hp => z2 j (by omega) hp⟩, z2 i (by omega) c⟩
    · rw [if_neg c]
      refine ⟨h1, h2.trans ⟨fun z => ⟨z.1, fun j hj hp => ?_⟩, fun z => ⟨z.1, fun j hj hp => z.2 j (by omega) hp⟩⟩⟩
      by_cases e : j = i
      · exact absurd (e ▸ hp) c
      · exact z.2 j (by omega) hp
theorem dvR_B (hf : fSm f h w) (hh : h ≤ 6) (hw : w ≤ 6) {n : Nat} : ∀ i, i ≤ 2 ^ h → mB (dvR f w n i) ∧ (dvR f w n i = 0 ↔ ∀ A, A < i → pc A = n → ∀ B, B < 2 ^ w → pc B = n → mnF f A w B = 0)
  | 0, _ => ⟨mB_0, fun _ A hA => absurd hA (Nat.not_lt_zero A), fun _ => rfl⟩
  | i + 1, hi => by
    obtain ⟨h1, h2⟩ := dvR_B hf hh hw (n := n) i (by omega)
    simp only [dvR]
    by_cases c : pc i = n
    · obtain ⟨k1, k2⟩ := dvC_B hf hh hw (show i < 2 ^ h by omega) c h1 (2 ^ w) (Nat.le_refl _)
      rw [if_pos c]
      refine ⟨k1, k2.trans ⟨fun z A hA hp => ?_, fun z => ⟨h2.mpr fun A hA hp => z A (by omega) hp, fun j hj hp => z i (by omega) c j hj hp⟩⟩⟩
      by_cases e : A = i
      · rw [e]; exact z.2
      · exact h2.mp z.1 A (by omega) hp
    · rw [if_neg c]
      refine ⟨h1, h2.trans ⟨fun z A hA hp => ?_, fun z A hA hp => z A (by omega) hp⟩⟩
      by_cases e : A = i
      · exact absurd (e ▸ hp) c
      · exact z A (by omega) hp
theorem dv_rk (hf : fSm f h w) (hh : h ≤ 6) (hw : w ≤ 6) {n : Nat} : dvF f h w n = 0 ↔ rkO f 0 (2 ^ h - 1) (2 ^ w - 1) h w < n := by
  have hd : zdom 0 := zdom_0
  have tR : ∀ A, A < 2 ^ h → ∀ x, A.testBit x = true → (2 ^ h - 1).testBit x = true := fun A hA x hx => (tb_lw hh (Nat.lt_of_lt_of_le (tb_w hA hx) hh)).mpr (tb_w hA hx)
  have tC : ∀ A, A < 2 ^ w → ∀ x, A.testBit x = true → (2 ^ w - 1).testBit x = true := fun A hA x hx => (tb_lw hw (Nat.lt_of_lt_of_le (tb_w hA hx) hw)).mpr (tb_w hA hx)
  unfold dvF
  rw [(dvR_B hf hh hw (2 ^ h) (Nat.le_refl _)).2]
  constructor
  · intro hz
    refine Decidable.byContradiction fun hq => ?_
    obtain ⟨A, B, a1, a2, -, -, a5, a6, a7⟩ := rk_sets hd (by decide) hf hh hw (lwP2 (Nat.le_refl h)) (lwP2 (Nat.le_refl w))
    have hA6 := p2_64 a1 hh
    have hB6 := p2_64 a2 hw
    obtain ⟨A2, B2, c1, c2, c3, c4, c5, c6, c7⟩ := zM_down (q := n) (rkO f 0 (2 ^ h - 1) (2 ^ w - 1) h w - n) A B hA6 hB6 (by omega) (by omega) a7
    have l1 : A2 < 2 ^ h := Nat.lt_of_le_of_lt (sub_le (tb_sub A2 c3 A hA6 (fun x _ hx => c1 x hx))) a1
    have l2 : B2 < 2 ^ w := Nat.lt_of_le_of_lt (sub_le (tb_sub B2 c4 B hB6 (fun x _ hx => c2 x hx))) a2
    exact c7 ((nz_0 hf hh hw l1 l2 (c5.trans c6.symm)).mp (hz A2 l1 c5 B2 l2 c6))
  · intro hq A hA hp B hB hp2
    refine Decidable.byContradiction fun hz => ?_
    have := rk_top hd (by decide) hf hh hw (lwP2 (Nat.le_refl h)) (lwP2 (Nat.le_refl w)) (tR A hA) (tC B hB) (p2_64 hA hh) (p2_64 hB hw) (hp.trans hp2.symm) (fun z => hz ((nz_0 hf hh hw hA hB (hp.trans hp2.symm)).mpr z))
    omega
end LDV
