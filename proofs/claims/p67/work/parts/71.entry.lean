/-! ===== the law's entry, lowest bit, common divisor ===== -/
section ENT
variable {μ : am_M} {xs : Nat → Int32} {L : Nat}
theorem en_head {r c D : Nat} (hs : scP μ xs L) (hr : r < 6) (hc : c < 6) (hD : 1 ≤ D) {Q : am_Res → Prop}
    (h : am_R am_TX D 0 c_L_entry 56 [some (.ref 3000), some (.int (nI r)), some (.int (nI c)), some (.int (nI (dN xs L (70 + r) 4))), some (.int (iZ (eV0 xs L r c)))] [] μ Q) :
    am_R am_TX D 0 c_L_entry 0 [some (.ref 3000), some (.int (nI r)), some (.int (nI c)), none, none] [] μ Q := by
  have h2 := dN_lt (xs := xs) (L := L) (k := 5) (n := 2) (by decide)
  refine R_aload_n rfl rfl ?_
  refine R_bipush (v := 70) rfl (by decide) ?_
  refine R_iload_n rfl rfl ?_
  refine R_iaddN (x := 70) (y := r) rfl ?_
  refine R_iconst (v := 4) rfl rfl ?_
  refine R_pS (as := [.ref 3000, .int (nI (70 + r)), .int (nI 4)]) rfl rfl iv_L_draw (pl_draw hs (by omega) (by decide) (by decide)) (by omega) rfl rfl rfl rfl (Nat.le_of_ble_eq_true rfl) ?_
  refine R_istore_n rfl (by decide) ?_
  refine R_aload_n rfl rfl ?_
  refine R_bipush (v := 10) rfl (by decide) ?_
  refine R_bipush (v := 6) rfl (by decide) ?_
  refine R_iload_n rfl rfl ?_
  refine R_imulN (x := 6) (y := r) rfl ?_
  refine R_iaddN (x := 10) (y := 6 * r) rfl ?_
  refine R_iload_n rfl rfl ?_
  refine R_iaddN (x := 10 + 6 * r) (y := c) rfl ?_
  refine R_aload_n rfl rfl ?_
  refine R_iconst (v := 5) rfl rfl ?_
  refine R_iconst (v := 2) rfl rfl ?_
  refine R_pS (as := [.ref 3000, .int (nI 5), .int (nI 2)]) rfl rfl iv_L_draw (pl_draw hs (by omega) (by decide) (by decide)) (by omega) rfl rfl rfl rfl (Nat.le_of_ble_eq_true rfl) ?_
  have j53 : ∀ a b : Nat, a = dN xs L (10 + 6 * r + c) (if dN xs L 5 2 = 0 then 5 else 41) → (b : Int) = (if dN xs L 5 2 = 0 then 2 else 20) → a ≤ 1000 → b ≤ 1000 → am_R am_TX D 0 c_L_entry 53 [some (.ref 3000), some (.int (nI r)), some (.int (nI c)), some (.int (nI (dN xs L (70 + r) 4))), none] [.int (nI b), .int (nI a)] μ Q := by
    intro a b ha hb h1 h3
    refine R_isub rfl ?_
    refine R_istore rfl (by decide) ?_
    rw [iZ_nn ⟨h1, h3⟩, ha, hb]
    exact h
  have j35 : ∀ n : Nat, n = (if dN xs L 5 2 = 0 then 5 else 41) → am_R am_TX D 0 c_L_entry 35 [some (.ref 3000), some (.int (nI r)), some (.int (nI c)), some (.int (nI (dN xs L (70 + r) 4))), none] [.int (nI n), .int (nI (10 + 6 * r + c)), .ref 3000] μ Q := by
    intro n hn
    have hn1 : n = 5 ∨ n = 41 := by split at hn <;> omega
    have hl := dN_lt (xs := xs) (L := L) (k := 10 + 6 * r + c) (n := n) (by omega)
    refine R_pS (as := [.ref 3000, .int (nI (10 + 6 * r + c)), .int (nI n)]) rfl rfl iv_L_draw (pl_draw hs (by omega) (by omega) (by omega)) (by omega) rfl rfl rfl rfl (Nat.le_of_ble_eq_true rfl) ?_
    refine R_aload_n rfl rfl ?_
    refine R_iconst (v := 5) rfl rfl ?_
    refine R_iconst (v := 2) rfl rfl ?_
    refine R_pS (as := [.ref 3000, .int (nI 5), .int (nI 2)]) rfl rfl iv_L_draw (pl_draw hs (by omega) (by decide) (by decide)) (by omega) rfl rfl rfl rfl (Nat.le_of_ble_eq_true rfl) ?_
    refine R_nif_ne (x := dN xs L 5 2) rfl rfl (by omega) (fun z => ?_) (fun z => ?_)
    · refine R_bipush (v := 20) rfl (by decide) ?_
      exact j53 _ 20 (by rw [← hn]) (by rw [if_neg z]; rfl) (by omega) (by decide)
    · refine R_iconst (v := 2) rfl rfl ?_
      refine R_goto rfl rfl ?_
      exact j53 _ 2 (by rw [← hn]) (by rw [if_pos z]; rfl) (by omega) (by decide)
  refine R_nif_ne (x := dN xs L 5 2) rfl rfl (by omega) (fun z => ?_) (fun z => ?_)
  · refine R_bipush (v := 41) rfl (by decide) ?_
    exact j35 41 (if_neg z).symm
  · refine R_iconst (v := 5) rfl rfl ?_
    refine R_goto rfl rfl ?_
    exact j35 5 (if_pos z).symm
theorem pl_entry0 {c : Nat} (hs : scP μ xs L) (hc : c < 6) : am_Call am_TX 1 0 c_L_entry [.ref 3000, .int (nI 0), .int (nI c)] μ (am_Pu (some (.int (iZ (eZ xs L 0 c)))) μ) := by
  refine ⟨mf_L_entry, Nat.le_of_ble_eq_true rfl, ?_⟩
  refine en_head hs (by decide) hc (by decide) ?_
  refine R_iload_n rfl rfl ?_
  refine R_nif_le (x := 0) rfl rfl (by decide) (fun _ => ?_) (fun z => absurd (Nat.le_refl 0) z)
  refine R_iload_n rfl rfl ?_
  refine R_iconst (v := 1) rfl rfl ?_
  refine R_nicmp_le (x := 0) (y := 1) rfl rfl (by decide) (by decide) (fun _ => ?_) (fun z => absurd (Nat.zero_le 1) z)
  refine R_iload rfl rfl ?_
  exact T_ireturn rfl rfl (am_pui rfl)
theorem pl_entry1 {c : Nat} (hs : scP μ xs L) (hc : c < 6) : am_Call am_TX 2 0 c_L_entry [.ref 3000, .int (nI 1), .int (nI c)] μ (am_Pu (some (.int (iZ (eZ xs L 1 c)))) μ) := by
  have h4 := dN_lt (xs := xs) (L := L) (k := 71) (n := 4) (by decide)
  refine ⟨mf_L_entry, Nat.le_of_ble_eq_true rfl, ?_⟩
  refine en_head hs (by decide) hc (by decide) ?_
  refine R_iload_n rfl rfl ?_
  refine R_nif_le (x := 1) rfl rfl (by decide) (fun z => absurd z (by decide)) (fun _ => ?_)
  refine R_iload_n rfl rfl ?_
  refine R_iconst (v := 1) rfl rfl ?_
  refine R_nicmp_ne (x := dN xs L 71 4) (y := 1) rfl rfl (by omega) (by decide) (fun z => ?_) (fun z => ?_)
  · refine R_iload_n rfl rfl ?_
    refine R_iconst (v := 1) rfl rfl ?_
    refine R_nicmp_le (x := 1) (y := 1) rfl rfl (by decide) (by decide) (fun _ => ?_) (fun z => absurd (Nat.le_refl 1) z)
    refine R_iload rfl rfl ?_
    refine T_ireturn rfl rfl (am_pui ?_)
    show _ = iZ (if dN xs L 71 4 = 1 then eV0 xs L 0 c else eV0 xs L 1 c)
    rw [if_neg z]
  · refine R_aload_n rfl rfl ?_
    refine R_iload_n rfl rfl ?_
    refine R_iconst (v := 1) rfl rfl ?_
    refine R_isubN (x := 1) (y := 1) rfl (Nat.le_refl 1) ?_
    refine R_iload_n rfl rfl ?_
    refine R_pS (as := [.ref 3000, .int (nI 0), .int (nI c)]) rfl rfl iv_L_entry (pl_entry0 hs hc) (by decide) rfl rfl rfl rfl (Nat.le_of_ble_eq_true rfl) ?_
    refine T_ireturn rfl rfl (am_pui ?_)
    show _ = iZ (if dN xs L 71 4 = 1 then eV0 xs L 0 c else eV0 xs L 1 c)
    rw [if_pos z]
    rfl
theorem pl_entryS {r c : Nat} (hs : scP μ xs L) (hr : r + 2 < 6) (hc : c < 6) (ih0 : am_Call am_TX (r + 1) 0 c_L_entry [.ref 3000, .int (nI r), .int (nI c)] μ (am_Pu (some (.int (iZ (eZ xs L r c)))) μ)) (ih1 : am_Call am_TX (r + 2) 0 c_L_entry [.ref 3000, .int (nI (r + 1)), .int (nI c)] μ (am_Pu (some (.int (iZ (eZ xs L (r + 1) c)))) μ)) : am_Call am_TX (r + 3) 0 c_L_entry [.ref 3000, .int (nI (r + 2)), .int (nI c)] μ (am_Pu (some (.int (iZ (eZ xs L (r + 2) c)))) μ) := by
  have e70 : 70 + (r + 2) = 72 + r := by omega
  have h4 := dN_lt (xs := xs) (L := L) (k := 72 + r) (n := 4) (by decide)
  have b1 := (eZ_bd xs L c r).1
  have b2 := (eZ_bd xs L c r).2
  refine ⟨mf_L_entry, Nat.le_of_ble_eq_true rfl, ?_⟩
  refine en_head hs (by omega) hc (by omega) ?_
  rw [e70]
  have tail : ¬ dN xs L (72 + r) 4 = 1 → ¬ dN xs L (72 + r) 4 = 2 → am_R am_TX (r + 3) 0 c_L_entry 112 [some (.ref 3000), some (.int (nI (r + 2))), some (.int (nI c)), some (.int (nI (dN xs L (72 + r) 4))), some (.int (iZ (eV0 xs L (r + 2) c)))] [] μ (am_Pu (some (.int (iZ (eZ xs L (r + 2) c)))) μ) := by
    intro n1 n2
    refine R_iload rfl rfl ?_
    refine T_ireturn rfl rfl (am_pui ?_)
    show _ = iZ (if dN xs L (72 + r) 4 = 1 then eZ xs L (r + 1) c else if dN xs L (72 + r) 4 = 2 then clZ (eZ xs L (r + 1) c - eZ xs L r c) else eV0 xs L (r + 2) c)
    rw [if_neg n1, if_neg n2]
  refine R_iload_n rfl rfl ?_
  refine R_nif_le (x := r + 2) rfl rfl (by omega) (fun z => by omega) (fun _ => ?_)
  refine R_iload_n rfl rfl ?_
  refine R_iconst (v := 1) rfl rfl ?_
  refine R_nicmp_ne (x := dN xs L (72 + r) 4) (y := 1) rfl rfl (by omega) (by decide) (fun n1 => ?_) (fun z => ?_)
  · refine R_iload_n rfl rfl ?_
    refine R_iconst (v := 1) rfl rfl ?_
    refine R_nicmp_le (x := r + 2) (y := 1) rfl rfl (by omega) (by decide) (fun z => by omega) (fun _ => ?_)
    refine R_iload_n rfl rfl ?_
    refine R_iconst (v := 2) rfl rfl ?_
    refine R_nicmp_ne (x := dN xs L (72 + r) 4) (y := 2) rfl rfl (by omega) (by decide) (fun n2 => tail n1 n2) (fun z => ?_)
    refine R_bipush (v := -20) rfl (by decide) ?_
    refine R_bipush (v := 20) rfl (by decide) ?_
    refine R_aload_n rfl rfl ?_
    refine R_iload_n rfl rfl ?_
    refine R_iconst (v := 1) rfl rfl ?_
    refine R_isubN (x := r + 2) (y := 1) rfl (by omega) ?_
    refine R_iload_n rfl rfl ?_
    refine R_pS (as := [.ref 3000, .int (nI (r + 1)), .int (nI c)]) rfl rfl iv_L_entry ih1 (by omega) rfl rfl rfl rfl (Nat.le_of_ble_eq_true rfl) ?_
    refine R_aload_n rfl rfl ?_
    refine R_iload_n rfl rfl ?_
    refine R_iconst (v := 2) rfl rfl ?_
    refine R_isubN (x := r + 2) (y := 2) rfl (by omega) ?_
    refine R_iload_n rfl rfl ?_
    refine R_pS (as := [.ref 3000, .int (nI r), .int (nI c)]) rfl rfl iv_L_entry ih0 (by omega) rfl rfl rfl rfl (Nat.le_of_ble_eq_true rfl) ?_
    refine R_isub rfl ?_
    rw [iZ_s]
    refine R_pS (as := [.int 20, .int (iZ (eZ xs L (r + 1) c - eZ xs L r c))]) rfl rfl iv_JMath_min pu_min (by omega) rfl rfl rfl rfl (Nat.le_of_ble_eq_true rfl) ?_
    rw [show (20 : Int32) = iZ 20 from rfl, iZ_mn (by decide) (by omega)]
    refine R_pS (as := [.int (-20), .int (iZ (min 20 (eZ xs L (r + 1) c - eZ xs L r c)))]) rfl rfl iv_JMath_max pu_max (by omega) rfl rfl rfl rfl (Nat.le_of_ble_eq_true rfl) ?_
    rw [show (-20 : Int32) = iZ (-20) from rfl, iZ_mx (by decide) (by omega)]
    refine T_ireturn rfl rfl (am_pui ?_)
    show _ = iZ (if dN xs L (72 + r) 4 = 1 then eZ xs L (r + 1) c else if dN xs L (72 + r) 4 = 2 then clZ (eZ xs L (r + 1) c - eZ xs L r c) else eV0 xs L (r + 2) c)
    rw [if_neg n1, if_pos z]
    rfl
  · refine R_aload_n rfl rfl ?_
    refine R_iload_n rfl rfl ?_
    refine R_iconst (v := 1) rfl rfl ?_
    refine R_isubN (x := r + 2) (y := 1) rfl (by omega) ?_
    refine R_iload_n rfl rfl ?_
    refine R_pS (as := [.ref 3000, .int (nI (r + 1)), .int (nI c)]) rfl rfl iv_L_entry ih1 (by omega) rfl rfl rfl rfl (Nat.le_of_ble_eq_true rfl) ?_
    refine T_ireturn rfl rfl (am_pui ?_)
    show _ = iZ (if dN xs L (72 + r) 4 = 1 then eZ xs L (r + 1) c else if dN xs L (72 + r) 4 = 2 then clZ (eZ xs L (r + 1) c - eZ xs L r c) else eV0 xs L (r + 2) c)
    rw [if_pos z]
theorem am_Call.deep {Tx : am_Tx} {d d2 k : Nat} {c : am_C} {as : List Value} {μ : am_M} {Q : am_Res → Prop} (h : ∀ d, d2 ≤ d → am_Call Tx d k c as μ Q) (hd : d2 ≤ d) : am_Call Tx d k c as μ Q := h d hd
theorem pl_entry {c : Nat} (hs : scP μ xs L) (hc : c < 6) : ∀ r, r < 6 → am_Call am_TX (r + 1) 0 c_L_entry [.ref 3000, .int (nI r), .int (nI c)] μ (am_Pu (some (.int (iZ (eZ xs L r c)))) μ) := by
  have key : ∀ r, r + 1 < 6 → am_Call am_TX (r + 1) 0 c_L_entry [.ref 3000, .int (nI r), .int (nI c)] μ (am_Pu (some (.int (iZ (eZ xs L r c)))) μ) ∧ am_Call am_TX (r + 2) 0 c_L_entry [.ref 3000, .int (nI (r + 1)), .int (nI c)] μ (am_Pu (some (.int (iZ (eZ xs L (r + 1) c)))) μ) := by
    intro r
    induction r with
    | zero => intro _; exact ⟨pl_entry0 hs hc, pl_entry1 hs hc⟩
    | succ r ih =>
      intro hr
      obtain ⟨a, b⟩ := ih (by omega)
      exact ⟨b, pl_entryS hs (by omega) hc a b⟩
  intro r hr
  by_cases h : r + 1 < 6
  · exact (key r h).1
  · have e : r = 5 := by omega
    subst e
    exact (key 4 (by decide)).2
/-! numberOfTrailingZeros -/
def tz (s : Nat) : Nat := if s % 2 = 1 then 0 else if s % 4 = 2 then 1 else if s % 8 = 4 then 2 else if s % 16 = 8 then 3 else if s % 32 = 16 then 4 else 5
theorem tz_raw : ∀ s : Nat, s < 64 → s ≠ 0 → ((nI s ^^^ (-1)) &&& (nI s - 1)) = nI (2 ^ tz s - 1) ∧ tz s < 6 ∧ s.testBit (tz s) = true ∧ (∀ j, j < 6 → j < tz s → s.testBit j = false) ∧ nI s &&& (nI s - 1) = nI (wo s (tz s)) := by decide +kernel
theorem tz_sh : ∀ k : Nat, k < 6 → (k ≠ 0 → ¬ (nI (2 ^ k - 1) ≤ (0 : Int32)) ∧ nI (2 ^ k - 1) ≤ (65536 : Int32) ∧ nI (2 ^ k - 1) ≤ (256 : Int32)) ∧ (k = 0 → nI (2 ^ k - 1) ≤ (0 : Int32) ∧ nI (2 ^ k - 1) &&& (32 : Int32) = 0) ∧ (k = 5 ↔ ¬ nI (2 ^ k - 1) ≤ (16 : Int32)) := by decide +kernel
theorem tz_a1 : ∀ k : Nat, k < 6 → k ≠ 0 → nI (2 ^ k - 1) ≤ (16 : Int32) → ((nI (2 ^ k - 1) ≤ (4 : Int32) → (1 : Int32) + ((nI (2 ^ k - 1)).toUInt32 >>> ((1 : Int32).toUInt32 &&& Int32.toUInt32 31)).toInt32 = nI k) ∧ (¬ nI (2 ^ k - 1) ≤ (4 : Int32) → ((1 : Int32) + Int32.ofInt 2) + (((nI (2 ^ k - 1)).toUInt32 >>> ((2 : Int32).toUInt32 &&& Int32.toUInt32 31)).toInt32.toUInt32 >>> ((1 : Int32).toUInt32 &&& Int32.toUInt32 31)).toInt32 = nI k)) := by decide +kernel
theorem tz_a2 : ∀ k : Nat, k < 6 → k ≠ 0 → ¬ nI (2 ^ k - 1) ≤ (16 : Int32) → ((((nI (2 ^ k - 1)).toUInt32 >>> ((4 : Int32).toUInt32 &&& Int32.toUInt32 31)).toInt32 ≤ (4 : Int32)) ∧ ((1 : Int32) + Int32.ofInt 4) + ((((nI (2 ^ k - 1)).toUInt32 >>> ((4 : Int32).toUInt32 &&& Int32.toUInt32 31)).toInt32).toUInt32 >>> ((1 : Int32).toUInt32 &&& Int32.toUInt32 31)).toInt32 = nI k) := by decide +kernel
theorem pu_tz {s : Nat} (hs : s < 64) (h0 : s ≠ 0) : am_Call am_TX 0 0 c_JInteger_numberOfTrailingZeros [.int (nI s)] μ (am_Pu (some (.int (nI (tz s)))) μ) := by
  obtain ⟨t1, t2, -⟩ := tz_raw s hs h0
  obtain ⟨c1, c2, c3⟩ := tz_sh _ t2
  refine ⟨mf_JInteger_numberOfTrailingZeros, Nat.le_of_ble_eq_true rfl, ?_⟩
  refine R_iload_n rfl rfl ?_
  refine R_iconst (v := -1) rfl rfl ?_
  refine R_ixor rfl ?_
  refine R_iload_n rfl rfl ?_
  refine R_iconst (v := 1) rfl rfl ?_
  refine R_isub rfl ?_
  refine R_iand rfl ?_
  rw [t1]
  generalize tz s = k at *
  refine R_istore_n rfl (by decide) ?_
  refine R_iload_n rfl rfl ?_
  refine R_if_gt rfl rfl (fun z => ?_) (fun z => ?_)
  · have hk : k ≠ 0 := fun y => absurd z (Int32.not_lt.mpr (c2 y).1)
    obtain ⟨d1, d2, d3⟩ := c1 hk
    refine R_iconst (v := 1) rfl rfl ?_
    refine R_istore_n rfl (by decide) ?_
    refine R_iload_n rfl rfl ?_
    refine R_ldcw (b := 0) (v := 65536) rfl (by decide) ?_
    refine R_icmp_le rfl rfl (fun _ => ?_) (fun z => absurd d2 z)
    refine R_iload_n rfl rfl ?_
    refine R_sipush (v := 256) rfl (by decide) ?_
    refine R_icmp_le rfl rfl (fun _ => ?_) (fun z => absurd d3 z)
    refine R_iload_n rfl rfl ?_
    refine R_bipush (v := 16) rfl (by decide) ?_
    have fin : ∀ (a x : Int32), a + (x.toUInt32 >>> ((1 : Int32).toUInt32 &&& Int32.toUInt32 31)).toInt32 = nI k → am_R am_TX 0 0 c_JInteger_numberOfTrailingZeros 74 [some (.int x), some (.int a)] [] μ (am_Pu (some (.int (nI k))) μ) := by
      intro a x hax
      refine R_iload_n rfl rfl ?_
      refine R_iload_n rfl rfl ?_
      refine R_iconst (v := 1) rfl rfl ?_
      refine R_iushr rfl ?_
      refine R_iadd rfl ?_
      exact T_ireturn rfl rfl (am_pui hax)
    have t62 : ∀ (a x : Int32), (x ≤ 4 → a + (x.toUInt32 >>> ((1 : Int32).toUInt32 &&& Int32.toUInt32 31)).toInt32 = nI k) → (¬ x ≤ 4 → (a + Int32.ofInt 2) + ((x.toUInt32 >>> ((2 : Int32).toUInt32 &&& Int32.toUInt32 31)).toInt32.toUInt32 >>> ((1 : Int32).toUInt32 &&& Int32.toUInt32 31)).toInt32 = nI k) → am_R am_TX 0 0 c_JInteger_numberOfTrailingZeros 62 [some (.int x), some (.int a)] [] μ (am_Pu (some (.int (nI k))) μ) := by
      intro a x f1 f2
      refine R_iload_n rfl rfl ?_
      refine R_iconst (v := 4) rfl rfl ?_
      refine R_icmp_le rfl rfl (fun z => fin a x (f1 z)) (fun z => ?_)
      refine R_iinc rfl rfl (by decide) ?_
      refine R_iload_n rfl rfl ?_
      refine R_iconst (v := 2) rfl rfl ?_
      refine R_iushr rfl ?_
      refine R_istore_n rfl (by decide) ?_
      exact fin _ _ (f2 z)
    obtain ⟨a1, a2⟩ : _ ∧ _ := ⟨tz_a1 k t2 hk, tz_a2 k t2 hk⟩
    refine R_icmp_le rfl rfl (fun z => ?_) (fun z => ?_)
    · exact t62 _ _ (a1 z).1 (a1 z).2
    · refine R_iinc rfl rfl (by decide) ?_
      refine R_iload_n rfl rfl ?_
      refine R_iconst (v := 4) rfl rfl ?_
      refine R_iushr rfl ?_
      refine R_istore_n rfl (by decide) ?_
      exact t62 _ _ (fun _ => (a2 z).2) (fun y => absurd (a2 z).1 y)
  · have hk : k = 0 := Decidable.byContradiction fun y => z (Int32.not_le.mp (c1 y).1)
    refine R_iload_n rfl rfl ?_
    refine R_bipush (v := 32) rfl (by decide) ?_
    refine R_iand rfl ?_
    refine T_ireturn rfl rfl (am_pui ?_)
    rw [(c2 hk).2, hk]
    rfl
end ENT
