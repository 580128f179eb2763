/-! ===== the law's draws ===== -/
/-- the script in the memory -/
def scP (μ : am_M) (xs : Nat → Int32) (L : Nat) : Prop := μ.2.1 3000 = xs ∧ μ.2.1 3001 0 = nI L ∧ L ≤ 3072
def dN (xs : Nat → Int32) (L k n : Nat) : Nat := ((if k < L then xs k else 0).toBitVec.toNat % 2147483648) % n
theorem an_nI (x : Int32) : x &&& 2147483647 = nI (x.toBitVec.toNat % 2147483648) := by
  apply Int32.toBitVec_inj.mp
  apply BitVec.eq_of_toNat_eq
  have e1 : (x &&& 2147483647).toBitVec.toNat = x.toBitVec.toNat &&& (2 ^ 31 - 1) := by
    rw [Int32.toBitVec_and, BitVec.toNat_and]
    rfl
  have e2 : (nI (x.toBitVec.toNat % 2147483648)).toBitVec.toNat = x.toBitVec.toNat % 2147483648 := by
    show (BitVec.ofNat 32 (x.toBitVec.toNat % 2147483648)).toNat = _
    rw [BitVec.toNat_ofNat]
    omega
  rw [e1, e2, Nat.and_two_pow_sub_one_eq_mod]
theorem dN_lt {xs : Nat → Int32} {L k n : Nat} (h : 0 < n) : dN xs L k n < n := Nat.mod_lt _ h
section DRW
variable {μ : am_M} {xs : Nat → Int32} {L k n : Nat}
theorem pl_draw (hs : scP μ xs L) (hk : k < 1000) (h0 : 0 < n) (hn : n < 1000) : am_Call am_TX 0 0 c_L_draw [.ref 3000, .int (nI k), .int (nI n)] μ (am_Pu (some (.int (nI (dN xs L k n)))) μ) := by
  obtain ⟨h1, h2, h3⟩ := hs
  refine ⟨mf_L_draw, Nat.le_of_ble_eq_true rfl, ?_⟩
  refine R_iload_n rfl rfl ?_
  refine R_aload_n rfl rfl ?_
  refine R_slen rfl h2 h3 ?_
  have tail : ∀ x : Int32, (if k < L then xs k else 0) = x → am_R am_TX 0 0 c_L_draw 13 [some (.ref 3000), some (.int (nI k)), some (.int (nI n))] [.int x] μ (am_Pu (some (.int (nI (dN xs L k n)))) μ) := by
    intro x hx
    refine R_ldci (b := 0) (v := 2147483647) rfl (by decide) ?_
    refine R_iand rfl ?_
    rw [an_nI]
    refine R_iload_n rfl rfl ?_
    refine R_iremN (x := x.toBitVec.toNat % 2147483648) (y := n) rfl h0 (by omega) (by omega) ?_
    refine T_ireturn rfl rfl (am_pui ?_)
    unfold dN
    rw [hx]
  refine R_nicmp_ge (x := k) (y := L) rfl rfl (by omega) (by omega) (fun z => ?_) (fun z => ?_)
  · refine R_iconst (v := 0) rfl rfl ?_
    exact tail 0 (if_neg (by omega))
  · refine R_aload_n rfl rfl ?_
    refine R_iload_n rfl rfl ?_
    refine R_sld (j := k) rfl h2 h3 rfl (by omega) ?_
    rw [h1]
    refine R_goto rfl rfl ?_
    exact tail (xs k) (if_pos (by omega))
theorem pl_has {s j : Nat} (hs : s < 64) (hj : j < 6) : am_Call am_TX 0 0 c_L_has [.int (nI s), .int (nI j)] μ (am_Pu (some (.int (zP (s.testBit j = true)))) μ) := by
  refine ⟨mf_L_has, Nat.le_of_ble_eq_true rfl, ?_⟩
  refine R_iload_n rfl rfl ?_
  refine R_iload_n rfl rfl ?_
  refine R_ishr rfl ?_
  refine R_iconst (v := 1) rfl rfl ?_
  refine R_iand rfl ?_
  rw [(set_raw s hs j hj).1]
  refine R_iconst (v := 1) rfl rfl ?_
  refine R_icmp_ne rfl rfl (fun h1 => ?_) (fun h1 => ?_)
  · refine R_iconst (v := 0) rfl rfl ?_
    exact T_zreturn rfl rfl rfl (am_pui (zP_f (fun z => h1 (zP_t z))).symm)
  · refine R_iconst (v := 1) rfl rfl ?_
    refine R_goto rfl rfl ?_
    exact T_zreturn rfl rfl rfl (am_pui (Decidable.byContradiction fun z => absurd (h1.symm.trans (zP_f (fun y => z (zP_t y).symm))) (by decide)))
/-- the prime, the modulus drawn -/
def pN (xs : Nat → Int32) (L k : Nat) : Nat := prL.getD (if dN xs L k 2 = 0 then dN xs L (k + 1) 5 else dN xs L (k + 1) 25) 0
def mN (xs : Nat → Int32) (L k : Nat) : Nat := if dN xs L k 3 = 0 then 0 else pN xs L (k + 1)
theorem prT_prL : ∀ j, j < 25 → prT.getD j 0 = nI (prL.getD j 0) ∧ prL.getD j 0 ∈ prL := by decide +kernel
theorem pN_mem (xs : Nat → Int32) (L k : Nat) : pN xs L k ∈ prL := by
  have h5 := dN_lt (xs := xs) (L := L) (k := k + 1) (n := 5) (by decide)
  have h25 := dN_lt (xs := xs) (L := L) (k := k + 1) (n := 25) (by decide)
  unfold pN
  split
  · exact (prT_prL _ (by omega)).2
  · exact (prT_prL _ (by omega)).2
theorem mN_mem (xs : Nat → Int32) (L k : Nat) : mN xs L k ∈ mdL := by
  unfold mN
  split
  · exact List.mem_cons_self
  · exact List.mem_cons_of_mem _ (pN_mem xs L (k + 1))
theorem pl_prime (hs : scP μ xs L) (hk : k < 900) : am_Call am_TX 1 0 c_L_prime [.ref 3000, .int (nI k)] μ (am_Pu (some (.int (nI (pN xs L k)))) μ) := by
  have h5 := dN_lt (xs := xs) (L := L) (k := k + 1) (n := 5) (by decide)
  have h25 := dN_lt (xs := xs) (L := L) (k := k + 1) (n := 25) (by decide)
  have h2 := dN_lt (xs := xs) (L := L) (k := k) (n := 2) (by decide)
  refine ⟨mf_L_prime, Nat.le_of_ble_eq_true rfl, ?_⟩
  refine R_gsP rfl (by decide +kernel) jf_prm ?_
  refine R_aload_n rfl rfl ?_
  refine R_iload_n rfl rfl ?_
  refine R_iconst (v := 2) rfl rfl ?_
  refine R_pS (as := [.ref 3000, .int (nI k), .int (nI 2)]) rfl rfl iv_L_draw (pl_draw hs (by omega) (by decide) (by decide)) (by decide) rfl rfl rfl rfl (Nat.le_of_ble_eq_true rfl) ?_
  refine R_nif_ne (x := dN xs L k 2) rfl rfl (by omega) (fun z => ?_) (fun z => ?_)
  · refine R_aload_n rfl rfl ?_
    refine R_iload_n rfl rfl ?_
    refine R_iconst (v := 1) rfl rfl ?_
    refine R_iaddN (x := k) (y := 1) rfl ?_
    refine R_bipush (v := 25) rfl (by decide) ?_
    refine R_pS (as := [.ref 3000, .int (nI (k + 1)), .int (nI 25)]) rfl rfl iv_L_draw (pl_draw hs (by omega) (by decide) (by decide)) (by decide) rfl rfl rfl rfl (Nat.le_of_ble_eq_true rfl) ?_
    refine R_pld (j := dN xs L (k + 1) 25) rfl rfl h25 ?_
    refine T_ireturn rfl rfl (am_pui ?_)
    rw [(prT_prL _ h25).1]
    unfold pN
    rw [if_neg z]
  · refine R_aload_n rfl rfl ?_
    refine R_iload_n rfl rfl ?_
    refine R_iconst (v := 1) rfl rfl ?_
    refine R_iaddN (x := k) (y := 1) rfl ?_
    refine R_iconst (v := 5) rfl rfl ?_
    refine R_pS (as := [.ref 3000, .int (nI (k + 1)), .int (nI 5)]) rfl rfl iv_L_draw (pl_draw hs (by omega) (by decide) (by decide)) (by decide) rfl rfl rfl rfl (Nat.le_of_ble_eq_true rfl) ?_
    refine R_goto rfl rfl ?_
    refine R_pld (j := dN xs L (k + 1) 5) rfl rfl (by omega) ?_
    refine T_ireturn rfl rfl (am_pui ?_)
    rw [(prT_prL _ (by omega)).1]
    unfold pN
    rw [if_pos (by omega)]
theorem pl_modulus (hs : scP μ xs L) (hk : k < 800) : am_Call am_TX 2 0 c_L_modulus [.ref 3000, .int (nI k)] μ (am_Pu (some (.int (nI (mN xs L k)))) μ) := by
  have h3 := dN_lt (xs := xs) (L := L) (k := k) (n := 3) (by decide)
  refine ⟨mf_L_modulus, Nat.le_of_ble_eq_true rfl, ?_⟩
  refine R_aload_n rfl rfl ?_
  refine R_iload_n rfl rfl ?_
  refine R_iconst (v := 3) rfl rfl ?_
  refine R_pS (as := [.ref 3000, .int (nI k), .int (nI 3)]) rfl rfl iv_L_draw (pl_draw hs (by omega) (by decide) (by decide)) (by decide) rfl rfl rfl rfl (Nat.le_of_ble_eq_true rfl) ?_
  refine R_nif_ne (x := dN xs L k 3) rfl rfl (by omega) (fun z => ?_) (fun z => ?_)
  · refine R_aload_n rfl rfl ?_
    refine R_iload_n rfl rfl ?_
    refine R_iconst (v := 1) rfl rfl ?_
    refine R_iaddN (x := k) (y := 1) rfl ?_
    refine R_pS (as := [.ref 3000, .int (nI (k + 1))]) rfl rfl iv_L_prime (pl_prime hs (by omega)) (by decide) rfl rfl rfl rfl (Nat.le_of_ble_eq_true rfl) ?_
    refine T_ireturn rfl rfl (am_pui ?_)
    unfold mN
    rw [if_neg z]
  · refine R_iconst (v := 0) rfl rfl ?_
    refine R_goto rfl rfl ?_
    refine T_ireturn rfl rfl (am_pui ?_)
    unfold mN
    rw [if_pos (by omega)]
    rfl
/-- an entry drawn -/
def eV0 (xs : Nat → Int32) (L r c : Nat) : Int := (dN xs L (10 + 6 * r + c) (if dN xs L 5 2 = 0 then 5 else 41) : Int) - (if dN xs L 5 2 = 0 then 2 else 20)
def clZ (z : Int) : Int := max (-20) (min 20 z)
def eZ (xs : Nat → Int32) (L : Nat) : Nat → Nat → Int
  | 0, c => eV0 xs L 0 c
  | 1, c => if dN xs L 71 4 = 1 then eV0 xs L 0 c else eV0 xs L 1 c
  | r + 2, c => if dN xs L (72 + r) 4 = 1 then eZ xs L (r + 1) c else if dN xs L (72 + r) 4 = 2 then clZ (eZ xs L (r + 1) c - eZ xs L r c) else eV0 xs L (r + 2) c
theorem eV0_bd (xs : Nat → Int32) (L r c : Nat) : -20 ≤ eV0 xs L r c ∧ eV0 xs L r c ≤ 20 := by
  unfold eV0
  by_cases h : dN xs L 5 2 = 0
  · rw [if_pos h, if_pos h]
    have := dN_lt (xs := xs) (L := L) (k := 10 + 6 * r + c) (n := 5) (by decide)
    omega
  · rw [if_neg h, if_neg h]
    have := dN_lt (xs := xs) (L := L) (k := 10 + 6 * r + c) (n := 41) (by decide)
    omega
theorem clZ_bd (z : Int) : -20 ≤ clZ z ∧ clZ z ≤ 20 := by unfold clZ; omega
theorem eZ_bd (xs : Nat → Int32) (L c : Nat) : ∀ r, (-20 ≤ eZ xs L r c ∧ eZ xs L r c ≤ 20) ∧ -20 ≤ eZ xs L (r + 1) c ∧ eZ xs L (r + 1) c ≤ 20 := by
  intro r
  induction r with
  | zero =>
    refine ⟨eV0_bd xs L 0 c, ?_⟩
    show -20 ≤ (if dN xs L 71 4 = 1 then eV0 xs L 0 c else eV0 xs L 1 c) ∧ (if dN xs L 71 4 = 1 then eV0 xs L 0 c else eV0 xs L 1 c) ≤ 20
    split
    · exact eV0_bd xs L 0 c
    · exact eV0_bd xs L 1 c
  | succ r ih =>
    refine ⟨ih.2, ?_⟩
    show -20 ≤ (if dN xs L (72 + r) 4 = 1 then eZ xs L (r + 1) c else if dN xs L (72 + r) 4 = 2 then clZ (eZ xs L (r + 1) c - eZ xs L r c) else eV0 xs L (r + 2) c) ∧ (if dN xs L (72 + r) 4 = 1 then eZ xs L (r + 1) c else if dN xs L (72 + r) 4 = 2 then clZ (eZ xs L (r + 1) c - eZ xs L r c) else eV0 xs L (r + 2) c) ≤ 20
    split
    · exact ih.2
    · split
      · exact clZ_bd _
      · exact eV0_bd xs L (r + 2) c
/-- a small whole number as an int -/
def iZ (z : Int) : Int32 := Int32.ofInt z
theorem iZ_nn {a b : Nat} (hab : a ≤ 1000 ∧ b ≤ 1000) : nI a - nI b = iZ ((a : Int) - b) := by
  rw [← Int32.toInt_inj, pk_sub_toInt (by omega) (by omega)]
  show _ = (Int32.ofInt _).toInt
  rw [Int32.toInt_ofInt_of_le (by omega) (by omega)]
theorem iZ_t {z : Int} (h : -1000 ≤ z ∧ z ≤ 1000) : (iZ z).toInt = z := Int32.toInt_ofInt_of_le (by omega) (by omega)
theorem iZ_s {y z : Int} : iZ y - iZ z = iZ (y - z) := (Int32.ofInt_sub y z).symm
theorem iZ_mn {y z : Int} (hy : -1000 ≤ y ∧ y ≤ 1000) (hz : -1000 ≤ z ∧ z ≤ 1000) : (if iZ y ≤ iZ z then iZ y else iZ z) = iZ (min y z) := by
  by_cases h : y ≤ z
  · rw [if_pos (by rw [Int32.le_iff_toInt_le, iZ_t hy, iZ_t hz]; exact h), Int.min_eq_left h]
  · rw [if_neg (by rw [Int32.le_iff_toInt_le, iZ_t hy, iZ_t hz]; exact h), Int.min_eq_right (by omega)]
theorem iZ_mx {y z : Int} (hy : -1000 ≤ y ∧ y ≤ 1000) (hz : -1000 ≤ z ∧ z ≤ 1000) : (if iZ y < iZ z then iZ z else iZ y) = iZ (max y z) := by
  by_cases h : y < z
  · rw [if_pos (by rw [Int32.lt_iff_toInt_lt, iZ_t hy, iZ_t hz]; exact h), Int.max_eq_right (by omega)]
  · rw [if_neg (by rw [Int32.lt_iff_toInt_lt, iZ_t hy, iZ_t hz]; exact h), Int.max_eq_left (by omega)]
end DRW
