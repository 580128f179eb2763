/-! ===== ints that are natural numbers ===== -/
theorem nI_ltN {a b : Nat} (ha : a < 2 ^ 31) (hb : b < 2 ^ 31) : nI a < nI b ↔ a < b := nI_ltI ha hb
theorem nI_leN {a b : Nat} (ha : a < 2 ^ 31) (hb : b < 2 ^ 31) : nI a ≤ nI b ↔ a ≤ b := nI_leI ha hb
section AMI
variable {Tx : am_Tx} {d k : Nat} {c : am_C} {pc a b x y : Nat} {ls : List (Option Value)} {st : List Value} {μ : am_M} {Q : am_Res → Prop}
theorem R_iaddN (hc : c.2 pc = some (.iadd, 1, a, b)) (h : am_R Tx d k c (pc + 1) ls (.int (nI (x + y)) :: st) μ Q) : am_R Tx d k c pc ls (.int (nI y) :: .int (nI x) :: st) μ Q := R_iadd hc (by rw [nI_add]; exact h)
theorem R_imulN (hc : c.2 pc = some (.imul, 1, a, b)) (h : am_R Tx d k c (pc + 1) ls (.int (nI (x * y)) :: st) μ Q) : am_R Tx d k c pc ls (.int (nI y) :: .int (nI x) :: st) μ Q := R_imul hc (by rw [pk_mul]; exact h)
theorem R_isubN (hc : c.2 pc = some (.isub, 1, a, b)) (hxy : y ≤ x) (h : am_R Tx d k c (pc + 1) ls (.int (nI (x - y)) :: st) μ Q) : am_R Tx d k c pc ls (.int (nI y) :: .int (nI x) :: st) μ Q := R_isub hc (by rw [pk_sub hxy]; exact h)
theorem R_iincN {i m : Nat} {n : Int} (hc : c.2 pc = some (.iinc i n, 3, a, b)) (hn : n = (m : Int)) (hl : ls[i]? = some (some (.int (nI x)))) (hb : i < c.1.2.2.1) (h : am_R Tx d k c (pc + 3) (am_st ls i (.int (nI (x + m)))) st μ Q) : am_R Tx d k c pc ls st μ Q := by
  subst hn
  refine R_iinc hc hl hb ?_
  rw [show Int32.ofInt ((m : Nat) : Int) = nI m from rfl, nI_add]
  exact h
theorem R_nicmp_eq {off : Int} {tgt : Nat} (hc : c.2 pc = some (.if_icmp .eq off, 3, a, b)) (ht : (pc : Int) + off = (tgt : Int)) (hx : x < 2 ^ 31) (hy : y < 2 ^ 31) (kt : x = y → am_R Tx d k c tgt ls st μ Q) (kf : ¬ x = y → am_R Tx d k c (pc + 3) ls st μ Q) : am_R Tx d k c pc ls (.int (nI y) :: .int (nI x) :: st) μ Q :=
  R_icmp_eq hc ht (fun z => kt ((nI_eq hx hy).mp z)) (fun z => kf (fun w => z ((nI_eq hx hy).mpr w)))
theorem R_nif_eq {off : Int} {tgt : Nat} (hc : c.2 pc = some (.ifCond .eq off, 3, a, b)) (ht : (pc : Int) + off = (tgt : Int)) (hx : x < 2 ^ 31) (kt : x = 0 → am_R Tx d k c tgt ls st μ Q) (kf : ¬ x = 0 → am_R Tx d k c (pc + 3) ls st μ Q) : am_R Tx d k c pc ls (.int (nI x) :: st) μ Q := by
  have hy : (0 : Nat) < 2 ^ 31 := by decide
  exact R_if_eq hc ht (fun z => kt ((nI_eq hx hy).mp z)) (fun z => kf (fun w => z ((nI_eq hx hy).mpr w)))
theorem R_nicmp_ne {off : Int} {tgt : Nat} (hc : c.2 pc = some (.if_icmp .ne off, 3, a, b)) (ht : (pc : Int) + off = (tgt : Int)) (hx : x < 2 ^ 31) (hy : y < 2 ^ 31) (kt : ¬ x = y → am_R Tx d k c tgt ls st μ Q) (kf : x = y → am_R Tx d k c (pc + 3) ls st μ Q) : am_R Tx d k c pc ls (.int (nI y) :: .int (nI x) :: st) μ Q :=
  R_icmp_ne hc ht (fun z => kt (fun w => z ((nI_eq hx hy).mpr w))) (fun z => kf ((nI_eq hx hy).mp z))
theorem R_nif_ne {off : Int} {tgt : Nat} (hc : c.2 pc = some (.ifCond .ne off, 3, a, b)) (ht : (pc : Int) + off = (tgt : Int)) (hx : x < 2 ^ 31) (kt : ¬ x = 0 → am_R Tx d k c tgt ls st μ Q) (kf : x = 0 → am_R Tx d k c (pc + 3) ls st μ Q) : am_R Tx d k c pc ls (.int (nI x) :: st) μ Q := by
  have hy : (0 : Nat) < 2 ^ 31 := by decide
  exact R_if_ne hc ht (fun z => kt (fun w => z ((nI_eq hx hy).mpr w))) (fun z => kf ((nI_eq hx hy).mp z))
theorem R_nicmp_lt {off : Int} {tgt : Nat} (hc : c.2 pc = some (.if_icmp .lt off, 3, a, b)) (ht : (pc : Int) + off = (tgt : Int)) (hx : x < 2 ^ 31) (hy : y < 2 ^ 31) (kt : x < y → am_R Tx d k c tgt ls st μ Q) (kf : ¬ x < y → am_R Tx d k c (pc + 3) ls st μ Q) : am_R Tx d k c pc ls (.int (nI y) :: .int (nI x) :: st) μ Q :=
  R_icmp_lt hc ht (fun z => kt ((nI_ltI hx hy).mp z)) (fun z => kf (fun w => z ((nI_ltI hx hy).mpr w)))
theorem R_nif_lt {off : Int} {tgt : Nat} (hc : c.2 pc = some (.ifCond .lt off, 3, a, b)) (ht : (pc : Int) + off = (tgt : Int)) (hx : x < 2 ^ 31) (kt : x < 0 → am_R Tx d k c tgt ls st μ Q) (kf : ¬ x < 0 → am_R Tx d k c (pc + 3) ls st μ Q) : am_R Tx d k c pc ls (.int (nI x) :: st) μ Q := by
  have hy : (0 : Nat) < 2 ^ 31 := by decide
  exact R_if_lt hc ht (fun z => kt ((nI_ltI hx hy).mp z)) (fun z => kf (fun w => z ((nI_ltI hx hy).mpr w)))
theorem R_nicmp_ge {off : Int} {tgt : Nat} (hc : c.2 pc = some (.if_icmp .ge off, 3, a, b)) (ht : (pc : Int) + off = (tgt : Int)) (hx : x < 2 ^ 31) (hy : y < 2 ^ 31) (kt : y ≤ x → am_R Tx d k c tgt ls st μ Q) (kf : ¬ y ≤ x → am_R Tx d k c (pc + 3) ls st μ Q) : am_R Tx d k c pc ls (.int (nI y) :: .int (nI x) :: st) μ Q :=
  R_icmp_ge hc ht (fun z => kt ((nI_leI hy hx).mp z)) (fun z => kf (fun w => z ((nI_leI hy hx).mpr w)))
theorem R_nif_ge {off : Int} {tgt : Nat} (hc : c.2 pc = some (.ifCond .ge off, 3, a, b)) (ht : (pc : Int) + off = (tgt : Int)) (hx : x < 2 ^ 31) (kt : 0 ≤ x → am_R Tx d k c tgt ls st μ Q) (kf : ¬ 0 ≤ x → am_R Tx d k c (pc + 3) ls st μ Q) : am_R Tx d k c pc ls (.int (nI x) :: st) μ Q := by
  have hy : (0 : Nat) < 2 ^ 31 := by decide
  exact R_if_ge hc ht (fun z => kt ((nI_leI hy hx).mp z)) (fun z => kf (fun w => z ((nI_leI hy hx).mpr w)))
theorem R_nicmp_gt {off : Int} {tgt : Nat} (hc : c.2 pc = some (.if_icmp .gt off, 3, a, b)) (ht : (pc : Int) + off = (tgt : Int)) (hx : x < 2 ^ 31) (hy : y < 2 ^ 31) (kt : y < x → am_R Tx d k c tgt ls st μ Q) (kf : ¬ y < x → am_R Tx d k c (pc + 3) ls st μ Q) : am_R Tx d k c pc ls (.int (nI y) :: .int (nI x) :: st) μ Q :=
  R_icmp_gt hc ht (fun z => kt ((nI_ltI hy hx).mp z)) (fun z => kf (fun w => z ((nI_ltI hy hx).mpr w)))
theorem R_nif_gt {off : Int} {tgt : Nat} (hc : c.2 pc = some (.ifCond .gt off, 3, a, b)) (ht : (pc : Int) + off = (tgt : Int)) (hx : x < 2 ^ 31) (kt : 0 < x → am_R Tx d k c tgt ls st μ Q) (kf : ¬ 0 < x → am_R Tx d k c (pc + 3) ls st μ Q) : am_R Tx d k c pc ls (.int (nI x) :: st) μ Q := by
  have hy : (0 : Nat) < 2 ^ 31 := by decide
  exact R_if_gt hc ht (fun z => kt ((nI_ltI hy hx).mp z)) (fun z => kf (fun w => z ((nI_ltI hy hx).mpr w)))
theorem R_nicmp_le {off : Int} {tgt : Nat} (hc : c.2 pc = some (.if_icmp .le off, 3, a, b)) (ht : (pc : Int) + off = (tgt : Int)) (hx : x < 2 ^ 31) (hy : y < 2 ^ 31) (kt : x ≤ y → am_R Tx d k c tgt ls st μ Q) (kf : ¬ x ≤ y → am_R Tx d k c (pc + 3) ls st μ Q) : am_R Tx d k c pc ls (.int (nI y) :: .int (nI x) :: st) μ Q :=
  R_icmp_le hc ht (fun z => kt ((nI_leI hx hy).mp z)) (fun z => kf (fun w => z ((nI_leI hx hy).mpr w)))
theorem R_nif_le {off : Int} {tgt : Nat} (hc : c.2 pc = some (.ifCond .le off, 3, a, b)) (ht : (pc : Int) + off = (tgt : Int)) (hx : x < 2 ^ 31) (kt : x ≤ 0 → am_R Tx d k c tgt ls st μ Q) (kf : ¬ x ≤ 0 → am_R Tx d k c (pc + 3) ls st μ Q) : am_R Tx d k c pc ls (.int (nI x) :: st) μ Q := by
  have hy : (0 : Nat) < 2 ^ 31 := by decide
  exact R_if_le hc ht (fun z => kt ((nI_leI hx hy).mp z)) (fun z => kf (fun w => z ((nI_leI hx hy).mpr w)))
end AMI
section AMT
variable {Tx : am_Tx} {d k : Nat} {c : am_C} {pc a b : Nat} {ls : List (Option Value)} {μ : am_M} {Q : am_Res → Prop} {x : Int32} {y : Int64} {z : Nat} {nm : String}
theorem T_ireturn (hc : c.2 pc = some (.ireturn, 1, a, b)) (hr : c.1.2.2.2.1 = some .int) (hq : Q (.inl (some (.int x)), μ)) : am_R Tx d k c pc ls [.int x] μ Q := R_ireturn (st := []) hc hr hq
theorem T_zreturn (hc : c.2 pc = some (.ireturn, 1, a, b)) (hr : c.1.2.2.2.1 = some .boolean) (hn : narrow .boolean (.int x) = .int x) (hq : Q (.inl (some (.int x)), μ)) : am_R Tx d k c pc ls [.int x] μ Q := R_zreturn (st := []) hc hr hn hq
theorem T_lreturn (hc : c.2 pc = some (.lreturn, 1, a, b)) (hr : c.1.2.2.2.1 = some .long) (hq : Q (.inl (some (.long y)), μ)) : am_R Tx d k c pc ls [.long y] μ Q := R_lreturn (st := []) hc hr hq
theorem T_return (hc : c.2 pc = some (.return_, 1, a, b)) (hr : c.1.2.2.2.1 = none) (hq : Q (.inl none, μ)) : am_R Tx d k c pc ls [] μ Q := R_return (st := []) hc hr hq
theorem T_areturn (hc : c.2 pc = some (.areturn, 1, a, b)) (hr : c.1.2.2.2.1 = some (.object nm)) (hq : Q (.inl (some (.ref z)), μ)) : am_R Tx d k c pc ls [.ref z] μ Q := R_areturn (st := []) hc hr hq
theorem T_areturnN (hc : c.2 pc = some (.areturn, 1, a, b)) (hr : c.1.2.2.2.1 = some (.object nm)) (hq : Q (.inl (some .null), μ)) : am_R Tx d k c pc ls [.null] μ Q := R_areturnN (st := []) hc hr hq
end AMT
theorem am_okl {σ : am_G} {V A : Int64} {P : am_G → Prop} (h : A = V) (hp : P σ) : am_Ok (some (.long V)) P (.inl (some (.long A)), mm σ) := ⟨σ, by rw [h], hp⟩
theorem am_oki {σ : am_G} {V A : Int32} {P : am_G → Prop} (h : A = V) (hp : P σ) : am_Ok (some (.int V)) P (.inl (some (.int A)), mm σ) := ⟨σ, by rw [h], hp⟩
theorem am_okv0 {σ : am_G} {P : am_G → Prop} (hp : P σ) : am_Ok none P (.inl none, mm σ) := ⟨σ, rfl, hp⟩
theorem am_okr {σ : am_G} {V A : Nat} {P : am_G → Prop} (h : A = V) (hp : P σ) : am_Ok (some (.ref V)) P (.inl (some (.ref A)), mm σ) := ⟨σ, by rw [h], hp⟩
def gL (σ : am_G) (k : Nat) (i j : Nat) : Int64 := if i < 6 ∧ j < 6 then σ.2.1 (k + 1) (i * 6 + j) else 0
def uL (σ : am_G) (k : Nat) (i j : Nat) (x : Int64) : am_G := if i < 6 ∧ j < 6 then sL σ (k + 1) (i * 6 + j) x else σ
