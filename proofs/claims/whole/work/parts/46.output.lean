/-! ===== the output of the class ===== -/
/-- what stands in the output -/
def oC (σ : am_G) (L : List Int32) : Prop := σ.1 14 0 = nI L.length ∧ L.length ≤ 1000 ∧ ∀ i x, L[i]? = some x → σ.1 15 i = x
def pO (a _b : Nat) : Prop := a = 14 ∨ a = 15
theorem oC.fr {P : Nat → Nat → Prop} {σ σ1 : am_G} (q : smP P σ σ1) {L : List Int32} (h : oC σ L) (hp : ∀ b, ¬ P 14 b ∧ ¬ P 15 b) : oC σ1 L :=
  ⟨(q.i (hp 0).1).trans h.1, h.2.1, fun i x e => (q.i (hp i).2).trans (h.2.2 i x e)⟩
theorem oC_nil {σ : am_G} : oC (sI σ 14 0 0) [] := ⟨sI_s, Nat.zero_le _, fun i x e => by simp at e⟩
theorem oC_push {σ : am_G} {L : List Int32} {x : Int32} (h : oC σ L) (hl : L.length < 1000) : oC (sI (sI σ 15 L.length x) 14 0 (nI (L.length + 1))) (L ++ [x]) := by
  refine ⟨?_, ?_, fun i y e => ?_⟩
  · rw [sI_s, List.length_append]; rfl
  · rw [List.length_append]; show L.length + 1 ≤ 1000; omega
  · rw [sI_o (Or.inl (by decide))]
    by_cases hi : i = L.length
    · subst hi
      rw [sI_s]
      rw [List.getElem?_append_right (Nat.le_refl _), Nat.sub_self] at e
      exact Option.some.inj e
    · rw [sI_o (Or.inr hi)]
      by_cases h2 : i < L.length
      · rw [List.getElem?_append_left h2] at e
        exact h.2.2 i y e
      · rw [List.getElem?_append_right (by omega), List.getElem?_eq_none (by show 1 ≤ i - L.length; omega)] at e
        exact absurd e (by simp)
/-- powers of ten -/
def sc : Nat → Int64
  | 0 => 0
  | 1 => 1
  | k + 2 => sc (k + 1) * 10
theorem sc_d0 : ∀ j, j < 19 → sc (j + 1) / 10 = sc j := by decide +kernel
theorem sc_p0 : ∀ j, j < 19 → ¬ sc (j + 1) ≤ 0 := by decide +kernel
theorem sc_d {j : Nat} (h : 0 < j) (h2 : j ≤ 19) : sc j / 10 = sc (j - 1) := by
  have e := sc_d0 (j - 1) (by omega)
  rw [show j - 1 + 1 = j by omega] at e
  exact e
theorem sc_pos {j : Nat} (h : 0 < j) (h2 : j ≤ 19) : ¬ sc j ≤ 0 := by
  have e := sc_p0 (j - 1) (by omega)
  rw [show j - 1 + 1 = j by omega] at e
  exact e
theorem sc_ne {j : Nat} (h : 0 < j) (h2 : j ≤ 19) : ¬ sc j = 0 := fun e => sc_pos h h2 (by rw [e]; decide)
theorem sc_z {n : Nat} : sc (n - n) ≤ 0 := by rw [Nat.sub_self]; decide
/-- a digit, the digits, a number -/
def dgt (m s : Int64) : Int32 := 48 + (m / s - m / s / 10 * 10).toInt32
def dgP (m : Int64) (n : Nat) : Nat → List Int32
  | 0 => []
  | i + 1 => dgP m n i ++ [dgt m (sc (n - i))]
theorem dgP_len {m : Int64} {n : Nat} : ∀ i, (dgP m n i).length = i
  | 0 => rfl
  | i + 1 => by show (dgP m n i ++ [_]).length = i + 1; rw [List.length_append, dgP_len i]; rfl
def exF (m : Int64) : Nat → Nat → Nat
  | 0, k => k
  | u + 1, k => if m / 10 < sc (k + 1) then k else exF m u (k + 1)
theorem exF_le {m : Int64} : ∀ u k, exF m u k ≤ k + u
  | 0, k => Nat.le_refl _
  | u + 1, k => by
    have ih := @exF_le m u (k + 1)
    simp only [exF]
    split <;> omega
def nuN (v : Int64) : Nat := exF (absL v) 18 0 + 1
def nuL (v : Int64) : List Int32 := (if v < 0 then [45] else []) ++ dgP (absL v) (nuN v) (nuN v)
theorem nuN_le {v : Int64} : nuN v ≤ 19 := by
  have := @exF_le (absL v) 18 0
  unfold nuN; omega
theorem nuL_len {v : Int64} : (nuL v).length ≤ 20 := by
  have := @nuN_le v
  unfold nuL
  rw [List.length_append, dgP_len]
  split
  · show 1 + _ ≤ 20; omega
  · show 0 + _ ≤ 20; omega
def stL (S : Nat) : Nat → List Int32
  | 0 => []
  | i + 1 => if S.testBit i = true then stL S i ++ (32 :: nuL (nI i).toInt64) else stL S i
theorem stL_len {S : Nat} : ∀ i, (stL S i).length ≤ 21 * i
  | 0 => Nat.le_refl _
  | i + 1 => by
    have ih := @stL_len S i
    have h := @nuL_len (nI i).toInt64
    simp only [stL]
    split
    · rw [List.length_append, List.length_cons]; omega
    · omega
def rwL (f : am_Gr) (i : Nat) : Nat → List Int32
  | 0 => []
  | j + 1 => rwL f i j ++ ((if 0 < j then [32] else []) ++ nuL (f i j))
theorem rwL_len {f : am_Gr} {i : Nat} : ∀ j, (rwL f i j).length ≤ 21 * j
  | 0 => Nat.le_refl _
  | j + 1 => by
    have ih := @rwL_len f i j
    have h := @nuL_len (f i j)
    have h2 : (if 0 < j then [(32 : Int32)] else []).length ≤ 1 := by split <;> decide
    show (rwL f i j ++ ((if 0 < j then [32] else []) ++ nuL (f i j))).length ≤ _
    rw [List.length_append, List.length_append]
    omega
def lnL (f : am_Gr) (w : Nat) : Nat → List Int32
  | 0 => []
  | i + 1 => lnL f w i ++ (rwL f i w ++ [10])
theorem lnL_len {f : am_Gr} {w : Nat} : ∀ i, (lnL f w i).length ≤ (21 * w + 1) * i
  | 0 => Nat.le_refl _
  | i + 1 => by
    have ih := @lnL_len f w i
    have h := @rwL_len f i w
    show (lnL f w i ++ (rwL f i w ++ [10])).length ≤ _
    rw [List.length_append, List.length_append, Nat.mul_add]
    show _ + (_ + 1) ≤ _
    omega
set_option maxRecDepth 100000 in
set_option maxHeartbeats 4000000 in
theorem sp_addByte {σ : am_G} {L : List Int32} {x : Int32} (h : oC σ L) (hl : L.length < 1000) : am_Call am_TX 0 0 c_Output_addByte [.ref 14, .int x] (mm σ) (am_Ok none (fun σ1 => smP pO σ σ1 ∧ oC σ1 (L ++ [x]))) := by
  refine ⟨mf_Output_addByte, Nat.le_of_ble_eq_true rfl, ?_⟩
  refine R_aload_n rfl rfl ?_
  refine R_gIN (n := L.length) rfl rfl fd_5_0 h.1 ?_
  refine R_nif_lt (x := L.length) rfl rfl (by omega) (fun z => by omega) (fun h1 => ?_)
  refine R_aload_n rfl rfl ?_
  refine R_gIN (n := L.length) rfl rfl fd_5_0 h.1 ?_
  refine R_aload_n rfl rfl ?_
  refine R_gP (x := 15) rfl rfl fp_5_1 rfl ?_
  refine R_aln (v := 1000) rfl rfl (by decide) (by decide) ?_
  refine R_nicmp_ge (x := L.length) (y := 1000) rfl rfl (by omega) (by omega) (fun z => by omega) (fun h2 => ?_)
  refine R_aload_n rfl rfl ?_
  refine R_gP (x := 15) rfl rfl fp_5_1 rfl ?_
  refine R_aload_n rfl rfl ?_
  refine R_gIN (n := L.length) rfl rfl fd_5_0 h.1 ?_
  refine R_iload_n rfl rfl ?_
  refine R_wI (j := L.length) rfl rfl rfl (by omega) (by decide) ?_
  refine R_aload_n rfl rfl ?_
  refine R_dup rfl rfl ?_
  refine R_gIN (n := L.length) rfl rfl fd_5_0 ((sI_o (Or.inl (by decide))).trans h.1) ?_
  refine R_iconst (v := 1) rfl rfl ?_
  refine R_iaddN (x := L.length) (y := 1) rfl ?_
  refine R_pI rfl rfl fw_5_0 rfl ?_
  exact T_return rfl rfl (am_okv0 ⟨(smP_sI (p := pO) (k := 15) (j := L.length) (x := x) (Or.inr rfl)).trans (smP_sI (Or.inl rfl)), oC_push h hl⟩)
set_option maxRecDepth 100000 in
set_option maxHeartbeats 4000000 in
theorem lp_num1 {σ : am_G} {v m : Int64} {d k0 : Nat} {Q : am_Res → Prop} (hx : am_R am_TX d k0 c_Output_addNumber 43 [some (.ref 14), some (.long v), none, some (.long m), none, some (.long (sc (exF m 18 0 + 1))), none, none] [] (mm σ) Q)  : ∀ (uu i : Nat) (he : exF m uu i = exF m 18 0), i + uu = 18 → am_R am_TX d k0 c_Output_addNumber 11 [some (.ref 14), some (.long v), none, some (.long m), none, some (.long (sc (i + 1))), none, some (.int (nI i))] [] (mm σ) Q := by
  intro uu
  induction uu with
  | zero =>
    intro i he hi
    obtain rfl : 18 = i := by omega
    refine R_iload rfl rfl ?_
    refine R_bipush (v := 18) rfl (by decide) ?_
    refine R_nicmp_ge (x := 18) (y := 18) rfl rfl (by omega) (by omega) (fun h1 => ?_) (fun z => by omega)
    rw [show exF m 18 0 = 18 from he.symm] at hx
    exact hx.weak ⟨rfl, rfl, rfl, rfl, trivial⟩
  | succ uu ih =>
    intro i he hi
    refine R_iload rfl rfl ?_
    refine R_bipush (v := 18) rfl (by decide) ?_
    refine R_nicmp_ge (x := i) (y := 18) rfl rfl (by omega) (by omega) (fun z => by omega) (fun h1 => ?_)
    refine R_lload rfl rfl ?_
    refine R_lload_n rfl rfl ?_
    refine R_ldc2 (v := 10) rfl (by decide) ?_
    refine R_ldiv rfl (by decide) ?_
    refine R_l_gt rfl rfl rfl (fun h2 => ?_) (fun h2 => ?_)
    · rw [show exF m 18 0 = i from by rw [← he]; simp only [exF]; exact if_pos h2] at hx
      exact hx.weak ⟨rfl, rfl, rfl, rfl, trivial⟩
    · refine R_lload rfl rfl ?_
      refine R_ldc2 (v := 10) rfl (by decide) ?_
      refine R_lmul rfl ?_
      refine R_lstore rfl (by decide) ?_
      refine R_iincN (x := i) (m := 1) rfl rfl rfl (by decide) ?_
      refine R_goto rfl rfl ?_
      exact (ih (i + 1) (by rw [← he]; simp only [exF]; exact (if_neg h2).symm) (by omega)).weak ⟨rfl, rfl, rfl, rfl, rfl, trivial⟩
set_option maxRecDepth 100000 in
set_option maxHeartbeats 4000000 in
theorem lp_num2 {σ : am_G} {v m : Int64} {L M : List Int32} {n : Nat} {d k0 : Nat} (hn : n ≤ 19) (hL : L.length + 19 ≤ 1000) (hM : L ++ dgP m n n = M) (hd : 1 ≤ d)  : ∀ (uu i : Nat) (τ : am_G), i + uu = n → (smP pO σ τ ∧ oC τ (L ++ dgP m n i)) → am_R am_TX d k0 c_Output_addNumber 58 [some (.ref 14), some (.long v), none, some (.long m), none, some (.long (sc (n - i))), none, some (.int (nI i))] [] (mm τ) (am_Ok none (fun σ1 => smP pO σ σ1 ∧ oC σ1 M)) := by
  intro uu
  induction uu with
  | zero =>
    intro i τ hi hI
    obtain rfl : n = i := by omega
    refine R_iload rfl rfl ?_
    refine R_bipush (v := 19) rfl (by decide) ?_
    refine R_nicmp_ge (x := n) (y := 19) rfl rfl (by omega) (by omega) (fun h1 => ?_) (fun h1 => ?_)
    · exact T_return rfl rfl (am_okv0 ⟨hI.1, by rw [← hM]; exact hI.2⟩)
    · refine R_lload rfl rfl ?_
      refine R_lconst (v := 0) rfl rfl ?_
      refine R_l_le rfl rfl rfl (fun h2 => ?_) (fun z => absurd sc_z z)
      exact T_return rfl rfl (am_okv0 ⟨hI.1, by rw [← hM]; exact hI.2⟩)
  | succ uu ih =>
    intro i τ hi hI
    refine R_iload rfl rfl ?_
    refine R_bipush (v := 19) rfl (by decide) ?_
    refine R_nicmp_ge (x := i) (y := 19) rfl rfl (by omega) (by omega) (fun z => by omega) (fun h1 => ?_)
    refine R_lload rfl rfl ?_
    refine R_lconst (v := 0) rfl rfl ?_
    refine R_l_le rfl rfl rfl (fun z => absurd z (sc_pos (by omega) (by omega))) (fun h2 => ?_)
    refine R_aload_n rfl rfl ?_
    refine R_bipush (v := 48) rfl (by decide) ?_
    refine R_lload_n rfl rfl ?_
    refine R_lload rfl rfl ?_
    refine R_ldiv rfl (sc_ne (by omega) (by omega)) ?_
    refine R_ldc2 (v := 10) rfl (by decide) ?_
    refine R_lrem rfl (by decide) ?_
    refine R_l2i rfl ?_
    refine R_iadd rfl ?_
    refine R_cV (as := [.int (48 + (((m / (sc (n - i))) - (m / (sc (n - i))) / 10 * 10).toInt32))]) rfl rfl iv_Output_addByte (sp_addByte (x := (48 + (((m / (sc (n - i))) - (m / (sc (n - i))) / 10 * 10).toInt32))) hI.2 (by rw [List.length_append, dgP_len]; omega)) (by omega) rfl rfl rfl (by decide) rfl rfl (Nat.le_of_ble_eq_true rfl) (fun τ1 hτ1 => ?_)
    obtain ⟨pτ1, oτ1⟩ := hτ1
    refine R_lload rfl rfl ?_
    refine R_ldc2 (v := 10) rfl (by decide) ?_
    refine R_ldiv rfl (by decide) ?_
    refine R_lstore rfl (by decide) ?_
    refine R_iincN (x := i) (m := 1) rfl rfl rfl (by decide) ?_
    refine R_goto rfl rfl ?_
    have e := ih (i + 1) τ1 (by omega) ⟨hI.1.trans pτ1, by show oC _ (L ++ (dgP m n i ++ [dgt m (sc (n - i))])); rw [← List.append_assoc]; exact oτ1⟩
    rw [show sc (n - i) / 10 = sc (n - (i + 1)) from by rw [sc_d (by omega) (by omega), show n - i - 1 = n - (i + 1) by omega]]
    exact e.weak ⟨rfl, rfl, rfl, rfl, rfl, trivial⟩
set_option maxRecDepth 100000 in
set_option maxHeartbeats 4000000 in
theorem sp_addNumber {σ : am_G} {L : List Int32} {v : Int64} (h : oC σ L) (hl : L.length + 20 ≤ 1000) : am_Call am_TX 1 0 c_Output_addNumber [.ref 14, .long v] (mm σ) (am_Ok none (fun σ1 => smP pO σ σ1 ∧ oC σ1 (L ++ nuL v))) := by
  refine ⟨mf_Output_addNumber, Nat.le_of_ble_eq_true rfl, ?_⟩
  refine R_lload_n rfl rfl ?_
  refine R_cS (as := [.long v]) rfl rfl iv_JMath_abs (sp_abs) (by decide) rfl rfl rfl rfl (Nat.le_of_ble_eq_true rfl) (fun _ q => ?_)
  obtain rfl := q.symm
  refine R_lstore_n rfl (by decide) ?_
  refine R_lconst (v := 1) rfl rfl ?_
  refine R_lstore rfl (by decide) ?_
  refine R_iconst (v := 0) rfl rfl ?_
  refine R_istore rfl (by decide) ?_
  refine (lp_num1 (v := v) (m := absL v) ?_ 18 0 rfl (by omega)).weak ⟨rfl, rfl, rfl, rfl, rfl, trivial⟩
  refine R_lload_n rfl rfl ?_
  refine R_lconst (v := 0) rfl rfl ?_
  refine R_l_ge rfl rfl rfl (fun h1 => ?_) (fun h1 => ?_)
  · refine R_iconst (v := 0) rfl rfl ?_
    refine R_istore rfl (by decide) ?_
    exact (lp_num2 (L := L) nuN_le (by omega) (by unfold nuL; rw [if_neg (fun z => in_b z h1), List.nil_append]) (by omega) (nuN v) 0 σ (by omega) ⟨smP.refl, by rw [show dgP (absL v) (nuN v) 0 = [] from rfl, List.append_nil]; exact h⟩).weak ⟨rfl, rfl, rfl, rfl, rfl, trivial⟩
  · refine R_aload_n rfl rfl ?_
    refine R_bipush (v := 45) rfl (by decide) ?_
    refine R_cV (as := [.int 45]) rfl rfl iv_Output_addByte (sp_addByte (x := 45) h (by first | omega | (simp only [List.length_append, List.length_cons, List.length_nil]; omega))) (by decide) rfl rfl rfl (by decide) rfl rfl (Nat.le_of_ble_eq_true rfl) (fun τ2 hτ2 => ?_)
    obtain ⟨pτ2, oτ2⟩ := hτ2
    refine R_iconst (v := 0) rfl rfl ?_
    refine R_istore rfl (by decide) ?_
    exact (lp_num2 (L := L ++ [45]) nuN_le (by rw [List.length_append]; show L.length + 1 + 19 ≤ 1000; omega) (by unfold nuL; rw [if_pos (Int64.not_le.mp h1), List.append_assoc]) (by omega) (nuN v) 0 τ2 (by omega) ⟨pτ2, by rw [show dgP (absL v) (nuN v) 0 = [] from rfl, List.append_nil]; exact oτ2⟩).weak ⟨rfl, rfl, rfl, rfl, rfl, trivial⟩
