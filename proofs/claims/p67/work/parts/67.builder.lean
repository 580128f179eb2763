/-! ===== StringBuilder: its capacity ===== -/
/-- an own object of class ci at p; an own array of n bytes at v -/
def oA (ρ : am_Y) (p ci : Nat) : Prop := 120 ≤ p ∧ ρ.1[p - 120]? = some (0, ci)
def bA (ρ : am_Y) (v n : Nat) : Prop := 120 ≤ v ∧ ρ.1[v - 120]? = some (3, n)
theorem oA.S {σ : am_G} {ρ : am_Y} {p ci : Nat} (h : oA ρ p ci) : (ml σ ρ).1[p]? = some (0, ci) := ml_hi h.1 h.2
theorem bA.S {σ : am_G} {ρ : am_Y} {v n : Nat} (h : bA ρ v n) : (ml σ ρ).1[v]? = some (3, n) := ml_hi h.1 h.2
theorem oA.lt {ρ : am_Y} {p ci : Nat} (h : oA ρ p ci) : p < yl ρ := by
  have h1 := (List.getElem?_eq_some_iff.mp h.2).1
  have h2 := h.1
  unfold yl
  omega
theorem bA.lt {ρ : am_Y} {v n : Nat} (h : bA ρ v n) : v < yl ρ := by
  have h1 := (List.getElem?_eq_some_iff.mp h.2).1
  have h2 := h.1
  unfold yl
  omega
theorem bA.ne {ρ : am_Y} {p ci v n : Nat} (h : bA ρ v n) (h2 : oA ρ p ci) : v ≠ p := by
  intro e
  subst e
  have h3 := h.2.symm.trans h2.2
  cases h3
theorem y_1 {ρ : am_Y} : yl ρ - 120 = ρ.1.length := by unfold yl; omega
theorem y_0 {ρ : am_Y} : 120 ≤ yl ρ := by unfold yl; omega
theorem nY_old {ρ : am_Y} {sh : Nat × Nat} {j : Nat} {s : Nat × Nat} (h : ρ.1[j]? = some s) : (nY ρ sh).1[j]? = some s := by
  show (ρ.1 ++ [sh])[j]? = _
  rw [List.getElem?_append_left (List.getElem?_eq_some_iff.mp h).1]
  exact h
theorem nY_new {ρ : am_Y} {sh : Nat × Nat} : (nY ρ sh).1[yl ρ - 120]? = some sh := by
  show (ρ.1 ++ [sh])[yl ρ - 120]? = _
  rw [y_1, List.getElem?_append_right (Nat.le_refl _), Nat.sub_self]
  rfl
theorem oA.up {ρ : am_Y} {p ci : Nat} {sh : Nat × Nat} (h : oA ρ p ci) : oA (nY ρ sh) p ci := ⟨h.1, nY_old h.2⟩
theorem bA.up {ρ : am_Y} {v n : Nat} {sh : Nat × Nat} (h : bA ρ v n) : bA (nY ρ sh) v n := ⟨h.1, nY_old h.2⟩
theorem bA_new {ρ : am_Y} {n : Nat} : bA (nY ρ (3, n)) (yl ρ) n := ⟨y_0, nY_new⟩
theorem oA_new {ρ : am_Y} {ci : Nat} : oA (nY ρ (0, ci)) (yl ρ) ci := ⟨y_0, nY_new⟩
/-- a builder at p, its bytes at v, room for cap of them, the text T -/
def sB (σ : am_G) (ρ : am_Y) (p v cap : Nat) (T : List Int32) : Prop :=
  (oA ρ p 11 ∧ ρ.2 p 0 = some v ∧ σ.1 p 1 = 0 ∧ σ.1 p 3 = nI T.length) ∧ (bA ρ v cap ∧ T.length ≤ cap ∧ cap ≤ 900) ∧ ((∀ j, j < T.length → σ.1 v j = T.getD j 0) ∧ ∀ j, j < cap → fits .byte (.int (σ.1 v j)) = true) ∧ yOk ρ
/-- what a builder's call leaves alone: all but p, its bytes v, and new places (n of them at most) -/
def gx (p v n : Nat) (σ : am_G) (ρ : am_Y) (σ1 : am_G) (ρ1 : am_Y) : Prop :=
  (yl ρ ≤ yl ρ1 ∧ yl ρ1 ≤ yl ρ + n) ∧ (∀ (j : Nat) (s : Nat × Nat), ρ.1[j]? = some s → ρ1.1[j]? = some s) ∧ (∀ a b, a < yl ρ → a ≠ p → ρ1.2 a b = ρ.2 a b) ∧ (∀ a b, (a < yl ρ ∨ 1000 ≤ a) → a ≠ p → a ≠ v → σ1.1 a b = σ.1 a b) ∧ (∀ a b, (a < yl ρ ∨ 1000 ≤ a) → σ1.2.1 a b = σ.2.1 a b) ∧ σ1.2.2 = σ.2.2
theorem gx.rf {p v n : Nat} {σ : am_G} {ρ : am_Y} : gx p v n σ ρ σ ρ := ⟨⟨Nat.le_refl _, Nat.le_add_right _ _⟩, fun _ _ h => h, fun _ _ _ _ => rfl, fun _ _ _ _ _ => rfl, fun _ _ _ => rfl, rfl⟩
theorem gx.tr {p v v1 n m : Nat} {σ σ1 σ2 : am_G} {ρ ρ1 ρ2 : am_Y} (h1 : gx p v n σ ρ σ1 ρ1) (hv : v1 = v ∨ yl ρ ≤ v1) (hv2 : v1 < 1000) (h2 : gx p v1 m σ1 ρ1 σ2 ρ2) : gx p v (n + m) σ ρ σ2 ρ2 := by
  obtain ⟨⟨a1, a2⟩, a3, a4, a5, a6, a7⟩ := h1
  obtain ⟨⟨b1, b2⟩, b3, b4, b5, b6, b7⟩ := h2
  refine ⟨⟨by omega, by omega⟩, fun j s h => b3 j s (a3 j s h), fun a b h hp => (b4 a b (by omega) hp).trans (a4 a b h hp), fun a b h hp hv3 => (b5 a b (by omega) hp (by omega)).trans (a5 a b h hp hv3), fun a b h => (b6 a b (by omega)).trans (a6 a b h), b7.trans a7⟩
/-- a builder, and what was left alone since σ0, ρ0 -/
def sbP (p v0 n : Nat) (T : List Int32) (σ0 : am_G) (ρ0 : am_Y) (σ : am_G) (ρ : am_Y) : Prop := ∃ v cap, sB σ ρ p v cap T ∧ (v = v0 ∨ yl ρ0 ≤ v) ∧ gx p v0 n σ0 ρ0 σ ρ
theorem shl0n {q : Nat} : nI q <<< ((0 : Int32) &&& 31) = nI q := sb_shl0 _
theorem dif_le {a b : Nat} (ha : a < 2 ^ 30) (hb : b < 2 ^ 30) : nI a - nI b ≤ 0 ↔ a ≤ b := by
  rw [Int32.le_iff_toInt_le, pk_sub_toInt (by omega) (by omega), show (0 : Int32).toInt = 0 from rfl]
  omega
section SBU
variable {σ : am_G} {ρ : am_Y} {p v cap q : Nat} {T : List Int32}
theorem pb_lat (hp : oA ρ p 11) (h1 : σ.1 p 1 = 0) : am_Call am_TX 0 0 c_JASB_isLatin1 [.ref p] (ml σ ρ) (am_Pu (some (.int 1)) (ml σ ρ)) := by
  refine ⟨mf_JASB_isLatin1, Nat.le_of_ble_eq_true rfl, ?_⟩
  refine R_bcs rfl (by decide +kernel) ?_
  refine R_if_eq rfl rfl (fun z => absurd z (by decide)) (fun _ => ?_)
  refine R_aload_n rfl rfl ?_
  refine Y_gIx (y := 0) rfl hp.S fd_11_1 h1 ?_
  refine R_if_ne rfl rfl (fun z => absurd rfl z) (fun _ => ?_)
  refine R_iconst (v := 1) rfl rfl ?_
  refine R_goto rfl rfl ?_
  exact T_nreturn rfl rfl rfl (am_pui rfl)
theorem pb_newLen {μ : am_M} {a g r : Nat} (h : 0 < a + max g r) (ha : a + max g r ≤ 2000) : am_Call am_TX 1 0 c_JSupport_newLength [.int (nI a), .int (nI g), .int (nI r)] μ (am_Pu (some (.int (nI (a + max g r)))) μ) := by
  refine ⟨mf_JSupport_newLength, Nat.le_of_ble_eq_true rfl, ?_⟩
  have hg : g ≤ max g r := Nat.le_max_left _ _
  have hr : r ≤ max g r := Nat.le_max_right _ _
  refine R_iload_n rfl rfl ?_
  refine R_iload_n rfl rfl ?_
  refine R_iload_n rfl rfl ?_
  refine R_pS (as := [.int (nI g), .int (nI r)]) rfl rfl iv_JMath_max pu_max (by decide) rfl rfl rfl rfl (Nat.le_of_ble_eq_true rfl) ?_
  rw [mx_nI (by omega) (by omega)]
  refine R_iaddN (x := a) (y := max g r) rfl ?_
  refine R_istore_n rfl (by decide) ?_
  refine R_iconst (v := 0) rfl rfl ?_
  refine R_iload_n rfl rfl ?_
  refine R_icmp_ge rfl rfl (fun z => ?_) (fun _ => ?_)
  · exfalso
    rw [Int32.le_iff_toInt_le, nI_toInt (by omega), show (0 : Int32).toInt = 0 from rfl] at z
    omega
  refine R_iload_n rfl rfl ?_
  refine R_ldci (b := 0) (v := 2147483639) rfl (by decide) ?_
  refine R_icmp_gt rfl rfl (fun z => ?_) (fun _ => ?_)
  · exfalso
    rw [Int32.lt_iff_toInt_lt, nI_toInt (by omega), show (2147483639 : Int32).toInt = 2147483639 from rfl] at z
    omega
  refine R_iload_n rfl rfl ?_
  exact T_ireturn rfl rfl (am_pui rfl)
/-- the greater capacity -/
def sbC (cap q : Nat) : Nat := cap + max (q - cap) (cap + 2)
theorem sbC_le {cap q : Nat} (h : cap < q) (hq : q ≤ 400) : q ≤ sbC cap q ∧ sbC cap q ≤ 900 ∧ cap < sbC cap q := by
  unfold sbC
  have h1 : q - cap ≤ max (q - cap) (cap + 2) := Nat.le_max_left _ _
  have h2 : max (q - cap) (cap + 2) ≤ 401 + cap := Nat.max_le.mpr ⟨by omega, by omega⟩
  have h3 : cap + 2 ≤ max (q - cap) (cap + 2) := Nat.le_max_right _ _
  refine ⟨by omega, ?_, by omega⟩
  rcases Nat.le_total (q - cap) (cap + 2) with h4 | h4
  · rw [Nat.max_eq_right h4]; omega
  · rw [Nat.max_eq_left h4]; omega
theorem pb_cap (h : sB σ ρ p v cap T) (hq : cap < q) (hq4 : q ≤ 400) : am_Call am_TX 2 0 c_JASB_newCapacity [.ref p, .int (nI q)] (ml σ ρ) (am_Pu (some (.int (nI (sbC cap q)))) (ml σ ρ)) := by
  obtain ⟨⟨g1, g2, g3, g4⟩, ⟨g5, g6, g7⟩, -, -⟩ := h
  obtain ⟨s1, s2, s3⟩ := sbC_le hq hq4
  refine ⟨mf_JASB_newCapacity, Nat.le_of_ble_eq_true rfl, ?_⟩
  refine R_aload_n rfl rfl ?_
  refine Y_gP (x := v) rfl g1.S fp_11_0 g1.1 g2 ?_
  refine Y_aln rfl g5.S (by decide) rfl ?_
  refine R_istore_n rfl (by decide) ?_
  refine R_iload_n rfl rfl ?_
  refine R_aload_n rfl rfl ?_
  refine Y_gIx (y := 0) rfl g1.S fd_11_1 g3 ?_
  refine R_ishl rfl ?_
  rw [shl0n]
  refine R_istore_n rfl (by decide) ?_
  refine R_iload_n rfl rfl ?_
  refine R_iload_n rfl rfl ?_
  refine R_isubN (x := q) (y := cap) rfl (by omega) ?_
  refine R_istore rfl (by decide) ?_
  refine R_iload_n rfl rfl ?_
  refine R_iload rfl rfl ?_
  refine R_iload_n rfl rfl ?_
  refine R_iconst (v := 2) rfl rfl ?_
  refine R_aload_n rfl rfl ?_
  refine Y_gIx (y := 0) rfl g1.S fd_11_1 g3 ?_
  refine R_ishl rfl ?_
  rw [sb_shl0]
  refine R_iaddN (x := cap) (y := 2) rfl ?_
  refine R_pS (as := [.int (nI cap), .int (nI (q - cap)), .int (nI (cap + 2))]) rfl rfl iv_JSupport_newLength (pb_newLen (by unfold sbC at s3; omega) (by unfold sbC at s2; omega)) (by decide) rfl rfl rfl rfl (Nat.le_of_ble_eq_true rfl) ?_
  refine R_istore rfl (by decide) ?_
  refine R_iload rfl rfl ?_
  refine R_ldci (b := 0) (v := 2147483647) rfl (by decide) ?_
  refine R_icmp_ne rfl rfl (fun _ => ?_) (fun z => ?_)
  · refine R_iload rfl rfl ?_
    refine R_aload_n rfl rfl ?_
    refine Y_gIx (y := 0) rfl g1.S fd_11_1 g3 ?_
    refine R_ishr rfl ?_
    rw [sb_shr0]
    exact T_ireturn rfl rfl (am_pui rfl)
  · exfalso
    have h9 := congrArg Int32.toInt z
    rw [nI_toInt (by unfold sbC at s2; omega), show (2147483647 : Int32).toInt = 2147483647 from rfl] at h9
    unfold sbC at s2
    omega
theorem nN_o {σ : am_G} {n a b : Nat} (h : a ≠ n) : (nN σ n).1 a b = σ.1 a b := if_neg h
theorem cp_in {f g : Nat → Int32} {sp dp n j : Nat} (h : dp ≤ j) (h2 : j < dp + n) : va_cpy f g sp dp n j = f (sp + (j - dp)) := if_pos ⟨h, h2⟩
theorem cp_out {f g : Nat → Int32} {sp dp n j : Nat} (h : ¬ (dp ≤ j ∧ j < dp + n)) : va_cpy f g sp dp n j = g j := if_neg h
theorem cpY_w {σ : am_G} {f : Nat → Int32} {w sp dp n j : Nat} : (cpY σ f w sp dp n).1 w j = va_cpy f (σ.1 w) sp dp n j := if_pos rfl
theorem cpY_o {σ : am_G} {f : Nat → Int32} {w sp dp n a j : Nat} (h : a ≠ w) : (cpY σ f w sp dp n).1 a j = σ.1 a j := if_neg h
theorem fb_0 : fits .byte (.int (0 : Int32)) = true := rfl
/-- Arrays.copyOf, a greater length -/
theorem pb_copyOf {n : Nat} (hb : bA ρ v n) (hnq : n < q) (hq : q ≤ 1000) (hfit : ∀ i, i < n → fits .byte (.int (σ.1 v i)) = true) (hok : yOk ρ) (hl : yl ρ < 1000) : am_Call am_TX 1 1 c_JArrays_copyOf [.ref v, .int (nI q)] (ml σ ρ) (am_Oy (some (.ref (yl ρ))) (fun σ1 ρ1 => σ1 = cpY (nN σ (yl ρ)) (σ.1 v) (yl ρ) 0 0 n ∧ ρ1 = nY ρ (3, q))) := by
  have hvl := hb.lt
  have hne : v ≠ yl ρ := by omega
  refine ⟨mf_JArrays_copyOf, Nat.le_of_ble_eq_true rfl, ?_⟩
  refine R_iload_n rfl rfl ?_
  refine R_aload_n rfl rfl ?_
  refine Y_aln rfl hb.S (by decide) rfl ?_
  refine R_nicmp_ne (x := q) (y := n) rfl rfl (by omega) (by omega) (fun _ => ?_) (fun z => by omega)
  refine R_iload_n rfl rfl ?_
  refine Y_newB (k := 0) (N := q) rfl rfl hq (okL_n).all (okO_r hvl (okO_i (okO_0 okO_n))).all hok hl ?_
  have hb2 : bA (nY ρ (3, q)) v n := hb.up
  have hn2 : bA (nY ρ (3, q)) (yl ρ) q := bA_new
  refine R_astore_n rfl (by decide) ?_
  refine R_aload_n rfl rfl ?_
  refine R_iconst (v := 0) rfl rfl ?_
  refine R_aload_n rfl rfl ?_
  refine R_iconst (v := 0) rfl rfl ?_
  refine R_aload_n rfl rfl ?_
  refine Y_aln rfl hb2.S (by decide) rfl ?_
  refine R_iload_n rfl rfl ?_
  refine R_pS (as := [.int (nI n), .int (nI q)]) rfl rfl iv_JMath_min pu_min (by decide) rfl rfl rfl rfl (Nat.le_of_ble_eq_true rfl) ?_
  rw [mn_nI (by omega) (by omega), Nat.min_eq_left (by omega)]
  refine R_cpy (sp := 0) (dp := 0) (n := n) (by decide +kernel) jn_arr hb2.S hn2.S (by omega) (by omega) ⟨by omega, by omega⟩ (fun i hi => ?_) (Nat.le_of_ble_eq_true rfl) ?_
  · rw [Nat.zero_add]
    show fits .byte (.int ((nN σ (yl ρ)).1 v i)) = true
    rw [nN_o hne]
    exact hfit i hi
  · rw [ml_cp]
    refine R_aload_n rfl rfl ?_
    refine T_areturnA rfl rfl ⟨_, _, rfl, ?_, rfl⟩
    have e : (ml (nN σ (yl ρ)) (nY ρ (3, q))).2.1 v = σ.1 v := funext fun b => nN_o hne
    rw [e]
/-- AbstractStringBuilder.ensureCapacityInternal -/
theorem pb_ens (h : sB σ ρ p v cap T) (hq4 : q ≤ 400) (hl : yl ρ < 1000) : am_Call am_TX 3 1 c_JASB_ensureCapacityInternal [.ref p, .int (nI q)] (ml σ ρ) (am_Oy none (fun σ1 ρ1 => ∃ v1 cap1, sB σ1 ρ1 p v1 cap1 T ∧ q ≤ cap1 ∧ (v1 = v ∨ yl ρ ≤ v1) ∧ gx p v 1 σ ρ σ1 ρ1)) := by
  obtain ⟨⟨g1, g2, g3, g4⟩, ⟨g5, g6, g7⟩, ⟨g8, g9⟩, g10⟩ := id h
  have hpl := g1.lt
  have hvl := g5.lt
  refine ⟨mf_JASB_ensureCapacityInternal, Nat.le_of_ble_eq_true rfl, ?_⟩
  refine R_aload_n rfl rfl ?_
  refine Y_gP (x := v) rfl g1.S fp_11_0 g1.1 g2 ?_
  refine Y_aln rfl g5.S (by decide) rfl ?_
  refine R_aload_n rfl rfl ?_
  refine Y_gIx (y := 0) rfl g1.S fd_11_1 g3 ?_
  refine R_ishr rfl ?_
  rw [sb_shr0]
  refine R_istore_n rfl (by decide) ?_
  refine R_iload_n rfl rfl ?_
  refine R_iload_n rfl rfl ?_
  refine R_isub rfl ?_
  refine R_if_le rfl rfl (fun z => ?_) (fun z => ?_)
  · have hle := (dif_le (by omega) (by omega)).mp z
    exact T_return rfl rfl ⟨σ, ρ, rfl, v, cap, h, hle, Or.inl rfl, gx.rf⟩
  · have hlt : cap < q := Nat.not_le.mp fun y => z ((dif_le (by omega) (by omega)).mpr y)
    obtain ⟨s1, s2, s3⟩ := sbC_le hlt hq4
    refine R_aload_n rfl rfl ?_
    refine R_aload_n rfl rfl ?_
    refine Y_gP (x := v) rfl g1.S fp_11_0 g1.1 g2 ?_
    refine R_aload_n rfl rfl ?_
    refine R_iload_n rfl rfl ?_
    refine R_pV (as := [.int (nI q)]) (by decide +kernel) jw_cap iv_JASB_newCapacity (pb_cap h hlt hq4) (by decide) rfl rfl g1.S (by decide) rfl (Nat.le_of_ble_eq_true rfl) ?_
    refine R_aload_n rfl rfl ?_
    refine Y_gIx (y := 0) rfl g1.S fd_11_1 g3 ?_
    refine R_ishl rfl ?_
    rw [shl0n]
    refine Y_cS (k := 0) (as := [.ref v, .int (nI (sbC cap q))]) rfl rfl iv_JArrays_copyOf (pb_copyOf (q := sbC cap q) g5 s3 (by omega) g9 g10 hl) (by decide) rfl rfl rfl rfl (Nat.le_of_ble_eq_true rfl) (okL_r hpl okL_n) (okO_r hpl (okO_i (okO_i okO_n))) (fun σ1 ρ1 hq => ?_)
    obtain ⟨rfl, rfl⟩ := hq
    refine Y_pP rfl (g1.up (sh := (3, sbC cap q))).S fp_11_0 rfl g1.1 (fun _ => rfl) (fun _ => rfl) ?_
    have hpn : p ≠ yl ρ := by omega
    have hvn : v ≠ yl ρ := by omega
    refine T_return rfl rfl ⟨_, _, rfl, yl ρ, sbC cap q, ⟨⟨g1.up, ?_, ?_, ?_⟩, ⟨bA_new, by omega, s2⟩, ⟨fun j hj => ?_, fun j hj => ?_⟩, pY_ok (nY_ok g10) (by rw [nY_l]; omega)⟩, s1, Or.inr (Nat.le_refl _), ⟨?_, ?_⟩, ?_, ?_, ?_, ?_, rfl⟩
    · show (if p = p then (if (0 : Nat) = 0 then some (yl ρ) else _) else _) = _
      rw [if_pos rfl, if_pos rfl]
    · rw [cpY_o hpn, nN_o hpn]; exact g3
    · rw [cpY_o hpn, nN_o hpn]; exact g4
    · rw [cpY_w, cp_in (Nat.zero_le _) (by omega), Nat.zero_add, Nat.sub_zero]
      exact g8 j hj
    · rw [cpY_w]
      by_cases hj2 : j < cap
      · rw [cp_in (Nat.zero_le _) (by omega), Nat.zero_add, Nat.sub_zero]
        exact g9 j hj2
      · rw [cp_out (by omega)]
        show fits .byte (.int (if yl ρ = yl ρ then 0 else _)) = true
        rw [if_pos rfl]
        rfl
    · rw [pY_l, nY_l]; exact Nat.le_succ _
    · rw [pY_l, nY_l]; exact Nat.le_refl _
    · exact fun j s hs => nY_old hs
    · intro a b ha hap
      show (if a = p then _ else (nY ρ (3, sbC cap q)).2 a b) = _
      rw [if_neg hap]
      exact if_neg (by omega)
    · intro a b ha hap hav
      rw [cpY_o (by omega), nN_o (by omega)]
    · intro a b ha
      show (if a = yl ρ then 0 else σ.2.1 a b) = _
      exact if_neg (by omega)
end SBU
