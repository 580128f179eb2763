/-! ===== the script, the static arrays, constants ===== -/
/-- the script's numbers -/
theorem R_sld {Tx : am_Tx} {d k : Nat} {c : am_C} {pc a b : Nat} {ls : List (Option Value)} {st : List Value} {μ : am_M} {Q : am_Res → Prop} {i : Int32} {j L : Nat} (hc : c.2 pc = some (.iaload, 1, a, b)) (hL : μ.2.1 3001 0 = nI L) (hL2 : L ≤ 3072) (hi : i = nI j) (hj : j < L) (h : am_R Tx d k c (pc + 1) ls (.int (μ.2.1 3000 j) :: st) μ Q) : am_R Tx d k c pc ls (.int i :: .ref 3000 :: st) μ Q := by
  intro D b0 en p l e Rm s m args below meth cc H locs cells slots mc ms la C B Wd S L1 hk
  obtain ⟨Ln, x1, x2, x3, x4⟩ := Wd.2.2.2.2.1
  have hb : en.1 3000 < s.heap.size := Nat.not_le.mp fun z => x4 (B.2.1 _ z)
  have hLn : Ln = L := by
    have h1 := congrArg Int32.toNatClampNeg (x2.trans hL)
    rw [nI_clamp (by omega), nI_clamp (by omega)] at h1
    exact h1
  subst hi
  refine va_sld C.1.1 C.1.2.1 (x1.kept (S.2.1 _ hb x4).symm) hb x4 S (vp_in_nI (by omega) (by omega)) (C.2.2.2.2.1 pc _ hc) ?_
  rw [nI_clamp (by omega)]
  exact h D b0 en p l e Rm s m args below meth cc H locs cells slots mc ms la C B Wd S L1 hk
theorem R_slen {Tx : am_Tx} {d k : Nat} {c : am_C} {pc a b : Nat} {ls : List (Option Value)} {st : List Value} {μ : am_M} {Q : am_Res → Prop} {L : Nat} (hc : c.2 pc = some (.arraylength, 1, a, b)) (hL : μ.2.1 3001 0 = nI L) (hL2 : L ≤ 3072) (h : am_R Tx d k c (pc + 1) ls (.int (nI L) :: st) μ Q) : am_R Tx d k c pc ls (.ref 3000 :: st) μ Q := by
  intro D b0 en p l e Rm s m args below meth cc H locs cells slots mc ms la C B Wd S L1 hk
  obtain ⟨Ln, x1, x2, x3, x4⟩ := Wd.2.2.2.2.1
  have hb : en.1 3000 < s.heap.size := Nat.not_le.mp fun z => x4 (B.2.1 _ z)
  have hLn : Ln = L := by
    have h1 := congrArg Int32.toNatClampNeg (x2.trans hL)
    rw [nI_clamp (by omega), nI_clamp (by omega)] at h1
    exact h1
  subst hLn
  exact va_slen C.1.1 C.1.2.1 (x1.kept (S.2.1 _ hb x4).symm) hb x4 S (C.2.2.2.2.1 pc _ hc) (h D b0 en p l e Rm s m args below meth cc H locs cells slots mc ms la C B Wd S L1 hk)

theorem R_gsP {Tx : am_Tx} {d k : Nat} {c : am_C} {pc : Nat} {ls : List (Option Value)} {st : List Value} {μ : am_M} {Q : am_Res → Prop} {idx : Nat} (hcl : c.1.1.cls = "RankDeskLaw") (hdg : decode c.1.2.1 pc = .ok (.getstatic idx, 3)) (hw : Cond.fieldLink "RankDeskLaw" idx "RankDeskLaw" "PRIMES" "[I" ∈ am_W) (h : am_R Tx d k c (pc + 3) ls (.ref 4001 :: st) μ Q) : am_R Tx d k c pc ls st μ Q := by
  intro D b0 en p l e Rm s m args below meth cc H locs cells slots mc ms la C B Wd S L hk
  exact va_gets C.1.1 C.1.2.1 B.2.2.2.2.2.2.2.2.2.2.2.1.1 S (hcl ▸ C.2.1.1) (C.2.1.2.1 _ hw) (fun _ z => z) hdg (h D b0 en p l e Rm s m args below meth cc H locs cells slots mc ms la C B Wd S L hk)
theorem R_gsO {Tx : am_Tx} {d k : Nat} {c : am_C} {pc : Nat} {ls : List (Option Value)} {st : List Value} {μ : am_M} {Q : am_Res → Prop} {idx : Nat} (hcl : c.1.1.cls = "java/lang/Integer") (hdg : decode c.1.2.1 pc = .ok (.getstatic idx, 3)) (hw : Cond.fieldLink "java/lang/Integer" idx "java/lang/Integer" "DigitOnes" "[B" ∈ am_W) (h : am_R Tx d k c (pc + 3) ls (.ref 4002 :: st) μ Q) : am_R Tx d k c pc ls st μ Q := by
  intro D b0 en p l e Rm s m args below meth cc H locs cells slots mc ms la C B Wd S L hk
  exact va_gets C.1.1 C.1.2.1 B.2.2.2.2.2.2.2.2.2.2.2.2.1.1 S (hcl ▸ C.2.1.1) (C.2.1.2.1 _ hw) (fun _ z => z) hdg (h D b0 en p l e Rm s m args below meth cc H locs cells slots mc ms la C B Wd S L hk)
theorem R_gsT {Tx : am_Tx} {d k : Nat} {c : am_C} {pc : Nat} {ls : List (Option Value)} {st : List Value} {μ : am_M} {Q : am_Res → Prop} {idx : Nat} (hcl : c.1.1.cls = "java/lang/Integer") (hdg : decode c.1.2.1 pc = .ok (.getstatic idx, 3)) (hw : Cond.fieldLink "java/lang/Integer" idx "java/lang/Integer" "DigitTens" "[B" ∈ am_W) (h : am_R Tx d k c (pc + 3) ls (.ref 4003 :: st) μ Q) : am_R Tx d k c pc ls st μ Q := by
  intro D b0 en p l e Rm s m args below meth cc H locs cells slots mc ms la C B Wd S L hk
  exact va_gets C.1.1 C.1.2.1 B.2.2.2.2.2.2.2.2.2.2.2.2.2.1 S (hcl ▸ C.2.1.1) (C.2.1.2.1 _ hw) (fun _ z => z) hdg (h D b0 en p l e Rm s m args below meth cc H locs cells slots mc ms la C B Wd S L hk)
theorem R_pld {Tx : am_Tx} {d k : Nat} {c : am_C} {pc a b : Nat} {ls : List (Option Value)} {st : List Value} {μ : am_M} {Q : am_Res → Prop} {i : Int32} {j : Nat} (hc : c.2 pc = some (.iaload, 1, a, b)) (hi : i = nI j) (hj : j < 25) (h : am_R Tx d k c (pc + 1) ls (.int (prT.getD j 0) :: st) μ Q) : am_R Tx d k c pc ls (.int i :: .ref 4001 :: st) μ Q := by
  intro D b0 en p l e Rm s m args below meth cc H locs cells slots mc ms la C B Wd S L hk
  subst hi
  refine va_ti C.1.1 C.1.2.1 B.2.2.2.2.2.2.2.2.2.2.2.1.2 S (vp_in_nI hj (by decide)) (v := .int (prT.getD j 0)) ?_ (C.2.2.2.2.1 pc _ hc) (h D b0 en p l e Rm s m args below meth cc H locs cells slots mc ms la C B Wd S L hk)
  rw [nI_clamp (by omega)]
theorem R_pln {Tx : am_Tx} {d k : Nat} {c : am_C} {pc a b : Nat} {ls : List (Option Value)} {st : List Value} {μ : am_M} {Q : am_Res → Prop} (hc : c.2 pc = some (.arraylength, 1, a, b)) (h : am_R Tx d k c (pc + 1) ls (.int 25 :: st) μ Q) : am_R Tx d k c pc ls (.ref 4001 :: st) μ Q := by
  intro D b0 en p l e Rm s m args below meth cc H locs cells slots mc ms la C B Wd S L hk
  exact va_tlen C.1.1 C.1.2.1 B.2.2.2.2.2.2.2.2.2.2.2.1.2 S rfl (C.2.2.2.2.1 pc _ hc) (h D b0 en p l e Rm s m args below meth cc H locs cells slots mc ms la C B Wd S L hk)
theorem R_dgO {Tx : am_Tx} {d k : Nat} {c : am_C} {pc a b : Nat} {ls : List (Option Value)} {st : List Value} {μ : am_M} {Q : am_Res → Prop} {i : Int32} {j : Nat} (hc : c.2 pc = some (.baload, 1, a, b)) (hi : i = nI j) (hj : j < 100) (h : am_R Tx d k c (pc + 1) ls (.int (dgO j) :: st) μ Q) : am_R Tx d k c pc ls (.int i :: .ref 4002 :: st) μ Q := by
  intro D b0 en p l e Rm s m args below meth cc H locs cells slots mc ms la C B Wd S L hk
  subst hi
  refine va_tb C.1.1 C.1.2.1 B.2.2.2.2.2.2.2.2.2.2.2.2.1.2 S (vp_in_nI hj (by decide)) (v := .int (dgO j)) ?_ (C.2.2.2.2.1 pc _ hc) (h D b0 en p l e Rm s m args below meth cc H locs cells slots mc ms la C B Wd S L hk)
  rw [nI_clamp (by omega)]
theorem R_dgT {Tx : am_Tx} {d k : Nat} {c : am_C} {pc a b : Nat} {ls : List (Option Value)} {st : List Value} {μ : am_M} {Q : am_Res → Prop} {i : Int32} {j : Nat} (hc : c.2 pc = some (.baload, 1, a, b)) (hi : i = nI j) (hj : j < 100) (h : am_R Tx d k c (pc + 1) ls (.int (dgT j) :: st) μ Q) : am_R Tx d k c pc ls (.int i :: .ref 4003 :: st) μ Q := by
  intro D b0 en p l e Rm s m args below meth cc H locs cells slots mc ms la C B Wd S L hk
  subst hi
  refine va_tb C.1.1 C.1.2.1 B.2.2.2.2.2.2.2.2.2.2.2.2.2.2 S (vp_in_nI hj (by decide)) (v := .int (dgT j)) ?_ (C.2.2.2.2.1 pc _ hc) (h D b0 en p l e Rm s m args below meth cc H locs cells slots mc ms la C B Wd S L hk)
  rw [nI_clamp (by omega)]
theorem R_ldci {Tx : am_Tx} {d k : Nat} {c : am_C} {pc a b : Nat} {ls : List (Option Value)} {st : List Value} {μ : am_M} {Q : am_Res → Prop} {idx : Nat} {v : Int32} (hc : c.2 pc = some (.ldc idx, 2, a, 0)) (hv : Int32.ofNat a = v) (h : am_R Tx d k c (pc + 2) ls (.int v :: st) μ Q) : am_R Tx d k c pc ls st μ Q := by
  intro D b0 en p l e Rm s m args below meth cc H locs cells slots mc ms la C B Wd S L hk
  have hdg := C.2.2.2.2.1 pc _ hc
  have hw := C.2.1.2.1 _ (am_Wmem (C.2.2.2.2.2 pc _ hc _ List.mem_cons_self) rfl)
  subst hv
  exact lv_ldc C.1.1 C.1.2.1 C.2.1.1 hw hdg (h D b0 en p l e Rm s m args below meth cc H locs cells slots mc ms la C B Wd S L hk)
theorem R_ifnonnull {Tx : am_Tx} {d k : Nat} {c : am_C} {pc a b : Nat} {ls : List (Option Value)} {st : List Value} {μ : am_M} {Q : am_Res → Prop} {off : Int} {tgt q : Nat} (hc : c.2 pc = some (.ifnonnull off, 3, a, b)) (ht : (pc : Int) + off = (tgt : Int)) (h : am_R Tx d k c tgt ls st μ Q) : am_R Tx d k c pc ls (.ref q :: st) μ Q := by
  intro D b0 en p l e Rm s m args below meth cc H locs cells slots mc ms la C B Wd S L hk
  exact lv_ifnonnull C.1.1 C.1.2.1 (C.2.2.2.2.1 pc _ hc) ht (h D b0 en p l e Rm s m args below meth cc H locs cells slots mc ms la C B Wd S L hk)
