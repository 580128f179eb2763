/-! ===== rules over the law's own objects; arraycopy, clone ===== -/
section AMY
variable {Tx : am_Tx} {d k : Nat} {c : am_C} {pc idx ci j kp n x a b : Nat} {ls : List (Option Value)} {st : List Value} {σ : am_G} {ρ : am_Y} {Q : am_Res → Prop} {i xi : Int32} {xl : Int64}
theorem Y_gI (hc : c.2 pc = some (.getfield idx, 3, ci, j)) (hS : (ml σ ρ).1[kp]? = some (0, ci)) (hf : fdI ci j) (h : am_R Tx d k c (pc + 3) ls (.int (σ.1 kp j) :: st) (ml σ ρ) Q) : am_R Tx d k c pc ls (.ref kp :: st) (ml σ ρ) Q :=
  R_getI (a := 0) (b := 0) hc hf.1 hS hf.2.1 (fun ad i q => by rcases hf.2.2 with e | e | e <;> rw [e] <;> rfl) h
theorem Y_gIx {y : Int32} (hc : c.2 pc = some (.getfield idx, 3, ci, j)) (hS : (ml σ ρ).1[kp]? = some (0, ci)) (hf : fdI ci j) (hy : σ.1 kp j = y) (h : am_R Tx d k c (pc + 3) ls (.int y :: st) (ml σ ρ) Q) : am_R Tx d k c pc ls (.ref kp :: st) (ml σ ρ) Q :=
  Y_gI hc hS hf (by rw [hy]; exact h)
theorem Y_gP (hc : c.2 pc = some (.getfield idx, 3, ci, j)) (hS : (ml σ ρ).1[kp]? = some (0, ci)) (hf : fdP ci j) (h1 : 120 ≤ kp) (hp : ρ.2 kp j = some x) (h : am_R Tx d k c (pc + 3) ls (.ref x :: st) (ml σ ρ) Q) : am_R Tx d k c pc ls (.ref kp :: st) (ml σ ρ) Q :=
  R_getP (a := 0) (b := 0) hc hf.1 hS hf.2.1 hf.2.2 ((ml_P h1).trans hp) h
theorem Y_pI (hc : c.2 pc = some (.putfield idx, 3, ci, j)) (hS : (ml σ ρ).1[kp]? = some (0, ci)) (hf : fdW ci j) (hn : am_ty ci j = .int) (h : am_R Tx d k c (pc + 3) ls st (ml (sI σ kp j xi) ρ) Q) : am_R Tx d k c pc ls (.int xi :: .ref kp :: st) (ml σ ρ) Q :=
  R_putI (a := 0) (b := 0) hc hf.1.1 hS hf.1.2.1 (fun ad i q => by rcases hf.1.2.2 with e | e | e <;> rw [e] <;> rfl) hf.2 (by rw [hn]; rfl) (by rw [hn]; rfl) h
/-- a byte's field that holds 0 -/
theorem Y_pB (hc : c.2 pc = some (.putfield idx, 3, ci, j)) (hS : (ml σ ρ).1[kp]? = some (0, ci)) (hf : fdW ci j) (hn : am_ty ci j = .byte) (h : am_R Tx d k c (pc + 3) ls st (ml (sI σ kp j 0) ρ) Q) : am_R Tx d k c pc ls (.int 0 :: .ref kp :: st) (ml σ ρ) Q :=
  R_putI (a := 0) (b := 0) hc hf.1.1 hS hf.1.2.1 (fun ad i q => by rcases hf.1.2.2 with e | e | e <;> rw [e] <;> rfl) hf.2 (by rw [hn]; rfl) (by rw [hn]; rfl) h
theorem Y_pBF (hc : c.2 pc = some (.putfield idx, 3, ci, j)) (hS : (ml σ ρ).1[kp]? = some (0, ci)) (hf : fdI ci j) (hfin : ((am_q ci).2.1 j).2.2.2 = true) (h1 : c.1.1.name = "<init>") (h2 : ((am_q ci).2.1 j).1 = c.1.1.cls) (hn : am_ty ci j = .byte) (h : am_R Tx d k c (pc + 3) ls st (ml (sI σ kp j 0) ρ) Q) : am_R Tx d k c pc ls (.int 0 :: .ref kp :: st) (ml σ ρ) Q :=
  R_putIF (a := 0) (b := 0) hc hf.1 hS hf.2.1 (fun ad i q => by rcases hf.2.2 with e | e | e <;> rw [e] <;> rfl) hfin (by rw [hn]; rfl) (by rw [hn]; rfl) h1 h2 h
theorem Y_pP (hc : c.2 pc = some (.putfield idx, 3, ci, j)) (hS : (ml σ ρ).1[kp]? = some (0, ci)) (hf : fdP ci j) (hfin : ((am_q ci).2.1 j).2.2.2 = false) (h1 : 120 ≤ kp) (hn : ∀ z, narrow (am_ty ci j) (.ref z) = .ref z) (hfit : ∀ z, fits (am_ty ci j) (.ref z) = true) (h : am_R Tx d k c (pc + 3) ls st (ml σ (pY ρ kp j x)) Q) : am_R Tx d k c pc ls (.ref x :: .ref kp :: st) (ml σ ρ) Q := by
  refine R_putP (a := 0) (b := 0) hc hf.1 hS hf.2.1 hf.2.2 hfin hn hfit ?_
  rw [ml_uP h1]
  exact h
theorem Y_pPF (hc : c.2 pc = some (.putfield idx, 3, ci, j)) (hS : (ml σ ρ).1[kp]? = some (0, ci)) (hf : fdP ci j) (hfin : ((am_q ci).2.1 j).2.2.2 = true) (h1 : 120 ≤ kp) (hn : ∀ z, narrow (am_ty ci j) (.ref z) = .ref z) (hfit : ∀ z, fits (am_ty ci j) (.ref z) = true) (h2 : c.1.1.name = "<init>") (h3 : ((am_q ci).2.1 j).1 = c.1.1.cls) (h : am_R Tx d k c (pc + 3) ls st (ml σ (pY ρ kp j x)) Q) : am_R Tx d k c pc ls (.ref x :: .ref kp :: st) (ml σ ρ) Q := by
  refine R_putPF (a := 0) (b := 0) hc hf.1 hS hf.2.1 hf.2.2 hfin hn hfit h2 h3 ?_
  rw [ml_uP h1]
  exact h
theorem Y_new (hc : c.2 pc = some (.new idx, 3, ci, 0)) (hci : ci < 13) (hst : ∀ v ∈ st, am_okv (yl ρ) v) (hls : ∀ v, some v ∈ ls → am_okv (yl ρ) v) (hP : yOk ρ) (hn : yl ρ < 1000)
    (h : am_R Tx d k c (pc + 3) ls (.ref (yl ρ) :: st) (ml (nN σ (yl ρ)) (nY ρ (0, ci))) Q) : am_R Tx d (1 + k) c pc ls st (ml σ ρ) Q := by
  refine R_new hc hci (by rw [ml_len]; exact hst) (by rw [ml_len]; exact hls) (ml_okP hP) (by rw [ml_len]; exact hn) ?_
  rw [ml_len, ml_new]
  exact h
theorem Y_newB {N : Nat} (hc : c.2 pc = some (.newarray .byte, 2, a, b)) (hi : i = nI N) (hN2 : N ≤ 1000) (hst : ∀ v ∈ st, am_okv (yl ρ) v) (hls : ∀ v, some v ∈ ls → am_okv (yl ρ) v) (hP : yOk ρ) (hn : yl ρ < 1000)
    (h : am_R Tx d k c (pc + 2) ls (.ref (yl ρ) :: st) (ml (nN σ (yl ρ)) (nY ρ (3, N))) Q) : am_R Tx d (1 + k) c pc ls (.int i :: st) (ml σ ρ) Q := by
  subst hi
  refine R_newI (kd := 3) (ty := .byte) (N := N) hc rfl rfl (fun _ _ _ => rfl) (fun _ => rfl) rfl (fun z => absurd z (Int32.not_lt.mpr (nI_pos' (by omega)))) (nI_clamp (by omega)) (by show N * 1 ≤ _; omega) hN2 (by rw [ml_len]; exact hst) (by rw [ml_len]; exact hls) (ml_okP hP) (by rw [ml_len]; exact hn) ?_
  rw [ml_len, ml_new]
  exact h
theorem Y_newZ {N : Nat} (hc : c.2 pc = some (.newarray .boolean, 2, a, b)) (hi : i = nI N) (hN2 : N ≤ 1000) (hst : ∀ v ∈ st, am_okv (yl ρ) v) (hls : ∀ v, some v ∈ ls → am_okv (yl ρ) v) (hP : yOk ρ) (hn : yl ρ < 1000)
    (h : am_R Tx d k c (pc + 2) ls (.ref (yl ρ) :: st) (ml (nN σ (yl ρ)) (nY ρ (4, N))) Q) : am_R Tx d (1 + k) c pc ls (.int i :: st) (ml σ ρ) Q := by
  subst hi
  refine R_newI (kd := 4) (ty := .boolean) (N := N) hc rfl rfl (fun _ _ _ => rfl) (fun _ => rfl) rfl (fun z => absurd z (Int32.not_lt.mpr (nI_pos' (by omega)))) (nI_clamp (by omega)) (by show N * 1 ≤ _; omega) hN2 (by rw [ml_len]; exact hst) (by rw [ml_len]; exact hls) (ml_okP hP) (by rw [ml_len]; exact hn) ?_
  rw [ml_len, ml_new]
  exact h
theorem Y_newI {N : Nat} (hc : c.2 pc = some (.newarray .int, 2, a, b)) (hi : i = nI N) (hN2 : N ≤ 1000) (hst : ∀ v ∈ st, am_okv (yl ρ) v) (hls : ∀ v, some v ∈ ls → am_okv (yl ρ) v) (hP : yOk ρ) (hn : yl ρ < 1000)
    (h : am_R Tx d k c (pc + 2) ls (.ref (yl ρ) :: st) (ml (nN σ (yl ρ)) (nY ρ (1, N))) Q) : am_R Tx d (1 + k) c pc ls (.int i :: st) (ml σ ρ) Q := by
  subst hi
  refine R_newI (kd := 1) (ty := .int) (N := N) hc rfl rfl (fun _ _ _ => rfl) (fun _ => rfl) rfl (fun z => absurd z (Int32.not_lt.mpr (nI_pos' (by omega)))) (nI_clamp (by omega)) (by show N * 4 ≤ _; omega) hN2 (by rw [ml_len]; exact hst) (by rw [ml_len]; exact hls) (ml_okP hP) (by rw [ml_len]; exact hn) ?_
  rw [ml_len, ml_new]
  exact h
theorem Y_xB (hc : c.2 pc = some (.baload, 1, a, b)) (hS : (ml σ ρ).1[kp]? = some (3, n)) (hi : i = nI j) (hj : j < n) (hn : n < 2 ^ 31) (h : am_R Tx d k c (pc + 1) ls (.int (σ.1 kp j) :: st) (ml σ ρ) Q) : am_R Tx d k c pc ls (.int i :: .ref kp :: st) (ml σ ρ) Q := R_bald hc hS hi hj hn h
theorem Y_xZ (hc : c.2 pc = some (.baload, 1, a, b)) (hS : (ml σ ρ).1[kp]? = some (4, n)) (hi : i = nI j) (hj : j < n) (hn : n < 2 ^ 31) (h : am_R Tx d k c (pc + 1) ls (.int (σ.1 kp j) :: st) (ml σ ρ) Q) : am_R Tx d k c pc ls (.int i :: .ref kp :: st) (ml σ ρ) Q := R_zald hc hS hi hj hn h
theorem Y_xI (hc : c.2 pc = some (.iaload, 1, a, b)) (hS : (ml σ ρ).1[kp]? = some (1, n)) (hi : i = nI j) (hj : j < n) (hn : n < 2 ^ 31) (h : am_R Tx d k c (pc + 1) ls (.int (σ.1 kp j) :: st) (ml σ ρ) Q) : am_R Tx d k c pc ls (.int i :: .ref kp :: st) (ml σ ρ) Q := R_iald hc hS hi hj hn h
theorem Y_wB (hc : c.2 pc = some (.bastore, 1, a, b)) (hS : (ml σ ρ).1[kp]? = some (3, n)) (hi : i = nI j) (hj : j < n) (hn : n < 2 ^ 31) (h : am_R Tx d k c (pc + 1) ls st (ml (sI σ kp j (vp_nar .byte xi)) ρ) Q) : am_R Tx d k c pc ls (.int xi :: .int i :: .ref kp :: st) (ml σ ρ) Q := R_bast hc hS hi hj hn h
theorem Y_wZ (hc : c.2 pc = some (.bastore, 1, a, b)) (hS : (ml σ ρ).1[kp]? = some (4, n)) (hi : i = nI j) (hj : j < n) (hn : n < 2 ^ 31) (h : am_R Tx d k c (pc + 1) ls st (ml (sI σ kp j (vp_nar .boolean xi)) ρ) Q) : am_R Tx d k c pc ls (.int xi :: .int i :: .ref kp :: st) (ml σ ρ) Q := R_zast hc hS hi hj hn h
theorem Y_wI (hc : c.2 pc = some (.iastore, 1, a, b)) (hS : (ml σ ρ).1[kp]? = some (1, n)) (hi : i = nI j) (hj : j < n) (hn : n < 2 ^ 31) (h : am_R Tx d k c (pc + 1) ls st (ml (sI σ kp j xi) ρ) Q) : am_R Tx d k c pc ls (.int xi :: .int i :: .ref kp :: st) (ml σ ρ) Q := R_iast hc hS hi hj hn h
theorem Y_aln {kd : Nat} {v : Int32} (hc : c.2 pc = some (.arraylength, 1, a, b)) (hS : (ml σ ρ).1[kp]? = some (kd, n)) (hk0 : 1 ≤ kd ∧ kd ≤ 5) (hv : nI n = v) (h : am_R Tx d k c (pc + 1) ls (.int v :: st) (ml σ ρ) Q) : am_R Tx d k c pc ls (.ref kp :: st) (ml σ ρ) Q := R_alen (ty := .int) hc hS hk0 hv h
/-- String's flag of compact texts, read by AbstractStringBuilder -/
theorem R_bcs (hcl : c.1.1.cls = "java/lang/AbstractStringBuilder") (hdg : decode c.1.2.1 pc = .ok (.getstatic 18, 3)) {μ : am_M} (h : am_R am_TX d k c (pc + 3) ls (.int 1 :: st) μ Q) : am_R am_TX d k c pc ls st μ Q := by
  intro D b0 en p l e Rm s m args below meth cc H locs cells slots mc ms la C B Wd S L hk
  exact va_gets C.1.1 C.1.2.1 B.2.2.2.2.2.2.2.2.2.1 S (hcl ▸ C.2.1.1) (C.2.1.2.1 _ jf_cs) (fun _ z => z) hdg (h D b0 en p l e Rm s m args below meth cc H locs cells slots mc ms la C B Wd S L hk)
end AMY
/-- n bytes of one array laid into another -/
def am_cp (μ : am_M) (f : Nat → Int32) (w sp dp n : Nat) : am_M := (μ.1, fun a b => if a = w then va_cpy f (μ.2.1 w) sp dp n b else μ.2.1 a b, μ.2.2.1, μ.2.2.2)
def cpY (σ : am_G) (f : Nat → Int32) (w sp dp n : Nat) : am_G := (fun a b => if a = w then va_cpy f (σ.1 w) sp dp n b else σ.1 a b, σ.2.1, σ.2.2)
theorem ml_cp {σ : am_G} {ρ : am_Y} {f : Nat → Int32} {w sp dp n : Nat} : am_cp (ml σ ρ) f w sp dp n = ml (cpY σ f w sp dp n) ρ := rfl
theorem am_cp_ws {en : am_E} {μ : am_M} {f : Nat → Int32} {w n1 sp dp n : Nat} (h1 : μ.1[w]? = some (3, n1)) : (am_ws en μ).set w (en.1 w, .inl (en.2 w, n1, .inl (va_cpy f (μ.2.1 w) sp dp n))) = am_ws en (am_cp μ f w sp dp n) := by
  refine am_ws_set h1 rfl ?_ ?_
  · show (Sum.inl (en.2 w, n1, Sum.inl (fun b => if w = w then va_cpy f (μ.2.1 w) sp dp n b else μ.2.1 w b)) : va_E) = _
    simp only [if_pos]
  · intro i kd m hi
    have e : (am_cp μ f w sp dp n).2.1 i = μ.2.1 i := funext fun b => if_neg hi
    have e1 : (am_cp μ f w sp dp n).2.2.1 i = μ.2.2.1 i := rfl
    have e2 : (am_cp μ f w sp dp n).2.2.2 i = μ.2.2.2 i := rfl
    unfold am_cell
    rw [e, e1, e2]
section AMCP
variable {Tx : am_Tx} {d k : Nat} {c : am_C} {pc idx a b : Nat} {ls : List (Option Value)} {st : List Value} {μ : am_M} {Q : am_Res → Prop}
theorem am_KA.K2 {D : va_G} {en : am_E} {S : List (Nat × Nat)} {U : State} (hK : va_K D am_cl [] U) (h : am_KA en S U) {k k2 : Nat} {sh sh2 : Nat × Nat} (hk : S[k]? = some sh) (hk2 : S[k2]? = some sh2) {ty ty2 : FieldType} (ht : am_aty sh.1 = some ty) (ht2 : am_aty sh2.1 = some ty2) : va_K D am_cl [(en.2 k, ty), (en.2 k2, ty2)] U := by
  refine ⟨hK.1, fun i q hi => ?_⟩
  match i, hi with
  | 0, hi => cases hi; exact h k sh hk ty ht
  | 1, hi => cases hi; exact h k2 sh2 hk2 ty2 ht2
  | i + 2, hi => simp at hi
theorem nI_nn {n : Nat} (h : n < 2 ^ 31) : ¬ nI n < 0 := fun z => absurd z (Int32.not_lt.mpr (nI_pos' h))
/-- System.arraycopy of bytes, both arrays of the memory -/
theorem R_cpy {v w n0 n1 sp dp n : Nat} (hdg : decode c.1.2.1 pc = .ok (.invokestatic idx, 3)) (hw : Cond.methodLink c.1.1.cls idx arraycopyName ∈ am_W) (h0 : μ.1[v]? = some (3, n0)) (h1 : μ.1[w]? = some (3, n1)) (hs : sp + n ≤ n0) (hd : dp + n ≤ n1) (hb : n0 < 2 ^ 31 ∧ n1 < 2 ^ 31) (hfit : ∀ i, i < n → fits .byte (.int (μ.2.1 v (sp + i))) = true) (hst : (st.map fun v => v.category).sum ≤ 8)
    (h : am_R Tx d k c (pc + 3) ls st (am_cp μ (μ.2.1 v) w sp dp n) Q) : am_R Tx d k c pc ls (.int (nI n) :: .int (nI dp) :: .ref w :: .int (nI sp) :: .ref v :: st) μ Q := by
  intro D b0 en p l e Rm s m args below meth cc H locs cells slots mc ms la C B Wd S L hk
  obtain ⟨⟨hx, hbc, hml, hr⟩, ⟨ho, hts, hlk, hnm⟩, htab, ⟨hf, hlo⟩, hMF⟩ := id C
  have hlt := am_lt Wd h1
  have c1 : (nI sp).toNatClampNeg = sp := nI_clamp (by omega)
  have c2 : (nI dp).toNatClampNeg = dp := nI_clamp (by omega)
  have c3 : (nI n).toNatClampNeg = n := nI_clamp (by omega)
  have hnw : nativeFrameWords "java/lang/System" "arraycopy" 5 = 7 := by decide +kernel
  refine va_copyi (rest := st.map (am_v en.1)) hx hbc (hml.trans L.1.symm) ho (hts _ hw) (hts _ jn_nat) (hts _ jn_sta) (hts _ jn_ini) (am_KA.K2 Wd.2.1 Wd.2.2.1 h0 h1 rfl rfl) Wd.1 Wd.2.2.2.1 S v w 0 1 (am_ws_get h0) (am_ws_get h1) rfl rfl rfl (nI_nn (by omega)) (nI_nn (by omega)) (nI_nn (by omega)) (by rw [c1, c3]; exact hs) (by rw [c2, c3]; exact hd) (fun i hi => ?_) (by omega) ?_ hdg (fun H1 locs1 P1 D1 S1 => ?_)
  · rw [c1]
    rw [c3] at hi
    exact hfit i hi
  · have := am_stw (ad := en.1) hst
    rw [hnw]
    omega
  · rw [c1, c2, c3, am_cp_ws h1] at P1 D1
    have e3 : (am_cp μ (μ.2.1 v) w sp dp n).2.1 3000 = μ.2.1 3000 := funext fun b => if_neg (by omega)
    have e4 : (am_cp μ (μ.2.1 v) w sp dp n).2.1 3001 = μ.2.1 3001 := funext fun b => if_neg (by omega)
    exact h D b0 en p l e Rm s m args below meth cc H1 locs1 cells slots mc ms la C B (am_Wt.upd Wd B S S1 P1 D1 rfl e3 e4) S1 L hk
/-- .. of the bytes of a constant's text -/
theorem R_cpt {i w n1 dp n : Nat} {bs : List Int32} (hdg : decode c.1.2.1 pc = .ok (.invokestatic idx, 3)) (hw : Cond.methodLink c.1.1.cls idx arraycopyName ∈ am_W) (hi : (i, bs) ∈ am_SL) (h1 : μ.1[w]? = some (3, n1)) (hn : n = bs.length) (hd : dp + n ≤ n1) (hb : bs.length < 2 ^ 31 ∧ n1 < 2 ^ 31) (hfit : ∀ j, j < n → fits .byte (.int (bs.getD j 0)) = true) (hst : (st.map fun v => v.category).sum ≤ 8)
    (h : am_R am_TX d k c (pc + 3) ls st (am_cp μ (fun j => bs.getD j 0) w 0 dp n) Q) : am_R am_TX d k c pc ls (.int (nI n) :: .int (nI dp) :: .ref w :: .int 0 :: .ref (2000 + i) :: st) μ Q := by
  intro D b0 en p l e Rm s m args below meth cc H locs cells slots mc ms la C B Wd S L hk
  obtain ⟨⟨hx, hbc, hml, hr⟩, ⟨ho, hts, hlk, hnm⟩, htab, ⟨hf, hlo⟩, hMF⟩ := id C
  have hlt := am_lt Wd h1
  have c1 : (0 : Int32).toNatClampNeg = 0 := rfl
  have c2 : (nI dp).toNatClampNeg = dp := nI_clamp (by omega)
  have c3 : (nI n).toNatClampNeg = n := nI_clamp (by omega)
  have hnw : nativeFrameWords "java/lang/System" "arraycopy" 5 = 7 := by decide +kernel
  refine vk_copyt (rest := st.map (am_v en.1)) hx hbc (hml.trans L.1.symm) ho (hts _ hw) (hts _ jn_nat) (hts _ jn_sta) (hts _ jn_ini) (am_KA.K Wd.2.1 Wd.2.2.1 h1 rfl) Wd.1 Wd.2.2.2.1 S (f := fun j => bs.getD j 0) (B.2.2.2.2.2.2.2.2.1 _ hi).2.2.2 w 0 (am_ws_get h1) rfl (by decide) (nI_nn (by omega)) (nI_nn (by omega)) (by rw [c1, c3]; show 0 + n ≤ bs.length; omega) (by rw [c2, c3]; exact hd) (fun j hj => ?_) (by omega) ?_ hdg (fun H1 locs1 P1 D1 S1 => ?_)
  · rw [c1, Nat.zero_add]
    rw [c3] at hj
    exact hfit j hj
  · have := am_stw (ad := en.1) hst
    rw [hnw]
    omega
  · rw [c1, c2, c3, am_cp_ws h1] at P1 D1
    have e3 : (am_cp μ (fun j => bs.getD j 0) w 0 dp n).2.1 3000 = μ.2.1 3000 := funext fun b => if_neg (by omega)
    have e4 : (am_cp μ (fun j => bs.getD j 0) w 0 dp n).2.1 3001 = μ.2.1 3001 := funext fun b => if_neg (by omega)
    exact h D b0 en p l e Rm s m args below meth cc H1 locs1 cells slots mc ms la C B (am_Wt.upd Wd B S S1 P1 D1 rfl e3 e4) S1 L hk
/-- a clone behind all places -/
def am_clone (μ : am_M) (v n : Nat) : am_M := (μ.1 ++ [(3, n)], (fun a b => if a = μ.1.length then μ.2.1 v b else μ.2.1 a b), (fun a b => if a = μ.1.length then 0 else μ.2.2.1 a b), (fun a b => if a = μ.1.length then none else μ.2.2.2 a b))
/-- byte[].clone(), and the cast behind it -/
theorem R_clone {v n : Nat} (hcl : c.1.1.cls = "java/util/Arrays") (hdg : decode c.1.2.1 pc = .ok (.invokevirtual 310, 3)) (hdg2 : decode c.1.2.1 (pc + 3) = .ok (.checkcast 311, 3)) (h0 : μ.1[v]? = some (3, n)) (hn : n ≤ 1000) (hfit : ∀ i, i < n → fits .byte (.int (μ.2.1 v i)) = true) (hstw : (st.map fun v => v.category).sum ≤ 8) (hst : ∀ v ∈ st, am_okv μ.1.length v) (hls : ∀ v, some v ∈ ls → am_okv μ.1.length v) (hP0 : am_okP μ) (hl : μ.1.length < 1000)
    (h : am_R Tx d k c (pc + 6) ls (.ref μ.1.length :: st) (am_clone μ v n) Q) : am_R Tx d (1 + k) c pc ls (.ref v :: st) μ Q := by
  intro D b0 en p l e Rm s m args below meth cc H locs cells slots mc ms la C B Wd S L hk
  obtain ⟨⟨hx, hbc, hml, hr⟩, ⟨ho, hts, hlk, hnm⟩, htab, ⟨hf, hlo⟩, hMF⟩ := id C
  obtain ⟨j1, j2, j3, j4, j5, j6⟩ := jn_cl
  have hKA := Wd.2.2.1 v _ h0 .byte rfl
  have hname : s.vm.findClass "[B" = some (en.2 v) := hKA.2
  have hsw := am_stw (ad := en.1) hstw
  rw [hcl] at ho
  refine va_clone (rest := st.map (am_v en.1)) (x := (n, .inl (μ.2.1 v))) hx hbc (hml.trans L.1.symm) ho (hts _ j1) (hts _ j2) (hts _ j3) (hts _ j4) (hts _ j5) (B.2.2.2.2.2.1 _ jn_cc) (am_KA.K Wd.2.1 Wd.2.2.1 h0 rfl) Wd.1 Wd.2.2.2.1 S (fun q hq => B.2.1 q hq) v 0 (am_ws_get h0) rfl hname (fun i v1 hv => ?_) (by omega) (by omega) (by omega) (by show slots + n ≤ _; omega) hdg (fun q H1 K1 P1 D1 S1 => ?_)
  · have hv2 : (arrV (en.2 v) n (fun j => Value.int (μ.2.1 v j))).slots[i]? = some v1 := hv
    have hi : i < n := by
      have := (Array.getElem?_eq_some_iff.mp hv2).1
      rwa [arrV_size] at this
    rw [arrV_read _ _ hi] at hv2
    cases hv2
    exact hfit i hi
  · have e1 : (am_enN μ.1.length q (en.2 v) en).2 μ.1.length = en.2 v := if_pos rfl
    have hold : ∀ (j kd n1 : Nat), j < μ.1.length → am_cell (am_enN μ.1.length q (en.2 v) en) (am_clone μ v n) j kd n1 = am_cell (am_enN μ.1.length q (en.2 v) en) (am_new μ (3, n)) j kd n1 := by
      intro j kd n1 hj
      have e2 : (am_clone μ v n).2.1 j = (am_new μ (3, n)).2.1 j := funext fun b => (if_neg (by omega)).trans (if_neg (by omega)).symm
      have e3 : (am_clone μ v n).2.2.1 j = (am_new μ (3, n)).2.2.1 j := rfl
      have e4 : (am_clone μ v n).2.2.2 j = (am_new μ (3, n)).2.2.2 j := rfl
      unfold am_cell
      rw [e2, e3, e4]
    have hws : am_ws (am_enN μ.1.length q (en.2 v) en) (am_clone μ v n) = am_ws en μ ++ [(q, .inl (en.2 v, n, .inl (μ.2.1 v)))] := by
      have h9 := am_ws_new hP0 (3, n) q (en.2 v) en
      have ha : am_ws en μ ++ [(q, .inl (en.2 v, n, .inl (μ.2.1 v)))] = (am_ws (am_enN μ.1.length q (en.2 v) en) (am_new μ (3, n))).set μ.1.length (q, .inl (en.2 v, n, .inl (μ.2.1 v))) := by
        rw [h9, List.set_append_right _ _ (by rw [am_ws_len]; exact Nat.le_refl _), am_ws_len, Nat.sub_self]
        rfl
      rw [ha]
      have hl1 : (am_new μ (3, n)).1[μ.1.length]? = some (3, n) := by
        show (μ.1 ++ [(3, n)])[_]? = _
        rw [List.getElem?_append_right (Nat.le_refl _), Nat.sub_self]; rfl
      apply List.ext_getElem?
      intro j
      by_cases hj : j = μ.1.length
      · subst hj
        rw [List.getElem?_set_self (by rw [am_ws_len]; exact (List.getElem?_eq_some_iff.mp hl1).1), am_ws_get (μ := am_clone μ v n) (sh := (3, n)) hl1]
        refine congrArg some (Prod.ext (if_pos rfl) ?_)
        show (Sum.inl ((am_enN μ.1.length q (en.2 v) en).2 μ.1.length, n, Sum.inl ((am_clone μ v n).2.1 μ.1.length)) : va_E) = _
        rw [e1, show (am_clone μ v n).2.1 μ.1.length = μ.2.1 v from funext fun b => if_pos rfl]
      · rw [List.getElem?_set_ne (Ne.symm hj)]
        cases hs : (am_new μ (3, n)).1[j]? with
        | none =>
          rw [List.getElem?_eq_none (by rw [am_ws_len]; exact List.getElem?_eq_none_iff.mp hs), List.getElem?_eq_none (by rw [am_ws_len]; exact List.getElem?_eq_none_iff.mp hs)]
        | some s2 =>
          have hjl : j < μ.1.length := by
            have h8 : j < (μ.1 ++ [((3 : Nat), n)]).length := (List.getElem?_eq_some_iff.mp hs).1
            simp at h8
            omega
          rw [am_ws_get (μ := am_clone μ v n) (sh := s2) hs, am_ws_get (μ := am_new μ (3, n)) (sh := s2) hs]
          unfold am_en
          rw [hold j s2.1 s2.2 hjl]
    have W0 : am_Wt D b0 (am_enN μ.1.length q (en.2 v) en) (am_clone μ v n) s H1 := by
      obtain ⟨w1, w2, w3, w4, ⟨Ln, x1, x2, x3, x4⟩, w6⟩ := Wd
      have hb3 : en.1 3000 < s.heap.size := Nat.not_le.mp fun z => x4 (B.2.1 _ z)
      have e0 : (am_enN μ.1.length q (en.2 v) en).1 3000 = en.1 3000 := if_neg (by omega)
      have e2 : (am_clone μ v n).2.1 3000 = μ.2.1 3000 := funext fun b => if_neg (by omega)
      have e3 : (am_clone μ v n).2.1 3001 0 = μ.2.1 3001 0 := if_neg (by omega)
      refine ⟨by rw [hws]; exact P1, w2, fun j sh2 hj ty ht => ?_, by rw [hws]; exact D1, ⟨Ln, by rw [e0, e2]; exact x1.kept ((S1.2.1 _ hb3 x4).trans (S.2.1 _ hb3 x4).symm), by rw [e3]; exact x2, x3, by rw [e0]; exact x4⟩, by show (μ.1 ++ [((3 : Nat), n)]).length ≤ 1000; simp; omega⟩
      by_cases hjl : j < μ.1.length
      · have hj2 : μ.1[j]? = some sh2 := by
          have h9 : (μ.1 ++ [((3 : Nat), n)])[j]? = some sh2 := hj
          rwa [List.getElem?_append_left hjl] at h9
        rw [show (am_enN μ.1.length q (en.2 v) en).2 j = en.2 j from if_neg (by omega)]
        exact w3 j sh2 hj2 ty ht
      · have h9 : (μ.1 ++ [((3 : Nat), n)])[j]? = some sh2 := hj
        rw [List.getElem?_append_right (by omega)] at h9
        have hz : j - μ.1.length < 1 := (List.getElem?_eq_some_iff.mp h9).1
        have hk0 : j = μ.1.length := by omega
        subst hk0
        rw [Nat.sub_self] at h9
        cases h9
        rw [e1]
        exact w3 v _ h0 ty ht
    have hext := am_enN_ext μ.1.length q (en.2 v) en
    have hl1 : (am_clone μ v n).1.length = μ.1.length + 1 := by show (μ.1 ++ [((3 : Nat), n)]).length = _; simp
    have hget : (am_ws en μ ++ [(q, Sum.inl (en.2 v, n, Sum.inl (μ.2.1 v)))])[μ.1.length]? = some (q, (Sum.inl (en.2 v, n, Sum.inl (μ.2.1 v)) : va_E)) := by
      rw [List.getElem?_append_right (by rw [am_ws_len]; exact Nat.le_refl _), am_ws_len, Nat.sub_self]; rfl
    have K := h D b0 (am_enN μ.1.length q (en.2 v) en) p l e Rm s m args below meth cc H1 locs (cells + 1) (slots + n) mc ms la C (B.congr fun k hk => hext.1 k (by omega)) W0 S1 (by rw [am_prs_ext hext (by omega) ls 0 hls]; exact L) ⟨by omega, by omega, hk.2.2⟩
    rw [hl1] at K
    have K2 := am_mono (am_ext_MQ hext (Nat.le_succ _)) K
    rw [List.map_cons, am_map_ext hext (by omega) hst] at K2
    rw [show am_v (am_enN μ.1.length q (en.2 v) en).1 (.ref μ.1.length) = .ref q from congrArg Value.ref (if_pos rfl)] at K2
    exact va_castA hx hbc ho (hts _ j6) P1 μ.1.length hget hname hdg2 K2
end AMCP
def clY (σ : am_G) (v n : Nat) : am_G := (fun a b => if a = n then σ.1 v b else σ.1 a b, fun a b => if a = n then 0 else σ.2.1 a b, σ.2.2)
theorem ml_clone {σ : am_G} {ρ : am_Y} {v n : Nat} : am_clone (ml σ ρ) v n = ml (clY σ v (yl ρ)) (nY ρ (3, n)) := by
  unfold am_clone
  rw [ml_len]
  refine Prod.ext ?_ (Prod.ext rfl (Prod.ext rfl ?_))
  · show (Sh ++ ρ.1) ++ [(3, n)] = Sh ++ (ρ.1 ++ [(3, n)])
    rw [List.append_assoc]
  · funext a b
    show (if a = yl ρ then none else am_Pl ρ a b) = am_Pl (nY ρ (3, n)) a b
    unfold am_Pl
    by_cases h : a < 120
    · rw [if_neg (by unfold yl; omega), if_pos h, if_pos h]
    · rw [if_neg h, if_neg h]
      rfl
