/-! ===== calls over the law's memory ===== -/
section AMYC
variable {Tx : am_Tx} {d d' kc k : Nat} {c c' : am_C} {pc mid n idx b ci : Nat} {ls : List (Option Value)} {st stk as : List Value} {σ : am_G} {ρ : am_Y} {Q : am_Res → Prop} {v : Option Value} {P : am_G → am_Y → Prop} {μ : am_M}
theorem ok_st (h : okL (yl ρ) st) : ∀ v ∈ st, am_okv (ml σ ρ).1.length v := by rw [ml_len]; exact h.all
theorem ok_ls (h : okO (yl ρ) ls) : ∀ v, some v ∈ ls → am_okv (ml σ ρ).1.length v := by rw [ml_len]; exact h.all
theorem Y_cS (hc : c.2 pc = some (.invokestatic idx, 3, mid, n)) (hs : c'.1 = am_sig mid) (hiv : am_iv c'.1 n) (hcall : am_Call Tx d' kc c' as (ml σ ρ) (am_Oy v P)) (hd : d' + 1 ≤ d) (hlen : as.length = n) (hst : stk = as.reverse ++ st)
    (hnn : Nat.ble 64 n = false) (hnone : c'.1.2.2.2.2 = none) (hw : (st.map fun v => v.category).sum ≤ 8) (h1 : okL (yl ρ) st) (h2 : okO (yl ρ) ls)
    (h : ∀ σ1 ρ1, P σ1 ρ1 → am_R Tx d k c (pc + 3) ls (v.toList ++ st) (ml σ1 ρ1) Q) : am_R Tx d (kc + k) c pc ls stk (ml σ ρ) Q := by
  refine R_hS hc hs hiv hcall.ct hd hlen hst hnn hnone hw am_Oy_n (ok_st h1) (ok_ls h2) (fun v1 μ1 hq => ?_)
  obtain ⟨σ1, ρ1, e, hp⟩ := hq
  cases e
  exact h σ1 ρ1 hp
theorem Y_cV (hdg : decode c.1.2.1 pc = .ok (.invokevirtual idx, 3)) (hj : am_jw c.1.1.cls idx (am_q ci).1 c'.1) (hiv : am_iv c'.1 n) (hcall : am_Call Tx d' kc c' (.ref b :: as) (ml σ ρ) (am_Oy v P)) (hd : d' + 1 ≤ d) (hlen : as.length = n) (hst : stk = as.reverse ++ .ref b :: st)
    (hS : (ml σ ρ).1[b]? = some (0, ci)) (hci : ci < 13) (hnone : c'.1.2.2.2.2 = none) (hw : (st.map fun v => v.category).sum ≤ 8) (h1 : okL (yl ρ) st) (h2 : okO (yl ρ) ls)
    (h : ∀ σ1 ρ1, P σ1 ρ1 → am_R Tx d k c (pc + 3) ls (v.toList ++ st) (ml σ1 ρ1) Q) : am_R Tx d (kc + k) c pc ls stk (ml σ ρ) Q := by
  refine R_hV hdg hj hiv hcall.ct hd hlen hst hS hci hnone hw am_Oy_n (ok_st h1) (ok_ls h2) (fun v1 μ1 hq => ?_)
  obtain ⟨σ1, ρ1, e, hp⟩ := hq
  cases e
  exact h σ1 ρ1 hp
theorem Y_cT {i : Nat} {bs : List Int32} (hdg : decode c.1.2.1 pc = .ok (.invokevirtual idx, 3)) (hj : am_jw c.1.1.cls idx "java/lang/String" c'.1) (hiv : am_iv c'.1 n) (hcall : am_Call am_TX d' kc c' (.ref (1000 + i) :: as) (ml σ ρ) (am_Oy v P)) (hd : d' + 1 ≤ d) (hlen : as.length = n) (hst : stk = as.reverse ++ .ref (1000 + i) :: st)
    (hi : (i, bs) ∈ am_SL) (hnone : c'.1.2.2.2.2 = none) (hw : (st.map fun v => v.category).sum ≤ 8) (h1 : okL (yl ρ) st) (h2 : okO (yl ρ) ls)
    (h : ∀ σ1 ρ1, P σ1 ρ1 → am_R am_TX d k c (pc + 3) ls (v.toList ++ st) (ml σ1 ρ1) Q) : am_R am_TX d (kc + k) c pc ls stk (ml σ ρ) Q := by
  refine R_hT hdg hj hiv hcall.ct hd hlen hst hi hnone hw am_Oy_n (ok_st h1) (ok_ls h2) (fun v1 μ1 hq => ?_)
  obtain ⟨σ1, ρ1, e, hp⟩ := hq
  cases e
  exact h σ1 ρ1 hp
theorem Y_cU {y : MethodName} {own2 : String} (hdg : decode c.1.2.1 pc = .ok (.invokevirtual idx, 3)) (hj : Cond.methodLink c.1.1.cls idx y ∈ am_W ∧ Cond.sameMethod y.cls own2 y.name y.desc ∈ am_W ∧ Cond.selects (am_q ci).1 y c'.1.1 ∈ am_W ∧ Cond.instanceMethod c'.1.1 ∈ am_W ∧ Cond.initialized c'.1.1.cls ∈ am_W)
    (hy : Cond.instanceMethod ⟨own2, y.name, y.desc⟩ ∈ am_W ∧ ∃ by0 ml0 rt0, Cond.code ⟨own2, y.name, y.desc⟩ by0 ml0 rt0 ∈ am_W) (hmh : own2 ≠ "java/lang/invoke/MethodHandle" ∧ own2 ≠ "java/lang/invoke/VarHandle" ∧ (parseMethodDescriptor y.desc).map (fun d => d.parameters.length) = some n) (hml4 : c'.1.2.2.1 ≤ 40)
    (hcall : am_Call Tx d' kc c' (.ref b :: as) (ml σ ρ) (am_Oy v P)) (hd : d' + 1 ≤ d) (hlen : as.length = n) (hst : stk = as.reverse ++ .ref b :: st)
    (hS : (ml σ ρ).1[b]? = some (0, ci)) (hci : ci < 13) (hnone : c'.1.2.2.2.2 = none) (hw : (st.map fun v => v.category).sum ≤ 8) (h1 : okL (yl ρ) st) (h2 : okO (yl ρ) ls)
    (h : ∀ σ1 ρ1, P σ1 ρ1 → am_R Tx d k c (pc + 3) ls (v.toList ++ st) (ml σ1 ρ1) Q) : am_R Tx d (kc + k) c pc ls stk (ml σ ρ) Q := by
  refine R_hU hdg hj hy hmh hml4 hcall.ct hd hlen hst hS hci hnone hw am_Oy_n (ok_st h1) (ok_ls h2) (fun v1 μ1 hq => ?_)
  obtain ⟨σ1, ρ1, e, hp⟩ := hq
  cases e
  exact h σ1 ρ1 hp
theorem Y_cP (hdg : decode c.1.2.1 pc = .ok (.invokespecial idx, 3)) (hj : Cond.methodLink c.1.1.cls idx c'.1.1 ∈ am_W ∧ Cond.sameMethod c'.1.1.cls c'.1.1.cls c'.1.1.name c'.1.1.desc ∈ am_W ∧ Cond.superclass c.1.1.cls c'.1.1.cls ∈ am_W ∧ Cond.instanceMethod c'.1.1 ∈ am_W ∧ Cond.initialized c'.1.1.cls ∈ am_W)
    (hno : c'.1.1.name ≠ "<init>") (hiv : am_iv c'.1 n) (hcall : am_Call Tx d' kc c' (.ref b :: as) (ml σ ρ) (am_Oy v P)) (hd : d' + 1 ≤ d) (hlen : as.length = n) (hst : stk = as.reverse ++ .ref b :: st)
    (hS : (ml σ ρ).1[b]? = some (0, ci)) (hci : ci < 13) (hnone : c'.1.2.2.2.2 = none) (hw : (st.map fun v => v.category).sum ≤ 8) (h1 : okL (yl ρ) st) (h2 : okO (yl ρ) ls)
    (h : ∀ σ1 ρ1, P σ1 ρ1 → am_R Tx d k c (pc + 3) ls (v.toList ++ st) (ml σ1 ρ1) Q) : am_R Tx d (kc + k) c pc ls stk (ml σ ρ) Q := by
  refine R_hP hdg hj hno hiv hcall.ct hd hlen hst hS hci hnone hw am_Oy_n (ok_st h1) (ok_ls h2) (fun v1 μ1 hq => ?_)
  obtain ⟨σ1, ρ1, e, hp⟩ := hq
  cases e
  exact h σ1 ρ1 hp
theorem Y_cI (hc : c.2 pc = some (.invokespecial idx, 3, mid, n)) (hs : c'.1 = am_sig mid) (hiv : am_iv c'.1 n) (hcall : am_Call Tx d' kc c' (.ref b :: as) (ml σ ρ) (am_Oy none P)) (hd : d' + 1 ≤ d) (hlen : as.length = n) (hst : stk = as.reverse ++ .ref b :: st) (hnn : Nat.beq n 64 = false) (hin : c'.1.1.name = "<init>") (hret : c'.1.2.2.2.1 = none) (hnone : c'.1.2.2.2.2 = none) (hw : (st.map fun v => v.category).sum ≤ 8)
    (h1 : okL (yl ρ) st) (h2 : okO (yl ρ) ls) (h : ∀ σ1 ρ1, P σ1 ρ1 → am_R Tx d k c (pc + 3) ls st (ml σ1 ρ1) Q) : am_R Tx d (kc + k) c pc ls stk (ml σ ρ) Q := by
  refine R_hI hc hs hiv hcall.ct hd hlen hst hnn hin hret hnone hw am_Oy_n (ok_st h1) (ok_ls h2) (fun v1 μ1 hq => ?_)
  obtain ⟨σ1, ρ1, e, hp⟩ := hq
  cases e
  exact h σ1 ρ1 hp
/-- a virtual call that changes nothing, on an object of the memory -/
theorem R_pV (hdg : decode c.1.2.1 pc = .ok (.invokevirtual idx, 3)) (hj : am_jw c.1.1.cls idx (am_q ci).1 c'.1) (hiv : am_iv c'.1 n) (hcall : am_Call Tx d' 0 c' (.ref b :: as) μ (am_Pu v μ)) (hd : d' + 1 ≤ d) (hlen : as.length = n) (hst : stk = as.reverse ++ .ref b :: st)
    (hS : μ.1[b]? = some (0, ci)) (hci : ci < 13) (hnone : c'.1.2.2.2.2 = none) (hw : (st.map fun v => v.category).sum ≤ 8)
    (h : am_R Tx d k c (pc + 3) ls (v.toList ++ st) μ Q) : am_R Tx d k c pc ls stk μ Q := by
  intro D b0 en p l e Rm s m args below meth cc H locs cells slots mc ms la C B Wd S L hk
  obtain ⟨⟨hx, hb, hml, hr⟩, ⟨ho, hts, hlk, hnm⟩, htab, ⟨hf, hlo⟩, hMF⟩ := id C
  obtain ⟨⟨i1, i2, i3⟩, i4⟩ := hiv
  obtain ⟨j1, j2, j3, j4⟩ := hj
  have hcwW : am_cw c'.1 ∈ am_W := hcall.1.2.1
  have ecw : am_cw c'.1 = .code c'.1.1 c'.1.2.1 c'.1.2.2.1 c'.1.2.2.2.1 := by unfold am_cw; rw [hnone]
  have CB : CallB Rm s args c.1.1.cls idx c'.1.1 c'.1.2.1 c'.1.2.2.1 c'.1.2.2.2.1 (am_cw c'.1 :: am_W) (am_rm d' 0) 0 (1000 * 0) n :=
    ⟨rfl, rfl, by show 8 + d' + 1 ≤ _; omega, by show 8 + (c'.1.2.2.1 + 11) + (200 + 64 * d') ≤ _; omega, am_payW hts hcwW, by rw [ecw]; exact List.mem_cons_self, by rw [← ecw]; exact hts _ hcwW, hts _ j4, ⟨i1, i2⟩, am_len i3, hts _ j1⟩
  have hstk : stk.map (am_v en.1) = (as.map (am_v en.1)).reverse ++ .ref (en.1 b) :: st.map (am_v en.1) := by
    rw [hst]; simp [am_v]
  refine am_afterC (kc := 0) (k := k) C B S L (by omega) (fun r hr => ⟨v, μ, hr, rfl⟩) rfl (vx_runV (As := as.map (am_v en.1)) (b := en.1 b) (C := (am_q ci).1) (n := n) ⟨hx, hb, hml, ho, hts⟩ (am_met hcall D b0 en l) ⟨CB, hts _ j2, hts _ j3⟩
    ⟨am_blind, va_recv Wd.2.1 Wd.1 (am_clq hci) (am_ws_get hS), fun U hU hW => ⟨rfl, am_start B Wd S hU hW⟩⟩ rfl (by simpa using hlen) L.1 hstk (lv_room (am_stw hw)) hdg ⟨by omega, by omega⟩) (fun v1 μ1 hq => ?_)
  cases hq
  exact h
/-- .. on a text of the constants -/
theorem R_pT {i : Nat} {bs : List Int32} (hdg : decode c.1.2.1 pc = .ok (.invokevirtual idx, 3)) (hj : am_jw c.1.1.cls idx "java/lang/String" c'.1) (hiv : am_iv c'.1 n) (hcall : am_Call am_TX d' 0 c' (.ref (1000 + i) :: as) μ (am_Pu v μ)) (hd : d' + 1 ≤ d) (hlen : as.length = n) (hst : stk = as.reverse ++ .ref (1000 + i) :: st)
    (hi : (i, bs) ∈ am_SL) (hnone : c'.1.2.2.2.2 = none) (hw : (st.map fun v => v.category).sum ≤ 8)
    (h : am_R am_TX d k c (pc + 3) ls (v.toList ++ st) μ Q) : am_R am_TX d k c pc ls stk μ Q := by
  intro D b0 en p l e Rm s m args below meth cc H locs cells slots mc ms la C B Wd S L hk
  obtain ⟨⟨hx, hb, hml, hr⟩, ⟨ho, hts, hlk, hnm⟩, htab, ⟨hf, hlo⟩, hMF⟩ := id C
  obtain ⟨⟨i1, i2, i3⟩, i4⟩ := hiv
  obtain ⟨j1, j2, j3, j4⟩ := hj
  have hcwW : am_cw c'.1 ∈ am_W := hcall.1.2.1
  have ecw : am_cw c'.1 = .code c'.1.1 c'.1.2.1 c'.1.2.2.1 c'.1.2.2.2.1 := by unfold am_cw; rw [hnone]
  have CB : CallB Rm s args c.1.1.cls idx c'.1.1 c'.1.2.1 c'.1.2.2.1 c'.1.2.2.2.1 (am_cw c'.1 :: am_W) (am_rm d' 0) 0 (1000 * 0) n :=
    ⟨rfl, rfl, by show 8 + d' + 1 ≤ _; omega, by show 8 + (c'.1.2.2.1 + 11) + (200 + 64 * d') ≤ _; omega, am_payW hts hcwW, by rw [ecw]; exact List.mem_cons_self, by rw [← ecw]; exact hts _ hcwW, hts _ j4, ⟨i1, i2⟩, am_len i3, hts _ j1⟩
  have hstk : stk.map (am_v en.1) = (as.map (am_v en.1)).reverse ++ .ref (en.1 (1000 + i)) :: st.map (am_v en.1) := by
    rw [hst]; simp [am_v]
  refine am_afterC (kc := 0) (k := k) C B S L (by omega) (fun r hr => ⟨v, μ, hr, rfl⟩) rfl (vx_runV (As := as.map (am_v en.1)) (b := en.1 (1000 + i)) (C := "java/lang/String") (n := n) ⟨hx, hb, hml, ho, hts⟩ (am_met hcall D b0 en l) ⟨CB, hts _ j2, hts _ j3⟩
    ⟨am_blind, va_Orecv (B.2.2.2.2.2.2.2.2.1 _ hi).1 S, fun U hU hW => ⟨rfl, am_start B Wd S hU hW⟩⟩ rfl (by simpa using hlen) L.1 hstk (lv_room (am_stw hw)) hdg ⟨by omega, by omega⟩) (fun v1 μ1 hq => ?_)
  cases hq
  exact h
/-- super.m(..) that changes nothing -/
theorem R_pP (hdg : decode c.1.2.1 pc = .ok (.invokespecial idx, 3)) (hj : Cond.methodLink c.1.1.cls idx c'.1.1 ∈ am_W ∧ Cond.sameMethod c'.1.1.cls c'.1.1.cls c'.1.1.name c'.1.1.desc ∈ am_W ∧ Cond.superclass c.1.1.cls c'.1.1.cls ∈ am_W ∧ Cond.instanceMethod c'.1.1 ∈ am_W ∧ Cond.initialized c'.1.1.cls ∈ am_W)
    (hno : c'.1.1.name ≠ "<init>") (hiv : am_iv c'.1 n) (hcall : am_Call Tx d' 0 c' (.ref b :: as) (ml σ ρ) (am_Pu v (ml σ ρ))) (hd : d' + 1 ≤ d) (hlen : as.length = n) (hst : stk = as.reverse ++ .ref b :: st)
    (hS : (ml σ ρ).1[b]? = some (0, ci)) (hci : ci < 13) (hnone : c'.1.2.2.2.2 = none) (hw : (st.map fun v => v.category).sum ≤ 8) (h1 : okL (yl ρ) st) (h2 : okO (yl ρ) ls)
    (h : am_R Tx d k c (pc + 3) ls (v.toList ++ st) (ml σ ρ) Q) : am_R Tx d k c pc ls stk (ml σ ρ) Q := by
  rw [← Nat.zero_add k]
  refine R_hP hdg hj hno hiv hcall.ct hd hlen hst hS hci hnone hw (fun r hr => ⟨v, _, hr⟩) (ok_st h1) (ok_ls h2) (fun v1 μ1 hq => ?_)
  cases hq
  exact h
theorem R_pU {y : MethodName} {own2 : String} (hdg : decode c.1.2.1 pc = .ok (.invokevirtual idx, 3)) (hj : Cond.methodLink c.1.1.cls idx y ∈ am_W ∧ Cond.sameMethod y.cls own2 y.name y.desc ∈ am_W ∧ Cond.selects (am_q ci).1 y c'.1.1 ∈ am_W ∧ Cond.instanceMethod c'.1.1 ∈ am_W ∧ Cond.initialized c'.1.1.cls ∈ am_W)
    (hy : Cond.instanceMethod ⟨own2, y.name, y.desc⟩ ∈ am_W ∧ ∃ by0 ml0 rt0, Cond.code ⟨own2, y.name, y.desc⟩ by0 ml0 rt0 ∈ am_W) (hmh : own2 ≠ "java/lang/invoke/MethodHandle" ∧ own2 ≠ "java/lang/invoke/VarHandle" ∧ (parseMethodDescriptor y.desc).map (fun d => d.parameters.length) = some n) (hml4 : c'.1.2.2.1 ≤ 40)
    (hcall : am_Call Tx d' 0 c' (.ref b :: as) (ml σ ρ) (am_Pu v (ml σ ρ))) (hd : d' + 1 ≤ d) (hlen : as.length = n) (hst : stk = as.reverse ++ .ref b :: st)
    (hS : (ml σ ρ).1[b]? = some (0, ci)) (hci : ci < 13) (hnone : c'.1.2.2.2.2 = none) (hw : (st.map fun v => v.category).sum ≤ 8) (h1 : okL (yl ρ) st) (h2 : okO (yl ρ) ls)
    (h : am_R Tx d k c (pc + 3) ls (v.toList ++ st) (ml σ ρ) Q) : am_R Tx d k c pc ls stk (ml σ ρ) Q := by
  rw [← Nat.zero_add k]
  refine R_hU hdg hj hy hmh hml4 hcall.ct hd hlen hst hS hci hnone hw (fun r hr => ⟨v, _, hr⟩) (ok_st h1) (ok_ls h2) (fun v1 μ1 hq => ?_)
  cases hq
  exact h
end AMYC
