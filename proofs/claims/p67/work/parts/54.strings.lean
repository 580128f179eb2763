/-! ===== texts: the JDK's length and charAt ===== -/
section AMS
variable {d k : Nat} {c : am_C} {pc a b : Nat} {ls : List (Option Value)} {st : List Value} {μ : am_M} {Q : am_Res → Prop}
theorem R_ldcS {idx i : Nat} {tx : String} (hc : c.2 pc = some (.ldc idx, 2, a, b)) (ht : (c.1.1.cls, idx, tx, i) ∈ am_TX) (h : am_R am_TX d k c (pc + 2) ls (.ref (1000 + i) :: st) μ Q) : am_R am_TX d k c pc ls st μ Q := by
  intro D b0 en p l e Rm s m args below meth cc H locs cells slots mc ms la C B Wd S L hk
  have hdg := C.2.2.2.2.1 pc _ hc
  exact va_ldcS C.1.1 C.1.2.1 C.2.1.1 (B.2.2.2.2.1 _ ht) hdg (h D b0 en p l e Rm s m args below meth cc H locs cells slots mc ms la C B Wd S L hk)
/-- a field of a text -/
theorem R_sval {idx i : Nat} {bs : List Int32} (hcl : c.1.1.cls = "java/lang/String") (hdg : decode c.1.2.1 pc = .ok (.getfield idx, 3)) (hw : Cond.fieldLink "java/lang/String" idx "java/lang/String" "value" "[B" ∈ am_W) (hi : (i, bs) ∈ am_SL) (h : am_R am_TX d k c (pc + 3) ls (.ref (2000 + i) :: st) μ Q) : am_R am_TX d k c pc ls (.ref (1000 + i) :: st) μ Q := by
  intro D b0 en p l e Rm s m args below meth cc H locs cells slots mc ms la C B Wd S L hk
  exact vk_getf C.1.1 C.1.2.1 (B.2.2.2.2.2.2.2.2.1 _ hi).2.2.1 S (hcl ▸ C.2.1.1) (C.2.1.2.1 _ hw) (fun _ z => z) hdg (h D b0 en p l e Rm s m args below meth cc H locs cells slots mc ms la C B Wd S L hk)
theorem R_scod {idx i : Nat} {bs : List Int32} (hcl : c.1.1.cls = "java/lang/String") (hdg : decode c.1.2.1 pc = .ok (.getfield idx, 3)) (hw : Cond.fieldLink "java/lang/String" idx "java/lang/String" "coder" "B" ∈ am_W) (hi : (i, bs) ∈ am_SL) (h : am_R am_TX d k c (pc + 3) ls (.int 0 :: st) μ Q) : am_R am_TX d k c pc ls (.ref (1000 + i) :: st) μ Q := by
  intro D b0 en p l e Rm s m args below meth cc H locs cells slots mc ms la C B Wd S L hk
  exact vk_getf C.1.1 C.1.2.1 (B.2.2.2.2.2.2.2.2.1 _ hi).2.1 S (hcl ▸ C.2.1.1) (C.2.1.2.1 _ hw) (fun _ z => z) hdg (h D b0 en p l e Rm s m args below meth cc H locs cells slots mc ms la C B Wd S L hk)
theorem R_scs {idx : Nat} (hcl : c.1.1.cls = "java/lang/String") (hdg : decode c.1.2.1 pc = .ok (.getstatic idx, 3)) (hw : Cond.fieldLink "java/lang/String" idx "java/lang/String" "COMPACT_STRINGS" "Z" ∈ am_W) (h : am_R am_TX d k c (pc + 3) ls (.int 1 :: st) μ Q) : am_R am_TX d k c pc ls st μ Q := by
  intro D b0 en p l e Rm s m args below meth cc H locs cells slots mc ms la C B Wd S L hk
  exact va_gets C.1.1 C.1.2.1 B.2.2.2.2.2.2.2.2.2.1 S (hcl ▸ C.2.1.1) (C.2.1.2.1 _ hw) (fun _ z => z) hdg (h D b0 en p l e Rm s m args below meth cc H locs cells slots mc ms la C B Wd S L hk)
theorem R_sfm {idx : Nat} (hcl : c.1.1.cls = "java/lang/String") (hdg : decode c.1.2.1 pc = .ok (.getstatic idx, 3)) (hw : Cond.fieldLink "java/lang/String" idx "jdk/internal/util/Preconditions" "SIOOBE_FORMATTER" "Ljava/util/function/BiFunction;" ∈ am_W) (h1 : am_R am_TX d k c (pc + 3) ls (.null :: st) μ Q) (h2 : am_R am_TX d k c (pc + 3) ls (.ref 4000 :: st) μ Q) : am_R am_TX d k c pc ls st μ Q := by
  intro D b0 en p l e Rm s m args below meth cc H locs cells slots mc ms la C B Wd S L hk
  rcases B.2.2.2.2.2.2.2.2.2.2 with z | z
  · exact va_gets C.1.1 C.1.2.1 z S (hcl ▸ C.2.1.1) (C.2.1.2.1 _ hw) (fun _ z => z) hdg (h1 D b0 en p l e Rm s m args below meth cc H locs cells slots mc ms la C B Wd S L hk)
  · exact va_gets C.1.1 C.1.2.1 z S (hcl ▸ C.2.1.1) (C.2.1.2.1 _ hw) (fun _ z => z) hdg (h2 D b0 en p l e Rm s m args below meth cc H locs cells slots mc ms la C B Wd S L hk)
theorem R_saln {i : Nat} {bs : List Int32} (hc : c.2 pc = some (.arraylength, 1, a, b)) (hi : (i, bs) ∈ am_SL) (h : am_R am_TX d k c (pc + 1) ls (.int (nI bs.length) :: st) μ Q) : am_R am_TX d k c pc ls (.ref (2000 + i) :: st) μ Q := by
  intro D b0 en p l e Rm s m args below meth cc H locs cells slots mc ms la C B Wd S L hk
  have hdg := C.2.2.2.2.1 pc _ hc
  exact va_tlen C.1.1 C.1.2.1 (B.2.2.2.2.2.2.2.2.1 _ hi).2.2.2 S rfl hdg (h D b0 en p l e Rm s m args below meth cc H locs cells slots mc ms la C B Wd S L hk)
theorem R_sbal {i j : Nat} {x : Int32} {bs : List Int32} (hc : c.2 pc = some (.baload, 1, a, b)) (hi : (i, bs) ∈ am_SL) (hx : x = nI j) (hj : j < bs.length) (hn : bs.length < 2 ^ 31) (h : am_R am_TX d k c (pc + 1) ls (.int (bs.getD j 0) :: st) μ Q) : am_R am_TX d k c pc ls (.int x :: .ref (2000 + i) :: st) μ Q := by
  intro D b0 en p l e Rm s m args below meth cc H locs cells slots mc ms la C B Wd S L hk
  have hdg := C.2.2.2.2.1 pc _ hc
  subst hx
  refine va_tb C.1.1 C.1.2.1 (B.2.2.2.2.2.2.2.2.1 _ hi).2.2.2 S (vp_in_nI hj hn) (v := .int (bs.getD j 0)) ?_ hdg (h D b0 en p l e Rm s m args below meth cc H locs cells slots mc ms la C B Wd S L hk)
  rw [nI_clamp (by omega)]
theorem R_i2c {x : Int32} (hc : c.2 pc = some (.i2c, 1, a, b)) (h : am_R am_TX d k c (pc + 1) ls (.int (x.toUInt32 % 65536).toInt32 :: st) μ Q) : am_R am_TX d k c pc ls (.int x :: st) μ Q := by
  intro D b0 en p l e Rm s m args below meth cc H locs cells slots mc ms la C B Wd S L hk
  have hdg := C.2.2.2.2.1 pc _ hc
  exact lv_i2c C.1.1 C.1.2.1 hdg rfl (h D b0 en p l e Rm s m args below meth cc H locs cells slots mc ms la C B Wd S L hk)
/-- a narrow int is returned -/
theorem T_nreturn {ty : Jvm.ClassFile.FieldType} {x : Int32} (hc : c.2 pc = some (.ireturn, 1, a, b)) (hr : c.1.2.2.2.1 = some ty) (hn : narrow ty (.int x) = .int x) (hq : Q (.inl (some (.int x)), μ)) : am_R am_TX d k c pc ls ([.int x]) μ Q := by
  intro D b0 en p l e Rm s m args below meth cc H locs cells slots mc ms la C B Wd S L hk
  have hdg := C.2.2.2.2.1 pc _ hc
  obtain ⟨hk1, hk2, -, -⟩ := hk
  exact vx_ret (W.widen (by omega : cells ≤ mc) (by omega : slots ≤ ms) (W.zret C.1.1 C.1.2.1 (C.1.2.2.2.trans hr) hn (fun t ht hW => ⟨(some (.int x)), μ, en, hq, am_ext.rf, Nat.le_refl _, rfl, by rw [ht]; exact Wd.moved hW.alike, S.F ht⟩) S.2.2 hdg C.2.1.2.2.1))
end AMS
section AMT
variable {d d' kc k : Nat} {c c' : am_C} {pc mid n idx : Nat} {ls : List (Option Value)} {st stk as : List Value} {μ : am_M} {Q Qc : am_Res → Prop}
/-- a text's own method is called -/
theorem R_invT {i : Nat} {bs : List Int32} (hc : c.2 pc = some (.invokevirtual idx, 3, mid, n)) (hs : c'.1 = am_sig mid) (hiv : am_iv c'.1 n) (hcall : am_Call am_TX d' kc c' (.ref (1000 + i) :: as) μ Qc) (hd : d' + 1 ≤ d) (hlen : as.length = n) (hst : stk = as.reverse ++ .ref (1000 + i) :: st)
    (hi : (i, bs) ∈ am_SL) (hcn : c'.1.1.cls = "java/lang/String") (hnone : c'.1.2.2.2.2 = none) (hw : (st.map fun v => v.category).sum ≤ 8) (hn : ∀ r, Qc r → r.2.1.length = μ.1.length)
    (k1 : ∀ v μ1, Qc (.inl v, μ1) → am_R am_TX d k c (pc + 3) ls (v.toList ++ st) μ1 Q) (k2 : ∀ E μ1, Qc (.inr E, μ1) → am_Rx am_TX d k c pc ls E μ1 Q) : am_R am_TX d (kc + k) c pc ls stk μ Q := by
  intro D b0 en p l e Rm s m args below meth cc H locs cells slots mc ms la C B Wd S L hk
  obtain ⟨⟨hx, hb, hml, hr⟩, ⟨ho, hts, hlk, hnm⟩, htab, ⟨hf, hlo⟩, hMF⟩ := id C
  have hnd := hMF.2 pc _ hc
  obtain ⟨⟨i1, i2, i3⟩, i4⟩ := hiv
  have g : ∀ w ∈ [Cond.methodLink c.1.1.cls idx c'.1.1, .instanceMethod c'.1.1, .selects c'.1.1.cls c'.1.1 c'.1.1, .initialized c'.1.1.cls, am_cw c'.1], w ∈ pw_tbl := by
    intro w hw
    rw [hs] at hw
    exact hnd w hw
  have hcwW : am_cw c'.1 ∈ am_W := hcall.1.2.1
  have ecw : am_cw c'.1 = .code c'.1.1 c'.1.2.1 c'.1.2.2.1 c'.1.2.2.2.1 := by unfold am_cw; rw [hnone]
  have CB : CallB Rm s args c.1.1.cls idx c'.1.1 c'.1.2.1 c'.1.2.2.1 c'.1.2.2.2.1 (am_cw c'.1 :: am_W) (am_rm d' kc) kc (1000 * kc) n :=
    ⟨rfl, rfl, by show 8 + d' + 1 ≤ _; omega, by show 8 + (c'.1.2.2.1 + 11) + (200 + 64 * d') ≤ _; omega, am_payW hts hcwW, by rw [ecw]; exact List.mem_cons_self, by rw [← ecw]; exact hts _ hcwW, hts _ (am_Wmem (g _ (by simp)) rfl), ⟨i1, i2⟩, am_len i3, hts _ (am_Wmem (g _ (by simp)) rfl)⟩
  have hstk : stk.map (am_v en.1) = (as.map (am_v en.1)).reverse ++ .ref (en.1 (1000 + i)) :: st.map (am_v en.1) := by
    rw [hst]; simp [am_v]
  refine am_after (kc := kc) C B S L (by omega) hn rfl (vx_runV (As := as.map (am_v en.1)) (b := en.1 (1000 + i)) (C := c'.1.1.cls) (n := n) ⟨hx, hb, hml, ho, hts⟩ (am_met hcall D b0 en l) ⟨CB, hts _ (am_Wmem (g _ (by simp)) rfl), hts _ (am_Wmem (g _ (by simp)) rfl)⟩
    ⟨am_blind, by rw [hcn]; exact va_Orecv (B.2.2.2.2.2.2.2.2.1 _ hi).1 S, fun U hU hW => ⟨rfl, am_start B Wd S hU hW⟩⟩ rfl (by simpa using hlen) L.1 hstk (lv_room (am_stw hw)) (hMF.1 _ _ hc) ⟨by omega, by omega⟩) k1 k2
theorem R_cT {i : Nat} {bs : List Int32} {σ : am_G} {v : Option Value} {P : am_G → Prop} (hc : c.2 pc = some (.invokevirtual idx, 3, mid, n)) (hs : c'.1 = am_sig mid) (hiv : am_iv c'.1 n) (hcall : am_Call am_TX d' 0 c' (.ref (1000 + i) :: as) (mm σ) (am_Ok v P)) (hd : d' + 1 ≤ d) (hlen : as.length = n) (hst : stk = as.reverse ++ .ref (1000 + i) :: st) (hi : (i, bs) ∈ am_SL) (hcn : c'.1.1.cls = "java/lang/String") (hnone : c'.1.2.2.2.2 = none) (hw : (st.map fun v => v.category).sum ≤ 8)
    (h : ∀ σ', P σ' → am_R am_TX d k c (pc + 3) ls (v.toList ++ st) (mm σ') Q) : am_R am_TX d k c pc ls stk (mm σ) Q := by
  rw [← Nat.zero_add k]
  refine R_invT hc hs hiv hcall hd hlen hst hi hcn hnone hw am_Ok_n (fun v1 μ1 hq => ?_) (fun E μ1 hq => ?_)
  · obtain ⟨σ', h1, h2⟩ := hq
    cases h1
    exact h σ' h2
  · obtain ⟨σ', h1, h2⟩ := hq
    cases h1
end AMT
theorem sl_b : ∀ q ∈ am_SL, q.2.length < 70 := by decide +kernel
theorem sl_c0 : ∀ q ∈ am_SL, ∀ j, j < 70 → j < q.2.length → ((q.2.getD j 0 &&& 255).toUInt32 % 65536).toInt32 = q.2.getD j 0 ∧ (q.2.getD j 0).toUInt32.toUInt16.toUInt32.toInt32 = q.2.getD j 0 := by decide +kernel
theorem sh_0 : ∀ n, n < 70 → nI n >>> ((0 : Int32) &&& 31) = nI n := by decide +kernel
theorem sl_c {i j : Nat} {bs : List Int32} (hi : (i, bs) ∈ am_SL) (hj : j < bs.length) : ((bs.getD j 0 &&& 255).toUInt32 % 65536).toInt32 = bs.getD j 0 ∧ narrow .char (.int (bs.getD j 0)) = .int (bs.getD j 0) := by
  have h9 := sl_b _ hi
  have h := sl_c0 _ hi j (by show j < 70; exact Nat.lt_trans hj h9) hj
  exact ⟨h.1, congrArg Value.int h.2⟩
set_option maxRecDepth 100000 in
theorem sp_coder {σ : am_G} {i : Nat} {bs : List Int32} (hi : (i, bs) ∈ am_SL) : am_Call am_TX 0 0 c_JString_coder [.ref (1000 + i)] (mm σ) (am_Ok (some (.int 0)) (fun σ1 => σ1 = σ)) := by
  refine ⟨mf_JString_coder, Nat.le_of_ble_eq_true rfl, ?_⟩
  refine R_scs (idx := 38) rfl (by decide +kernel) (am_Wmem (List.mem_of_getElem? (i := 514) rfl) rfl) ?_
  refine R_if_eq rfl rfl (fun z => absurd z (by decide)) (fun _ => ?_)
  refine R_aload_n rfl rfl ?_
  refine R_scod (idx := 15) rfl (by decide +kernel) (am_Wmem (List.mem_of_getElem? (i := 741) rfl) rfl) hi ?_
  refine R_goto rfl rfl ?_
  exact T_nreturn rfl rfl rfl (am_oki rfl rfl)
set_option maxRecDepth 100000 in
theorem sp_isLatin1 {σ : am_G} {i : Nat} {bs : List Int32} (hi : (i, bs) ∈ am_SL) : am_Call am_TX 0 0 c_JString_isLatin1 [.ref (1000 + i)] (mm σ) (am_Ok (some (.int 1)) (fun σ1 => σ1 = σ)) := by
  refine ⟨mf_JString_isLatin1, Nat.le_of_ble_eq_true rfl, ?_⟩
  refine R_scs (idx := 38) rfl (by decide +kernel) (am_Wmem (List.mem_of_getElem? (i := 514) rfl) rfl) ?_
  refine R_if_eq rfl rfl (fun z => absurd z (by decide)) (fun _ => ?_)
  refine R_aload_n rfl rfl ?_
  refine R_scod (idx := 15) rfl (by decide +kernel) (am_Wmem (List.mem_of_getElem? (i := 741) rfl) rfl) hi ?_
  refine R_if_ne rfl rfl (fun z => absurd rfl z) (fun _ => ?_)
  refine R_iconst (v := 1) rfl rfl ?_
  refine R_goto rfl rfl ?_
  exact T_nreturn rfl rfl rfl (am_oki rfl rfl)
set_option maxRecDepth 100000 in
theorem sp_slength {σ : am_G} {i : Nat} {bs : List Int32} (hi : (i, bs) ∈ am_SL) : am_Call am_TX 1 0 c_JString_length [.ref (1000 + i)] (mm σ) (am_Ok (some (.int (nI bs.length))) (fun σ1 => σ1 = σ)) := by
  refine ⟨mf_JString_length, Nat.le_of_ble_eq_true rfl, ?_⟩
  refine R_aload_n rfl rfl ?_
  refine R_sval (idx := 9) rfl (by decide +kernel) (am_Wmem (List.mem_of_getElem? (i := 740) rfl) rfl) hi ?_
  refine R_saln rfl hi ?_
  refine R_aload_n rfl rfl ?_
  refine R_cT (as := []) rfl rfl iv_JString_coder (sp_coder hi) (by decide) rfl rfl hi rfl rfl (Nat.le_of_ble_eq_true rfl) (fun _ q => ?_)
  obtain rfl := q.symm
  refine R_ishr rfl ?_
  exact T_ireturn rfl rfl (am_oki (sh_0 _ (sl_b _ hi)) rfl)
set_option maxRecDepth 100000 in
theorem sp_preCheck {σ : am_G} {j n : Nat} {v : Value} (hj : j < n) (hn : n < 2 ^ 31) (hv : v = .null ∨ v = .ref 4000) : am_Call am_TX 0 0 c_JPre_checkIndex [.int (nI j), .int (nI n), v] (mm σ) (am_Ok (some (.int (nI j))) (fun σ1 => σ1 = σ)) := by
  rcases hv with rfl | rfl
  all_goals
    refine ⟨mf_JPre_checkIndex, Nat.le_of_ble_eq_true rfl, ?_⟩
    refine R_iload_n rfl rfl ?_
    refine R_nif_lt (x := j) rfl rfl (by omega) (fun z => by omega) (fun _ => ?_)
    refine R_iload_n rfl rfl ?_
    refine R_iload_n rfl rfl ?_
    refine R_nicmp_lt (x := j) (y := n) rfl rfl (by omega) (by omega) (fun _ => ?_) (fun z => by omega)
    refine R_iload_n rfl rfl ?_
    exact T_ireturn rfl rfl (am_oki rfl rfl)
set_option maxRecDepth 100000 in
theorem sp_checkIndex {σ : am_G} {j n : Nat} (hj : j < n) (hn : n < 2 ^ 31) : am_Call am_TX 1 0 c_JString_checkIndex [.int (nI j), .int (nI n)] (mm σ) (am_Ok none (fun σ1 => σ1 = σ)) := by
  refine ⟨mf_JString_checkIndex, Nat.le_of_ble_eq_true rfl, ?_⟩
  refine R_iload_n rfl rfl ?_
  refine R_iload_n rfl rfl ?_
  refine R_sfm (idx := 1053) rfl (by decide +kernel) (am_Wmem (List.mem_of_getElem? (i := 595) rfl) rfl) ?_ ?_
  · refine R_cS (as := [.int (nI j), .int (nI n), .null]) rfl rfl iv_JPre_checkIndex (sp_preCheck hj hn (Or.inl rfl)) (by decide) rfl rfl rfl rfl (Nat.le_of_ble_eq_true rfl) (fun _ q => ?_)
    obtain rfl := q.symm
    refine R_pop rfl rfl ?_
    exact T_return rfl rfl (am_okv0 rfl)
  · refine R_cS (as := [.int (nI j), .int (nI n), .ref 4000]) rfl rfl iv_JPre_checkIndex (sp_preCheck hj hn (Or.inr rfl)) (by decide) rfl rfl rfl rfl (Nat.le_of_ble_eq_true rfl) (fun _ q => ?_)
    obtain rfl := q.symm
    refine R_pop rfl rfl ?_
    exact T_return rfl rfl (am_okv0 rfl)
set_option maxRecDepth 100000 in
theorem sp_latin1 {σ : am_G} {i j : Nat} {bs : List Int32} (hi : (i, bs) ∈ am_SL) (hj : j < bs.length) : am_Call am_TX 2 0 c_JLatin1_charAt [.ref (2000 + i), .int (nI j)] (mm σ) (am_Ok (some (.int (bs.getD j 0))) (fun σ1 => σ1 = σ)) := by
  have h9 := sl_b _ hi
  refine ⟨mf_JLatin1_charAt, Nat.le_of_ble_eq_true rfl, ?_⟩
  refine R_iload_n rfl rfl ?_
  refine R_aload_n rfl rfl ?_
  refine R_saln rfl hi ?_
  refine R_cS (as := [.int (nI j), .int (nI bs.length)]) rfl rfl iv_JString_checkIndex (sp_checkIndex hj (Nat.lt_trans h9 (by decide))) (by decide) rfl rfl rfl rfl (Nat.le_of_ble_eq_true rfl) (fun _ q => ?_)
  obtain rfl := q.symm
  refine R_aload_n rfl rfl ?_
  refine R_iload_n rfl rfl ?_
  refine R_sbal (j := j) rfl hi rfl hj (Nat.lt_trans h9 (by decide)) ?_
  refine R_sipush (v := 255) rfl (by decide) ?_
  refine R_iand rfl ?_
  refine R_i2c rfl ?_
  rw [(sl_c hi hj).1]
  exact T_nreturn rfl rfl (sl_c hi hj).2 (am_oki rfl rfl)
set_option maxRecDepth 100000 in
theorem sp_charAt {σ : am_G} {i j : Nat} {bs : List Int32} (hi : (i, bs) ∈ am_SL) (hj : j < bs.length) : am_Call am_TX 3 0 c_JString_charAt [.ref (1000 + i), .int (nI j)] (mm σ) (am_Ok (some (.int (bs.getD j 0))) (fun σ1 => σ1 = σ)) := by
  refine ⟨mf_JString_charAt, Nat.le_of_ble_eq_true rfl, ?_⟩
  refine R_aload_n rfl rfl ?_
  refine R_cT (as := []) rfl rfl iv_JString_isLatin1 (sp_isLatin1 hi) (by decide) rfl rfl hi rfl rfl (Nat.le_of_ble_eq_true rfl) (fun _ q => ?_)
  obtain rfl := q.symm
  refine R_if_eq rfl rfl (fun z => absurd z (by decide)) (fun _ => ?_)
  refine R_aload_n rfl rfl ?_
  refine R_sval (idx := 9) rfl (by decide +kernel) (am_Wmem (List.mem_of_getElem? (i := 740) rfl) rfl) hi ?_
  refine R_iload_n rfl rfl ?_
  refine R_cS (as := [.ref (2000 + i), .int (nI j)]) rfl rfl iv_JLatin1_charAt (sp_latin1 hi hj) (by decide) rfl rfl rfl rfl (Nat.le_of_ble_eq_true rfl) (fun _ q => ?_)
  obtain rfl := q.symm
  exact T_nreturn rfl rfl (sl_c hi hj).2 (am_oki rfl rfl)

