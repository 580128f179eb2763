/-! ===== handlers; new objects and arrays; calls that make them ===== -/
def am_okv (n : Nat) (v : Value) : Prop := match v with
  | .ref k => k < n ∨ 1000 ≤ k
  | _ => True
theorem am_v_ext {n n1 : Nat} {en en' : am_E} (h : am_ext n n1 en en') (h1 : n1 ≤ 1000) {v : Value} (hv : am_okv n v) : am_v en'.1 v = am_v en.1 v := by
  cases v with
  | ref k =>
    show Value.ref _ = Value.ref _
    have hv' : @LT.lt Nat _ k n ∨ @LE.le Nat _ 1000 k := hv
    have hz : ¬ (@LE.le Nat _ n k ∧ @LT.lt Nat _ k n1) := by rcases hv' with q | q <;> omega
    rw [h.1 k hz]
  | _ => rfl
theorem am_map_ext {n n1 : Nat} {en en' : am_E} (h : am_ext n n1 en en') (h1 : n1 ≤ 1000) {st : List Value} (hv : ∀ v ∈ st, am_okv n v) : st.map (am_v en'.1) = st.map (am_v en.1) := List.map_congr_left fun v hm => am_v_ext h h1 (hv v hm)
theorem am_prs_ext {n n1 : Nat} {en en' : am_E} (h : am_ext n n1 en en') (h1 : n1 ≤ 1000) : ∀ (ls : List (Option Value)) (i : Nat), (∀ v, some v ∈ ls → am_okv n v) → am_prs en'.1 i ls = am_prs en.1 i ls
  | [], i, _ => rfl
  | none :: l, i, hv => by
    show am_prs en'.1 (i + 1) l = am_prs en.1 (i + 1) l
    exact am_prs_ext h h1 l (i + 1) (fun v hm => hv v (List.mem_cons_of_mem _ hm))
  | some w :: l, i, hv => by
    show (i, am_v en'.1 w) :: am_prs en'.1 (i + 1) l = (i, am_v en.1 w) :: am_prs en.1 (i + 1) l
    rw [am_v_ext h h1 (hv w List.mem_cons_self), am_prs_ext h h1 l (i + 1) (fun v hm => hv v (List.mem_cons_of_mem _ hm))]
theorem am_Base.congr {Tx : am_Tx} {b0 : Nat → Prop} {ad ad' : Nat → Nat} {l : Launch} {s : State} {H : Heap} (h : ∀ k, 1000 ≤ k → ad' k = ad k) (B : am_Base Tx b0 ad l s H) : am_Base Tx b0 ad' l s H := by
  obtain ⟨h1, h2, h3, h4, h5, h6, h7, h8, h9, h10, h11, h12⟩ := B
  refine ⟨h1, h2, h3, h4, fun q hm => ?_, h6, h7, h8, fun q hm => ?_, h10, by rw [h 4000 (by omega)]; exact h11, by unfold am_St; rw [h 4001 (by omega), h 4002 (by omega), h 4003 (by omega)]; exact h12⟩
  · rw [h _ (by omega)]; exact h5 q hm
  · unfold am_str1
    rw [h (1000 + q.1) (by omega), h (2000 + q.1) (by omega)]
    exact h9 q hm
/-- caught: the handler's first instruction puts the exception away; what the locals held is forgotten -/
theorem Rx_catch {Tx : am_Tx} {d k : Nat} {c : am_C} {pc i a b ln : Nat} {ls : List (Option Value)} {E : String} {μ : am_M} {Q : am_Res → Prop} {hh : List (Nat × Nat × Nat × Nat)} (hsome : c.1.2.2.2.2 = some hh)
    (pre suf : List ExceptionTableEntry) (x : ExceptionTableEntry) (hsplit : tableOf hh = pre ++ x :: suf) (hpass : ∀ z ∈ pre, covers z pc = false ∨ (z.catchType ≠ 0 ∧ ∃ nm : String, Cond.classLink c.1.1.cls z.catchType nm ∈ am_W ∧ (E, nm) ∈ am_NC))
    (hx : covers x pc = true) (h0 : x.catchType ≠ 0) (hlink : Cond.classLink c.1.1.cls x.catchType E ∈ am_W) (hcast : Cond.castable E E ∈ am_N)
    (hc : c.2 x.handlerPc = some (.astore i, 2, a, b) ∧ ln = 2 ∨ (∃ n : Fin 4, (n : Nat) = i ∧ c.2 x.handlerPc = some (.astore_n n, 1, a, b)) ∧ ln = 1) (hi : i < c.1.2.2.1)
    (h : am_R Tx d k c (x.handlerPc + ln) [] [] μ Q) : am_Rx Tx d k c pc ls E μ Q := by
  intro D b0 en p l e Rm s m args below meth cc H locs cells slots mc ms la rest q ce C B Wd S L hk hcell hv hcl
  obtain ⟨⟨hx1, hb, hml, hr⟩, ⟨ho, hts, hlk, hnm⟩, htab, ⟨hf, hlo⟩, hMF⟩ := id C
  have htab' : cc.exceptionTable.toList = pre ++ x :: suf := by rw [htab, ← hsplit]; unfold am_tab; rw [hsome]
  refine vx_catch ho pre x suf htab' (fun z hz => ?_) hx h0 (hts _ hlink) (va_Nw.use rfl (B.2.2.2.2.2.1 _ hcast)) hcell hv hcl ?_
  · rcases hpass z hz with h1 | ⟨h1, nm, h2, h3⟩
    · exact Or.inl h1
    · exact Or.inr ⟨h1, nm, hts _ h2, B.2.2.2.2.2.2.1 _ h3⟩
  · rcases hc with ⟨hc, rfl⟩ | ⟨⟨n, hn, hc⟩, rfl⟩
    · exact lv_astore hx1 hb (hMF.1 _ _ hc) L hi rfl (fun la' L2 => h D b0 en p l e Rm s m args below meth cc H locs cells slots mc ms la' C B Wd S ⟨L2.1, L2.2.1, fun q hq => nomatch hq⟩ hk)
    · exact lv_astore_n hx1 hb (hMF.1 _ _ hc) hn L hi rfl (fun la' L2 => h D b0 en p l e Rm s m args below meth cc H locs cells slots mc ms la' C B Wd S ⟨L2.1, L2.2.1, fun q hq => nomatch hq⟩ hk)
/-- a new place behind the others, with zeros -/
def am_new (μ : am_M) (sh : Nat × Nat) : am_M := (μ.1 ++ [sh], (fun a b => if a = μ.1.length then 0 else μ.2.1 a b), (fun a b => if a = μ.1.length then 0 else μ.2.2.1 a b), (fun a b => if a = μ.1.length then none else μ.2.2.2 a b))
/-- references of old places are old -/
def am_okP (μ : am_M) : Prop := ∀ k, k < μ.1.length → ∀ j x, μ.2.2.2 k j = some x → x < μ.1.length
def am_enN (n q : Nat) (cA : ClassId) (en : am_E) : am_E := (fun k => if k = n then q else en.1 k, fun k => if k = n then cA else en.2 k)
theorem am_enN_ext (n q : Nat) (cA : ClassId) (en : am_E) : am_ext n (n + 1) en (am_enN n q cA en) := ⟨fun k hk => if_neg (by omega), fun k hk => if_neg (by omega)⟩
theorem am_cell_new {μ : am_M} (hP : am_okP μ) {sh : Nat × Nat} {q : Nat} {cA : ClassId} {en : am_E} {k : Nat} (hk : k < μ.1.length) (kd n : Nat) : am_cell (am_enN μ.1.length q cA en) (am_new μ sh) k kd n = am_cell en μ k kd n := by
  have e1 : (am_new μ sh).2.1 k = μ.2.1 k := by funext b; exact if_neg (by omega)
  have e2 : (am_new μ sh).2.2.1 k = μ.2.2.1 k := by funext b; exact if_neg (by omega)
  have e3 : (am_new μ sh).2.2.2 k = μ.2.2.2 k := by funext b; exact if_neg (by omega)
  have e4 : (am_enN μ.1.length q cA en).2 k = en.2 k := if_neg (by omega)
  have e5 : ∀ j, (μ.2.2.2 k j).map (am_enN μ.1.length q cA en).1 = (μ.2.2.2 k j).map en.1 := by
    intro j
    cases h : μ.2.2.2 k j with
    | none => rfl
    | some x =>
      have := hP k hk j x h
      show some _ = some _
      exact congrArg some (if_neg (by omega))
  have e6 : ∀ (ty : FieldType) (i : Int32) (j : Nat), am_fv (am_enN μ.1.length q cA en).1 ty i (μ.2.2.2 k j) = am_fv en.1 ty i (μ.2.2.2 k j) := by
    intro ty i j
    unfold am_fv
    split
    · rfl
    · rfl
    · rfl
    · rw [e5]
  unfold am_cell
  rw [e1, e2, e3, e4]
  simp only [e5, e6]
theorem am_ws_new {μ : am_M} (hP : am_okP μ) (sh : Nat × Nat) (q : Nat) (cA : ClassId) (en : am_E) : am_ws (am_enN μ.1.length q cA en) (am_new μ sh) = am_ws en μ ++ [(q, am_cell (am_enN μ.1.length q cA en) (am_new μ sh) μ.1.length sh.1 sh.2)] := by
  apply List.ext_getElem?
  intro j
  by_cases hj : j < μ.1.length
  · have hs : μ.1[j]? = some μ.1[j] := List.getElem?_eq_getElem hj
    rw [am_ws_get (sh := μ.1[j]) (by show (μ.1 ++ [sh])[j]? = _; rw [List.getElem?_append_left hj]; exact hs), List.getElem?_append_left (by rw [am_ws_len]; exact hj), am_ws_get hs]
    unfold am_en
    rw [am_cell_new hP hj]
    rw [show (am_enN μ.1.length q cA en).1 j = en.1 j from if_neg (by omega)]
  · by_cases hj2 : j = μ.1.length
    · subst hj2
      rw [am_ws_get (sh := sh) (by show (μ.1 ++ [sh])[_]? = _; rw [List.getElem?_append_right (Nat.le_refl _), Nat.sub_self]; rfl), List.getElem?_append_right (by rw [am_ws_len]; exact Nat.le_refl _), am_ws_len, Nat.sub_self]
      unfold am_en
      rw [show (am_enN μ.1.length q cA en).1 μ.1.length = q from if_pos rfl]
      rfl
    · rw [List.getElem?_eq_none (by rw [am_ws_len]; show (μ.1 ++ [sh]).length ≤ j; simp; omega), List.getElem?_eq_none (by simp [am_ws_len]; omega)]
/-- the grown memory lies in the grown heap -/
theorem am_Wt.new {Tx : am_Tx} {D : va_G} {b0 : Nat → Prop} {en : am_E} {μ : am_M} {l : Launch} {s : State} {H H1 : Heap} {locs : List Loc} (Wd : am_Wt D b0 en μ s H) (B : am_Base Tx b0 en.1 l s s.heap) (S : va_S (am_F b0) s.heap H locs) (S1 : va_S (am_F b0) s.heap H1 locs)
    (hP0 : am_okP μ) (hn : μ.1.length < 1000) {sh : Nat × Nat} {q : Nat} {cA : ClassId} (hP : va_P D am_cl (am_ws en μ ++ [(q, am_cell (am_enN μ.1.length q cA en) (am_new μ sh) μ.1.length sh.1 sh.2)]) H1)
    (hD : va_D (am_F b0) (am_ws en μ ++ [(q, am_cell (am_enN μ.1.length q cA en) (am_new μ sh) μ.1.length sh.1 sh.2)])) (hA : ∀ ty : FieldType, am_aty sh.1 = some ty → ArrOfT s cA ty ∧ va_RA s cA ty) : am_Wt D b0 (am_enN μ.1.length q cA en) (am_new μ sh) s H1 := by
  obtain ⟨w1, w2, w3, w4, ⟨Ln, x1, x2, x3, x4⟩, w6⟩ := Wd
  have hb : en.1 3000 < s.heap.size := Nat.not_le.mp fun z => x4 (B.2.1 _ z)
  have e0 : (am_enN μ.1.length q cA en).1 3000 = en.1 3000 := if_neg (by omega)
  have e1 : (am_new μ sh).2.1 3000 = μ.2.1 3000 := by funext b; exact if_neg (by omega)
  have e2 : (am_new μ sh).2.1 3001 0 = μ.2.1 3001 0 := if_neg (by omega)
  refine ⟨by rw [am_ws_new hP0]; exact hP, w2, fun k sh2 hk ty ht => ?_, by rw [am_ws_new hP0]; exact hD, ⟨Ln, by rw [e0, e1]; exact x1.kept ((S1.2.1 _ hb x4).trans (S.2.1 _ hb x4).symm), by rw [e2]; exact x2, x3, by rw [e0]; exact x4⟩, by show (μ.1 ++ [sh]).length ≤ 1000; simp; omega⟩
  by_cases hj : k < μ.1.length
  · have hk2 : μ.1[k]? = some sh2 := by
      have h9 : (μ.1 ++ [sh])[k]? = some sh2 := hk
      rwa [List.getElem?_append_left hj] at h9
    rw [show (am_enN μ.1.length q cA en).2 k = en.2 k from if_neg (by omega)]
    exact w3 k sh2 hk2 ty ht
  · have h9 : (μ.1 ++ [sh])[k]? = some sh2 := hk
    rw [List.getElem?_append_right (by omega)] at h9
    have hz : k - μ.1.length < 1 := (List.getElem?_eq_some_iff.mp h9).1
    have hk0 : k = μ.1.length := by omega
    subst hk0
    rw [Nat.sub_self] at h9
    cases h9
    rw [show (am_enN μ.1.length q cA en).2 μ.1.length = cA from if_pos rfl]
    exact hA ty ht
theorem am_dflt : ∀ ci, ci < 13 → ∀ j, j < am_nf ci → defaultValue (am_ty ci j) = am_fv id (am_ty ci j) 0 none := by decide +kernel
theorem am_fv_none (ad : Nat → Nat) (ty : FieldType) (i : Int32) : am_fv ad ty i none = am_fv id ty i none := by
  unfold am_fv
  split <;> rfl
theorem am_nf_le {ci : Nat} (h : ci < 13) : am_nf ci ≤ 28 := by
  revert ci
  decide +kernel
section AMN
variable {Tx : am_Tx} {d k : Nat} {c : am_C} {pc a b : Nat} {ls : List (Option Value)} {st : List Value} {μ : am_M} {Q : am_Res → Prop}
theorem R_new {idx ci : Nat} (hc : c.2 pc = some (.new idx, 3, ci, 0)) (hci : ci < 13) (hst : ∀ v ∈ st, am_okv μ.1.length v) (hls : ∀ v, some v ∈ ls → am_okv μ.1.length v) (hP0 : am_okP μ) (hn : μ.1.length < 1000)
    (h : am_R Tx d k c (pc + 3) ls (.ref μ.1.length :: st) (am_new μ (0, ci)) Q) : am_R Tx d (1 + k) c pc ls st μ Q := by
  intro D b0 en p l e Rm s m args below meth cc H locs cells slots mc ms la C B Wd S L hk
  obtain ⟨⟨hx, hb, hml, hr⟩, ⟨ho, hts, hlk, hnm⟩, htab, ⟨hf, hlo⟩, hMF⟩ := id C
  have hdg := hMF.1 pc _ hc
  have hnd := hMF.2 pc _ hc
  obtain ⟨q1, q2, q3, q4⟩ := am_cl_ok ci _ (am_clq hci)
  have g1 := hts _ (am_Wmem (hnd (.classLink c.1.1.cls idx (am_q ci).1) (by simp [am_need])) rfl)
  have g2 := hts _ (am_Wmem (hnd (.instantiable (am_q ci).1 (am_q ci).2.2) (by simp [am_need])) rfl)
  have g3 := hts _ (am_Wmem (hnd (.initialized (am_q ci).1) (by simp [am_need])) rfl)
  have h28 := am_nf_le hci
  have hle : (am_q ci).2.2 ≤ 28 := by rw [q1]; exact h28
  refine va_new (ci := ci) (fs := (List.range (am_nf ci)).map (fun j => am_fv id (am_ty ci j) 0 none)) hx hb hts q2 (am_ty ci) q3 ho g1 g2 g3 Wd.2.1 Wd.1 Wd.2.2.2.1 S B.2.1 (am_clq hci) (fun j hj => ?_) (by omega) (by omega) hdg (fun q H1 P1 D1 S1 => ?_)
  · rw [q1] at hj
    rw [vp_V, List.getD_eq_getElem?_getD, List.getElem?_map, List.getElem?_range hj]
    exact am_dflt ci hci j hj
  · have ecell : am_cell (am_enN μ.1.length q 0 en) (am_new μ (0, ci)) μ.1.length 0 ci = .inr (ci, (List.range (am_nf ci)).map (fun j => am_fv id (am_ty ci j) 0 none)) := by
      show (Sum.inr (ci, _) : va_E) = Sum.inr (ci, _)
      refine congrArg (fun z => Sum.inr (ci, z)) (List.map_congr_left fun j _ => ?_)
      have e1 : (am_new μ (0, ci)).2.1 μ.1.length j = 0 := if_pos rfl
      have e3 : (am_new μ (0, ci)).2.2.2 μ.1.length j = none := if_pos rfl
      rw [e1, e3, am_fv_none]
    rw [← ecell] at P1 D1
    have W1 := am_Wt.new (sh := (0, ci)) Wd B S S1 hP0 hn P1 D1 (fun ty ht => by cases ht)
    have hext := am_enN_ext μ.1.length q 0 en
    have hl1 : (am_new μ (0, ci)).1.length = μ.1.length + 1 := by show (μ.1 ++ _).length = _; simp
    have K := h D b0 (am_enN μ.1.length q 0 en) p l e Rm s m args below meth cc H1 locs (cells + 1) (slots + (am_q ci).2.2) mc ms la C (B.congr fun k hk => hext.1 k (by omega)) W1 S1 (by rw [am_prs_ext hext (by omega) ls 0 hls]; exact L) ⟨by omega, by omega, hk.2.2⟩
    rw [hl1] at K
    have K2 := am_mono (am_ext_MQ hext (Nat.le_succ _)) K
    rw [List.map_cons, am_map_ext hext (by omega) hst] at K2
    rw [show am_v (am_enN μ.1.length q 0 en).1 (.ref μ.1.length) = .ref q from congrArg Value.ref (if_pos rfl)] at K2
    exact K2
end AMN
