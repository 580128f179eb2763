/-! ===== what is written ===== -/
theorem sl_ldcW {p : Program} {l : Launch} {e : Env} {R : Room} {s : State} {m : MethodId} {args A : Array Value} {below : List Frame} {meth : Method} {c : Code} {T : State} {locs : List Loc} {cells slots : Nat} (X : Stand p l e R s m args below meth c T locs cells slots) (hexec : p.tables.exec = Jvm.exec) {own text : String} {index : Nat} {a : Addr} (hown : s.vm.findClass own = some m.cls) (hconst : (Cond.stringRef own index text).before A s = true) (hev : (Term.string own index).eval A s none [] s = some (.ref a)) {g : JFrame} (hg : g.method = m) (hdg : decode c.code g.pc = .ok (.ldc_w index, 3)) : ∀ target, Steps p.tables e below (T.setTop { g with pc := g.pc + 3, stack := .ref a :: g.stack }) target → Steps p.tables e below (T.setTop g) target := by
  obtain ⟨k, cf, i, a', hk, hcf, hcp, -, hr, hev'⟩ := Cond.stringRef_spec hown hconst
  cases hev.symm.trans hev'
  obtain ⟨k', hk', he⟩ := X.warmed.alike.2.2 _ _ hk
  have hr' : k'.resolved[index]? = some (some (.string a)) := by
    rcases X.warmed.entry hk hk' index with h | ⟨h, -⟩
    · rw [h]; exact hr
    · rw [hr] at h; cases h
  intro target hrest
  subst hg
  jvm_step X.here [hexec, hdg, Jvm.Op.ldc_w.wp_string (e := e) (s := T) (f := g) X.here.top hk' (by rw [he]; exact hcf) hcp hr']
  exact hrest
theorem R_ldcSW {d k : Nat} {c : am_C} {pc a b : Nat} {ls : List (Option Value)} {st : List Value} {μ : am_M} {Q : am_Res → Prop} {idx i : Nat} {tx : String} (hc : c.2 pc = some (.ldc_w idx, 3, a, b)) (ht : (c.1.1.cls, idx, tx, i) ∈ am_TX) (h : am_R am_TX d k c (pc + 3) ls (.ref (1000 + i) :: st) μ Q) : am_R am_TX d k c pc ls st μ Q := by
  intro D b0 en p l e Rm s m args below meth cc H locs cells slots mc ms la C B Wd S L hk
  have hdg := C.2.2.2.2.1 pc _ hc
  intro T hT X
  obtain ⟨t, a1, b1⟩ := h D b0 en p l e Rm s m args below meth cc H locs cells slots mc ms la C B Wd S L hk T hT X
  exact ⟨t, sl_ldcW X C.1.1 C.2.1.1 (B.2.2.2.2.1 _ ht).1 (B.2.2.2.2.1 _ ht).2 (g := F0 m pc la (st.map (am_v en.1))) rfl (by rw [C.1.2.1]; exact hdg) t a1, b1⟩
theorem take_s {bs : List Int32} {i : Nat} (h : i < bs.length) : bs.take (i + 1) = bs.take i ++ [bs.getD i 0] := by
  rw [List.take_succ, List.getD_eq_getElem?_getD, List.getElem?_eq_getElem h]
  rfl
set_option maxRecDepth 100000 in
set_option maxHeartbeats 4000000 in
theorem lp_txt {σ : am_G} {L : List Int32} {q0 : Nat} {bs : List Int32} {d k0 : Nat} (hs : (q0, bs) ∈ am_SL) (hL : L.length + bs.length ≤ 1000) (hd : 4 ≤ d)  : ∀ (uu i : Nat) (τ : am_G), i + uu = bs.length → (smP pO σ τ ∧ oC τ (L ++ bs.take i)) → am_R am_TX d k0 c_Output_addText 2 [some (.ref 14), some (.ref (1000 + q0)), some (.int (nI i))] [] (mm τ) (am_Ok none (fun σ1 => smP pO σ σ1 ∧ oC σ1 (L ++ bs))) := by
  have h9 := sl_b _ hs
  simp only at h9
  intro uu
  induction uu with
  | zero =>
    intro i τ hi hI
    obtain rfl : bs.length = i := by omega
    refine R_iload_n rfl rfl ?_
    refine R_aload_n rfl rfl ?_
    refine R_cT (i := q0) (as := []) rfl rfl iv_JString_length (sp_slength hs) (by omega) rfl rfl hs rfl rfl (Nat.le_of_ble_eq_true rfl) (fun _ q => ?_)
    obtain rfl := q.symm
    refine R_nicmp_ge (x := bs.length) (y := bs.length) rfl rfl (by omega) (by omega) (fun h1 => ?_) (fun z => by omega)
    exact T_return rfl rfl (am_okv0 ⟨hI.1, by rw [List.take_length] at hI; exact hI.2⟩)
  | succ uu ih =>
    intro i τ hi hI
    refine R_iload_n rfl rfl ?_
    refine R_aload_n rfl rfl ?_
    refine R_cT (i := q0) (as := []) rfl rfl iv_JString_length (sp_slength hs) (by omega) rfl rfl hs rfl rfl (Nat.le_of_ble_eq_true rfl) (fun _ q => ?_)
    obtain rfl := q.symm
    refine R_nicmp_ge (x := i) (y := bs.length) rfl rfl (by omega) (by omega) (fun z => by omega) (fun h1 => ?_)
    refine R_aload_n rfl rfl ?_
    refine R_aload_n rfl rfl ?_
    refine R_iload_n rfl rfl ?_
    refine R_cT (i := q0) (as := [.int (nI i)]) rfl rfl iv_JString_charAt (sp_charAt (j := i) hs (by omega)) (by omega) rfl rfl hs rfl rfl (Nat.le_of_ble_eq_true rfl) (fun _ q => ?_)
    obtain rfl := q.symm
    refine R_cV (as := [.int (bs.getD i 0)]) rfl rfl iv_Output_addByte (sp_addByte (x := (bs.getD i 0)) hI.2 (by rw [List.length_append, List.length_take]; omega)) (by omega) rfl rfl rfl (by decide) rfl rfl (Nat.le_of_ble_eq_true rfl) (fun τ1 hτ1 => ?_)
    obtain ⟨p1, o1⟩ := hτ1
    refine R_iincN (x := i) (m := 1) rfl rfl rfl (by decide) ?_
    refine R_goto rfl rfl ?_
    have e := ih (i + 1) τ1 (by omega) ⟨hI.1.trans p1, by rw [take_s (by omega), ← List.append_assoc]; exact o1⟩
    exact e.weak ⟨rfl, rfl, rfl, trivial⟩
set_option maxRecDepth 100000 in
set_option maxHeartbeats 4000000 in
theorem sp_addText {σ : am_G} {L : List Int32} {q0 : Nat} {bs : List Int32} (hs : (q0, bs) ∈ am_SL) (h : oC σ L) (hl : L.length + bs.length ≤ 1000) : am_Call am_TX 4 0 c_Output_addText [.ref 14, .ref (1000 + q0)] (mm σ) (am_Ok none (fun σ1 => smP pO σ σ1 ∧ oC σ1 (L ++ bs))) := by
  refine ⟨mf_Output_addText, Nat.le_of_ble_eq_true rfl, ?_⟩
  refine R_iconst (v := 0) rfl rfl ?_
  refine R_istore_n rfl (by decide) ?_
  exact (lp_txt hs hl (by omega) bs.length 0 σ (by omega) ⟨smP.refl, by rw [List.take_zero, List.append_nil]; exact h⟩).weak ⟨rfl, rfl, rfl, trivial⟩
set_option maxRecDepth 100000 in
set_option maxHeartbeats 4000000 in
theorem sp_D_writeMatrix {σ : am_G} {h w rh pn : Nat} {f v rl : am_Gr} {I : Nat → Int32} (hv : vS σ 26 h w f v rh rl pn I) : am_Call am_TX 8 0 c_D_writeMatrix [.ref 0] (mm σ) (am_Ok (some (.int (nI (lnL f w h).length))) (fun σ1 => smP (plc 14 26) σ σ1 ∧ oC σ1 (lnL f w h))) := by
  have hh6 := hv.1.1.2
  have hw6 := hv.1.2.1.2
  have hr6 := hv.2.2.1.1.2
  have hp6 := hv.2.2.2.1.2
  have hll := @lnL_len f w h
  have hlm : (21 * w + 1) * h ≤ 127 * 6 := Nat.mul_le_mul (by omega) (by omega)
  refine ⟨mf_D_writeMatrix, Nat.le_of_ble_eq_true rfl, ?_⟩
  refine R_aload_n rfl rfl ?_
  refine R_gP (x := 14) rfl rfl fp_10_3 rfl ?_
  refine R_cV (as := []) rfl rfl iv_Output_clear (sp_Output_clear) (by decide) rfl rfl rfl (by decide) rfl rfl (Nat.le_of_ble_eq_true rfl) (fun τ1 hτ1 => ?_)
  obtain ⟨pτ1, oτ1⟩ := hτ1
  refine R_aload_n rfl rfl ?_
  refine R_gP (x := 14) rfl rfl fp_10_3 rfl ?_
  refine R_aload_n rfl rfl ?_
  refine R_gP (x := 26) rfl rfl fp_10_6 rfl ?_
  refine R_gP (x := 27) rfl rfl fp_9_0 rfl ?_
  refine R_cV (as := [.ref 27]) rfl rfl iv_Output_addLines (sp_addLines im27 (by omega) ((pτ1.mono (q := plc 14 26) (fun a b => by unfold pO plc; omega)).vM hv.1 (fun b => by unfold plc; omega) (fun b => by unfold plc; omega)) oτ1 (by simp only [List.length_append, List.length_cons, List.length_nil, List.nil_append]; omega)) (by decide) rfl rfl rfl (by decide) rfl rfl (Nat.le_of_ble_eq_true rfl) (fun τ3 hτ3 => ?_)
  obtain ⟨pτ3, oτ3⟩ := hτ3
  refine R_aload_n rfl rfl ?_
  refine R_gP (x := 14) rfl rfl fp_10_3 rfl ?_
  refine R_gIN (n := (([] ++ lnL f w h)).length) rfl rfl fd_5_0 oτ3.1 ?_
  exact T_ireturn rfl rfl (am_oki rfl ⟨((pτ1.mono (q := plc 14 26) (fun a b => by unfold pO plc; omega)).trans (pτ3.mono (q := plc 14 26) (fun a b => by unfold pO plc; omega))), oτ3⟩)
