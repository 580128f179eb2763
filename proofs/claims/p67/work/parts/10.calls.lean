/-! ===== calls ===== -/
-- am_ofW, am_ofWH: as vx_ofW, vx_ofWH, for a method (not a class) that no native overrides
theorem am_ofW {l : Launch} {y : MethodName} {ws ws' : List Cond} {rm : Room} {Pc : Array Value → State → Prop} {Qc : Array Value → State → Outcome → State → Prop} {XC : String → State → State → Prop} {mc ms : Nat} {free : Addr → Prop} {cc : ByteArray} {maxL : Nat} {ret : Option FieldType}
    (hy : plainFor y = true) (hw : ws = Cond.code y cc maxL ret :: ws')
    (body : ∀ p e s m args below meth c s₁, BodyLoose p l y (headSpec ws rm) cc maxL ret e s m args below meth c s₁ → c.maxLocals = maxL → (∀ x ∈ c.exceptionTable.toList, False) → Pc args s →
      W p l e (headSpec ws rm).room s m args below meth c s.heap [] 0 0 (vx_MQ below Qc XC args s mc ms free) (entryFrame m args maxL)) : vx_Met l y ws rm Pc Qc XC mc ms free := by
  refine MetFree.of_bodySF (code := cc) (maxLocals := maxL) (ret := ret) hy ?_ ?_
  · intro args s m h hn
    obtain ⟨meth, c, h1, h2, h3, h4, h5, h6, -, -⟩ := Cond.code_spec hn (atoms_spec (ws := ws) h _ (by rw [hw]; exact List.mem_cons_self))
    exact ⟨meth, c, h1, h2, h3, h4, h5, h6⟩
  · intro p e s m args below meth c s₁ B hml hP _
    have hh0 : s₁.heap = s.heap := by rw [B.state]; rfl
    have ht : ∀ x ∈ c.exceptionTable.toList, False := by
      obtain ⟨meth9, c9, h1, h2, -, -, -, -, h7, -⟩ := Cond.code_spec B.named (atoms_spec (ws := ws) B.pre _ (by rw [hw]; exact List.mem_cons_self))
      cases Option.some.inj (h1.symm.trans B.method)
      cases Option.some.inj (h2.symm.trans (Stand.of_body B).code)
      intro x hx
      rw [Array.isEmpty_iff.mp h7] at hx
      cases hx
    obtain ⟨t, a1, o, b1, b2, b3⟩ := body p e s m args below meth c s₁ B hml ht hP s₁ hh0 (Stand.of_body B)
    exact ⟨t, o, a1, b1, b2, b3⟩
theorem am_ofWH {l : Launch} {y : MethodName} {ws ws' : List Cond} {rm : Room} {Pc : Array Value → State → Prop} {Qc : Array Value → State → Outcome → State → Prop} {XC : String → State → State → Prop} {mc ms : Nat} {free : Addr → Prop} {cc : ByteArray} {maxL : Nat} {ret : Option FieldType} {hh : List (Nat × Nat × Nat × Nat)}
    (hy : plainFor y = true) (hw : ws = Cond.codeWith y cc maxL ret hh :: ws')
    (body : ∀ p e s m args below meth c s₁, BodyLoose p l y (headSpec ws rm) cc maxL ret e s m args below meth c s₁ → c.maxLocals = maxL → Pc args s →
      W p l e (headSpec ws rm).room s m args below meth c s.heap [] 0 0 (vx_MQ below Qc XC args s mc ms free) (entryFrame m args maxL)) : vx_Met l y ws rm Pc Qc XC mc ms free := by
  refine MetFree.of_bodySF (code := cc) (maxLocals := maxL) (ret := ret) hy ?_ ?_
  · intro args s m h hn
    obtain ⟨m9, meth, c, hn9, h1, h2, h3, h4, -, h5, h6, -⟩ := Cond.codeWith_spec (atoms_spec (ws := ws) h _ (by rw [hw]; exact List.mem_cons_self))
    cases hn.symm.trans hn9
    exact ⟨meth, c, h1, h2, h3, h4, h5, h6⟩
  · intro p e s m args below meth c s₁ B hml hP _
    have hh0 : s₁.heap = s.heap := by rw [B.state]; rfl
    obtain ⟨t, a1, o, b1, b2, b3⟩ := body p e s m args below meth c s₁ B hml hP s₁ hh0 (Stand.of_body B)
    exact ⟨t, o, a1, b1, b2, b3⟩
def am_ex : List Value → List (Option Value)
  | [] => []
  | v :: l => some v :: (match v with
    | .long _ => none :: am_ex l
    | .double _ => none :: am_ex l
    | _ => am_ex l)
/-- the locals at a method's entry -/
def am_args (n : Nat) (as : List Value) : List (Option Value) := am_ex as ++ List.replicate (n - (am_ex as).length) none
/-- the method, called with these arguments in this memory, ends with a result of which Q holds -/
def am_Call (Tx : am_Tx) (d k : Nat) (c : am_C) (as : List Value) (μ : am_M) (Q : am_Res → Prop) : Prop := am_MF c ∧ (am_ex as).length ≤ c.1.2.2.1 ∧ am_R Tx d k c 0 (am_args c.1.2.2.1 as) [] μ Q
theorem am_ex_len (ad : Nat → Nat) : ∀ as : List Value, (lg_sl (as.map (am_v ad))).length = (am_ex as).length
  | [] => rfl
  | v :: l => by
    have ih := am_ex_len ad l
    cases v <;> simp [am_ex, lg_sl, am_v, Value.category] at ih ⊢ <;> exact ih
theorem am_prs_app (ad : Nat → Nat) (n : Nat) : ∀ (l : List (Option Value)) (i : Nat), am_prs ad i (l ++ List.replicate n none) = am_prs ad i l
  | [], i => by
    induction n generalizing i with
    | zero => rfl
    | succ n ih => simpa [List.replicate_succ, am_prs] using ih (i + 1)
  | none :: l, i => by simpa [am_prs] using am_prs_app ad n l (i + 1)
  | some v :: l, i => by simpa [am_prs] using am_prs_app ad n l (i + 1)
theorem am_ex_prs (ad : Nat → Nat) : ∀ (as : List Value) (i : Nat), am_prs ad i (am_ex as) = lv_args i (as.map (am_v ad))
  | [], i => rfl
  | v :: l, i => by
    cases v <;> simp [am_ex, am_prs, lv_args, am_v, Value.category] <;> first | exact am_ex_prs ad l (i + 1) | exact am_ex_prs ad l (i + 2)
theorem am_entry (ad : Nat → Nat) {as : List Value} {n : Nat} (h : (am_ex as).length ≤ n) : lv_has ((lg_sl (as.map (am_v ad)) ++ List.replicate (n - (lg_sl (as.map (am_v ad))).length) Slot.unset).toArray) n (am_prs ad 0 (am_args n as)) := by
  have h1 := lv_entry (as.map (am_v ad)) (n := n) (by rw [am_ex_len]; exact h)
  rw [am_args, am_prs_app, am_ex_prs]
  exact h1
def am_rm (d k : Nat) : Room := { frames := 8 + d, cells := k, slots := 1000 * k, locals := 200 + 64 * d }
def am_Start (Tx : am_Tx) (D : va_G) (b0 : Nat → Prop) (en : am_E) (μ : am_M) (l : Launch) (U : State) : Prop := am_Base Tx b0 en.1 l U U.heap ∧ am_Wt D b0 en μ U U.heap
theorem am_met {Tx : am_Tx} {d k : Nat} {c : am_C} {as : List Value} {μ : am_M} {Q : am_Res → Prop} (hC : am_Call Tx d k c as μ Q) (D : va_G) (b0 : Nat → Prop) (en : am_E) (l : Launch) :
    vx_Met l c.1.1 (am_cw c.1 :: am_W) (am_rm d k) (va_Pc (as.map (am_v en.1)) (am_Start Tx D b0 en μ l)) (am_Qc D b0 en μ.1.length Q) (am_XC D b0 en μ.1.length Q) k (1000 * k) (am_F b0) := by
  obtain ⟨hMF, hlen, hR⟩ := hC
  have body : ∀ (p : Program) (e : Env) (s : State) (m : MethodId) (args : Array Value) (below : List Frame) (meth : Method) (cc : Code) (s₁ : State), BodyLoose p l c.1.1 (headSpec (am_cw c.1 :: am_W) (am_rm d k)) c.1.2.1 c.1.2.2.1 c.1.2.2.2.1 e s m args below meth cc s₁ → cc.maxLocals = c.1.2.2.1 → cc.exceptionTable.toList = am_tab c.1 → va_Pc (as.map (am_v en.1)) (am_Start Tx D b0 en μ l) args s →
      W p l e (headSpec (am_cw c.1 :: am_W) (am_rm d k)).room s m args below meth cc s.heap [] 0 0 (vx_MQ below (am_Qc D b0 en μ.1.length Q) (am_XC D b0 en μ.1.length Q) args s k (1000 * k) (am_F b0)) (entryFrame m args c.1.2.2.1) := by
    intro p e s m args below meth cc s₁ B hml ht hv
    obtain ⟨rfl, hB, hW⟩ := hv
    have hts := atoms_spec (ws := am_cw c.1 :: am_W) B.pre
    rw [lg_entry_eq]
    exact hR D b0 en p l e _ s m _ below meth cc s.heap [] 0 0 k (1000 * k) _
      ⟨⟨B.exec, B.bytes, hml, B.returns⟩, ⟨findClass_of_methodNamed B.named, fun w hw => hts w (List.mem_cons_of_mem _ hw), B.notSynchronized, (name_of_methodNamed B.named B.method).1⟩, ht, ⟨Nat.le_refl _, Nat.le_refl _⟩, hMF.1⟩
      hB hW va_S.rf (am_entry en.1 hlen) ⟨by omega, by omega, Nat.le_refl _, Nat.le_refl _⟩
  cases hh : c.1.2.2.2.2 with
  | none =>
    have e1 : am_cw c.1 = .code c.1.1 c.1.2.1 c.1.2.2.1 c.1.2.2.2.1 := by unfold am_cw; rw [hh]
    exact am_ofW (ws' := am_W) (cc := c.1.2.1) (maxL := c.1.2.2.1) (ret := c.1.2.2.2.1) hMF.2.2 (by rw [e1]) (fun p e s m args below meth cc s₁ B hml ht hv => body p e s m args below meth cc s₁ B hml (by
      unfold am_tab
      rw [hh]
      exact List.eq_nil_iff_forall_not_mem.mpr fun x hx => ht x hx) hv)
  | some h =>
    have e1 : am_cw c.1 = .codeWith c.1.1 c.1.2.1 c.1.2.2.1 c.1.2.2.2.1 h := by unfold am_cw; rw [hh]
    exact am_ofWH (ws' := am_W) (cc := c.1.2.1) (maxL := c.1.2.2.1) (ret := c.1.2.2.2.1) (hh := h) hMF.2.2 (by rw [e1]) (fun p e s m args below meth cc s₁ B hml hv => body p e s m args below meth cc s₁ B hml (by
      have hts := atoms_spec (ws := am_cw c.1 :: am_W) B.pre
      have h9 := hts _ List.mem_cons_self
      rw [e1] at h9
      unfold am_tab
      rw [hh]
      exact vx_table (x := c.1.1) B h9) hv)
theorem am_blind {Tx : am_Tx} {D : va_G} {b0 : Nat → Prop} {en : am_E} {μ : am_M} {l : Launch} {av : List Value} : FrameBlind (va_Pc av (am_Start Tx D b0 en μ l)) := by
  rintro a U g mk ⟨h1, h2, h3⟩
  exact ⟨h1, am_Base.moved (U := U.calling g mk a) (State.WarmedH.refl U) (Nat.le_refl _) (fun _ _ _ => rfl) h2, am_Wt.moved (U := U.calling g mk a) (Vm.Alike.refl U.vm) h3⟩
/-- the callee's start out of the caller's state -/
theorem am_start {Tx : am_Tx} {D : va_G} {b0 : Nat → Prop} {en : am_E} {μ : am_M} {l : Launch} {s U : State} {H : Heap} {locs : List Loc} (B : am_Base Tx b0 en.1 l s s.heap) (Wd : am_Wt D b0 en μ s H) (S : va_S (am_F b0) s.heap H locs) (hU : U.heap = H) (hW : s.WarmedH U.vm) : am_Start Tx D b0 en μ l U := by
  refine ⟨?_, ?_⟩
  · rw [hU]
    exact am_Base.moved hW S.1 (fun a h1 h2 => S.2.1 a h1 h2) B
  · rw [hU]
    exact am_Wt.moved hW.alike Wd
/-- behind a call -/
theorem am_after {Tx : am_Tx} {d kc k : Nat} {c : am_C} {pc : Nat} {ls : List (Option Value)} {st : List Value} {μ : am_M} {Q Qc : am_Res → Prop} {D : va_G} {b0 : Nat → Prop} {en : am_E} {p : Program} {l : Launch} {e : Env} {Rm : Room} {s : State} {m : MethodId} {args a : Array Value} {below : List Frame} {meth : Method} {cc : Code} {H : Heap} {locs : List Loc} {cells slots mc ms : Nat} {la : Array Slot} {st0 rest : List Value}
    (C : am_Ctx d c p Rm s m args meth cc) (B : am_Base Tx b0 en.1 l s s.heap) (S : va_S (am_F b0) s.heap H locs) (L : lv_has la c.1.2.2.1 (am_prs en.1 0 ls)) (hk : cells + (kc + k) ≤ mc ∧ slots + 1000 * (kc + k) ≤ ms ∧ mc ≤ Rm.cells ∧ ms ≤ Rm.slots)
    (hn : ∀ r, Qc r → r.2.1.length = μ.1.length) (hrest : rest = st.map (am_v en.1))
    (hr : vx_Run p l e Rm s m args below meth cc H locs cells slots kc (1000 * kc) (F0 m pc la st0) rest (am_Qc D b0 en μ.1.length Qc a) (am_XC D b0 en μ.1.length Qc) (am_F b0))
    (k1 : ∀ v μ1, Qc (.inl v, μ1) → am_R Tx d k c (pc + 3) ls (v.toList ++ st) μ1 Q) (k2 : ∀ E μ1, Qc (.inr E, μ1) → am_Rx Tx d k c pc ls E μ1 Q) :
    W p l e Rm s m args below meth cc H locs cells slots (vx_MQ below (am_Qc D b0 en μ.1.length Q) (am_XC D b0 en μ.1.length Q) args s mc ms (am_F b0)) (F0 m pc la st0) := by
  intro T hT X
  subst hrest
  rcases hr T hT X with ⟨v, st₀, t, T', Lo, h0, X', hL, e1, e2, ⟨v', μ', en', hq, hext, hlen, hv, hWt, hF⟩, stp⟩ | ⟨q, st₀, t, T', Lo, E, ce, h0, X', hL, e1, e2, ⟨μ', en', hq, hext, hlen, hWt, hF⟩, hce, hcv, hcl, stp⟩
  · have hl1 := hn _ hq
    rw [show (μ'.1.length) = μ.1.length from hl1] at hext
    have := hext.same
    subst this
    obtain ⟨q1, q2, q3⟩ := vx_keep h0 e1 S (fun q _ h => h) (fun q h => h) hL hF
    have hal : t.vm.Alike s.vm := by rw [← e2]; exact X'.warmed.alike.symm
    have hw : am_Wt D b0 en' μ' s T'.heap := by rw [e1]; exact am_Wt.moved hal hWt
    have hvv : v = v'.map (am_v en'.1) := by cases hv; rfl
    subst hvv
    obtain ⟨t2, a1, b1⟩ := k1 v' μ' hq D b0 en' p l e Rm s m args below meth cc T'.heap (locs ++ Lo) (cells + kc) (slots + 1000 * kc) mc ms la C B hw q3 L ⟨by omega, by omega, hk.2.2⟩ T' rfl X'
    rw [show μ'.1.length = μ.1.length from hl1] at b1
    refine ⟨t2, stp t2 ?_, b1⟩
    have e9 : (v'.toList ++ st).map (am_v en'.1) = (v'.map (am_v en'.1)).toList ++ st.map (am_v en'.1) := by cases v' <;> simp
    rw [e9] at a1
    exact a1
  · have hl1 := hn _ hq
    rw [show (μ'.1.length) = μ.1.length from hl1] at hext
    have := hext.same
    subst this
    obtain ⟨q1, q2, q3⟩ := vx_keep h0 e1 S (fun q _ h => h) (fun q h => h) hL hF
    have hal : t.vm.Alike s.vm := by rw [← e2]; exact X'.warmed.alike.symm
    have hw : am_Wt D b0 en' μ' s T'.heap := by rw [e1]; exact am_Wt.moved hal hWt
    obtain ⟨t2, a1, b1⟩ := k2 E μ' hq D b0 en' p l e Rm s m args below meth cc T'.heap (locs ++ Lo) (cells + kc) (slots + 1000 * kc) mc ms la (st.map (am_v en'.1)) q ce C B hw q3 L ⟨by omega, by omega, hk.2.2⟩ (by rw [e1]; exact hce) hcv hcl T' rfl X'
    rw [show μ'.1.length = μ.1.length from hl1] at b1
    exact ⟨t2, stp.trans a1, b1⟩
/-- thrown out of the method -/
theorem Rx_out {Tx : am_Tx} {d k : Nat} {c : am_C} {pc : Nat} {ls : List (Option Value)} {E : String} {μ : am_M} {Q : am_Res → Prop} (hh : c.1.2.2.2.2 = none) (hq : Q (.inr E, μ)) : am_Rx Tx d k c pc ls E μ Q := by
  intro D b0 en p l e Rm s m args below meth cc H locs cells slots mc ms la rest q ce C B Wd S L hk hcell hv hcl
  have htab : cc.exceptionTable.toList = [] := by rw [C.2.2.1]; unfold am_tab; rw [hh]
  exact vx_out (fun x hx => by rw [htab] at hx; cases hx) C.2.1.2.2.1 hcell hv hcl (fun t ht hA => ⟨μ, en, hq, am_ext.rf, Nat.le_refl _, by rw [ht]; exact Wd.moved hA, S.F ht⟩) S.2.2 (by omega) (by omega)

/-- a call's words -/
theorem am_payW {s : State} {args : Array Value} {cs : am_S} (hts : ∀ w ∈ am_W, w.before args s = true) (hcw : am_cw cs ∈ am_W) : ∀ w ∈ am_cw cs :: am_W, ∀ (a' : Array Value) (U : State), s.WarmedH U.vm → w.before a' U = true := by
  refine pay_in hts fun w hw => ?_
  have h : w ∈ am_W := by
    rcases List.mem_cons.mp hw with h | h
    · rw [h]; exact hcw
    · exact h
  exact ⟨h, good_of_word (List.mem_filter.mp h).2⟩
theorem am_len {y : MethodName} {n : Nat} (h : (parseMethodDescriptor y.desc).map (fun d => d.parameters.length) = some n) : ∀ sig, parseMethodDescriptor y.desc = some sig → n = sig.parameters.length := by
  intro sig hs
  rw [hs] at h
  exact (Option.some.inj h).symm
theorem am_stw {ad : Nat → Nat} {st : List Value} (h : (st.map fun v => v.category).sum ≤ 8) : ((st.map (am_v ad)).map fun v => v.category).sum ≤ 8 := by
  rw [List.map_map]
  rw [show ((fun v : Value => v.category) ∘ am_v ad) = (fun v => v.category) from funext fun v => am_v_cat ad v]
  exact h
section AMC
variable {Tx : am_Tx} {d d' kc k : Nat} {c c' : am_C} {pc mid n idx : Nat} {ls : List (Option Value)} {st stk as : List Value} {μ : am_M} {Q Qc : am_Res → Prop}
/-- invokevirtual -/
theorem R_invV {b ci : Nat} (hc : c.2 pc = some (.invokevirtual idx, 3, mid, n)) (hs : c'.1 = am_sig mid) (hiv : am_iv c'.1 n) (hcall : am_Call Tx d' kc c' (.ref b :: as) μ Qc) (hd : d' + 1 ≤ d) (hlen : as.length = n) (hst : stk = as.reverse ++ .ref b :: st)
    (hS : μ.1[b]? = some (0, ci)) (hci : ci < 13) (hcn : (am_q ci).1 = c'.1.1.cls) (hnone : c'.1.2.2.2.2 = none) (hw : (st.map fun v => v.category).sum ≤ 8) (hn : ∀ r, Qc r → r.2.1.length = μ.1.length)
    (k1 : ∀ v μ1, Qc (.inl v, μ1) → am_R Tx d k c (pc + 3) ls (v.toList ++ st) μ1 Q) (k2 : ∀ E μ1, Qc (.inr E, μ1) → am_Rx Tx d k c pc ls E μ1 Q) : am_R Tx d (kc + k) c pc ls stk μ Q := by
  intro D b0 en p l e Rm s m args below meth cc H locs cells slots mc ms la C B Wd S L hk
  obtain ⟨⟨hx, hb, hml, hr⟩, ⟨ho, hts, hlk, hnm⟩, htab, ⟨hf, hlo⟩, hMF⟩ := id C
  have hnd := hMF.2 pc _ hc
  obtain ⟨⟨i1, i2, i3⟩, i4⟩ := hiv
  have g : ∀ w ∈ [Cond.methodLink c.1.1.cls idx c'.1.1, .instanceMethod c'.1.1, .selects c'.1.1.cls c'.1.1 c'.1.1, .initialized c'.1.1.cls, am_cw c'.1], w ∈ pw_tbl := by
    intro w hw
    rw [hs] at hw
    exact hnd w hw
  have hcwW : am_cw c'.1 ∈ am_W := hcall.1.2.1
  have ecw : am_cw c'.1 = .code c'.1.1 c'.1.2.1 c'.1.2.2.1 c'.1.2.2.2.1 := by unfold am_cw; rw [hnone]
  have CB : CallB Rm s args c.1.1.cls idx c'.1.1 c'.1.2.1 c'.1.2.2.1 c'.1.2.2.2.1 (am_cw c'.1 :: am_W) (am_rm d' kc) kc (1000 * kc) n :=
    ⟨rfl, rfl, by show 8 + d' + 1 ≤ _; omega, by show 8 + (c'.1.2.2.1 + 11) + (200 + 64 * d') ≤ _; omega, am_payW hts hcwW, by rw [ecw]; exact List.mem_cons_self, by rw [← ecw]; exact hts _ hcwW, hts _ (am_Wmem (g _ (by simp)) rfl), ⟨i1, i2⟩, am_len i3, hts _ (am_Wmem (g _ (by simp)) rfl)⟩
  have hstk : stk.map (am_v en.1) = (as.map (am_v en.1)).reverse ++ .ref (en.1 b) :: st.map (am_v en.1) := by
    rw [hst]; simp [am_v]
  refine am_after (kc := kc) C B S L (by omega) hn rfl (vx_runV (As := as.map (am_v en.1)) (b := en.1 b) (C := c'.1.1.cls) (n := n) ⟨hx, hb, hml, ho, hts⟩ (am_met hcall D b0 en l) ⟨CB, hts _ (am_Wmem (g _ (by simp)) rfl), hts _ (am_Wmem (g _ (by simp)) rfl)⟩
    ⟨am_blind, by rw [← hcn]; exact va_recv Wd.2.1 Wd.1 (am_clq hci) (am_ws_get hS), fun U hU hW => ⟨rfl, am_start B Wd S hU hW⟩⟩ rfl (by simpa using hlen) L.1 hstk (lv_room (am_stw hw)) (hMF.1 _ _ hc) ⟨by omega, by omega⟩) k1 k2
/-- invokestatic of the same class, or of the JDK's -/
theorem R_invS (hc : c.2 pc = some (.invokestatic idx, 3, mid, n)) (hs : c'.1 = am_sig mid) (hiv : am_iv c'.1 n) (hcall : am_Call Tx d' kc c' as μ Qc) (hd : d' + 1 ≤ d) (hlen : as.length = n) (hst : stk = as.reverse ++ st)
    (hnn : Nat.ble 64 n = false) (hnone : c'.1.2.2.2.2 = none) (hw : (st.map fun v => v.category).sum ≤ 8) (hn : ∀ r, Qc r → r.2.1.length = μ.1.length)
    (k1 : ∀ v μ1, Qc (.inl v, μ1) → am_R Tx d k c (pc + 3) ls (v.toList ++ st) μ1 Q) (k2 : ∀ E μ1, Qc (.inr E, μ1) → am_Rx Tx d k c pc ls E μ1 Q) : am_R Tx d (kc + k) c pc ls stk μ Q := by
  intro D b0 en p l e Rm s m args below meth cc H locs cells slots mc ms la C B Wd S L hk
  obtain ⟨⟨hx, hb, hml, hr⟩, ⟨ho, hts, hlk, hnm⟩, htab, ⟨hf, hlo⟩, hMF⟩ := id C
  have hnd := hMF.2 pc _ hc
  obtain ⟨⟨i1, i2, i3⟩, i4⟩ := hiv
  have g : ∀ w ∈ [Cond.methodLink c.1.1.cls idx c'.1.1, .static c'.1.1, .initialized c'.1.1.cls, am_cw c'.1], w ∈ pw_tbl := by
    intro w hw
    rw [hs] at hw
    refine hnd w ?_
    show w ∈ [cond (Nat.ble 64 n) (Cond.methodLinkNest c.1.1.cls idx (am_sig mid).1 "RankDesk") (.methodLink c.1.1.cls idx (am_sig mid).1), .static (am_sig mid).1, .initialized (am_sig mid).1.cls, am_cw (am_sig mid)]
    rw [hnn]
    exact hw
  have hcwW : am_cw c'.1 ∈ am_W := hcall.1.2.1
  have ecw : am_cw c'.1 = .code c'.1.1 c'.1.2.1 c'.1.2.2.1 c'.1.2.2.2.1 := by unfold am_cw; rw [hnone]
  have CB : CallB Rm s args c.1.1.cls idx c'.1.1 c'.1.2.1 c'.1.2.2.1 c'.1.2.2.2.1 (am_cw c'.1 :: am_W) (am_rm d' kc) kc (1000 * kc) n :=
    ⟨rfl, rfl, by show 8 + d' + 1 ≤ _; omega, by show 8 + (c'.1.2.2.1 + 11) + (200 + 64 * d') ≤ _; omega, am_payW hts hcwW, by rw [ecw]; exact List.mem_cons_self, by rw [← ecw]; exact hts _ hcwW, hts _ (am_Wmem (g _ (by simp)) rfl), ⟨i1, i2⟩, am_len i3, hts _ (am_Wmem (g _ (by simp)) rfl)⟩
  have hstk : stk.map (am_v en.1) = (as.map (am_v en.1)).reverse ++ st.map (am_v en.1) := by
    rw [hst]; simp
  refine am_after (kc := kc) C B S L (by omega) hn rfl (vx_runS (As := as.map (am_v en.1)) (n := n) ⟨hx, hb, hml, ho, hts⟩ (am_met hcall D b0 en l) ⟨CB, hts _ (am_Wmem (g _ (by simp)) rfl)⟩
    ⟨am_blind, fun U hU hW => ⟨rfl, am_start B Wd S hU hW⟩⟩ rfl (by simpa using hlen) L.1 hstk (lv_room (am_stw hw)) (hMF.1 _ _ hc) ⟨by omega, by omega⟩) k1 k2
/-- invokestatic of a private method of RankDesk by a nested class -/
theorem R_invN {nb : Nat} (hc : c.2 pc = some (.invokestatic idx, 3, mid, nb)) (hs : c'.1 = am_sig mid) (hiv : am_iv c'.1 n) (hcall : am_Call Tx d' kc c' as μ Qc) (hd : d' + 1 ≤ d) (hlen : as.length = n) (hst : stk = as.reverse ++ st)
    (hnn : Nat.ble 64 nb = true) (hnone : c'.1.2.2.2.2 = none) (hw : (st.map fun v => v.category).sum ≤ 8) (hn : ∀ r, Qc r → r.2.1.length = μ.1.length)
    (k1 : ∀ v μ1, Qc (.inl v, μ1) → am_R Tx d k c (pc + 3) ls (v.toList ++ st) μ1 Q) (k2 : ∀ E μ1, Qc (.inr E, μ1) → am_Rx Tx d k c pc ls E μ1 Q) : am_R Tx d (kc + k) c pc ls stk μ Q := by
  intro D b0 en p l e Rm s m args below meth cc H locs cells slots mc ms la C B Wd S L hk
  obtain ⟨⟨hx, hb, hml, hr⟩, ⟨ho, hts, hlk, hnm⟩, htab, ⟨hf, hlo⟩, hMF⟩ := id C
  have hnd := hMF.2 pc _ hc
  obtain ⟨⟨i1, i2, i3⟩, i4⟩ := hiv
  have g : ∀ w ∈ [Cond.methodLinkNest c.1.1.cls idx c'.1.1 "RankDesk", .static c'.1.1, .initialized c'.1.1.cls, am_cw c'.1], w ∈ pw_tbl := by
    intro w hw
    rw [hs] at hw
    refine hnd w ?_
    show w ∈ [cond (Nat.ble 64 nb) (Cond.methodLinkNest c.1.1.cls idx (am_sig mid).1 "RankDesk") (.methodLink c.1.1.cls idx (am_sig mid).1), .static (am_sig mid).1, .initialized (am_sig mid).1.cls, am_cw (am_sig mid)]
    rw [hnn]
    exact hw
  have hcwW : am_cw c'.1 ∈ am_W := hcall.1.2.1
  have ecw : am_cw c'.1 = .code c'.1.1 c'.1.2.1 c'.1.2.2.1 c'.1.2.2.2.1 := by unfold am_cw; rw [hnone]
  have CB : va_CN Rm s args c.1.1.cls idx c'.1.1 "RankDesk" c'.1.2.1 c'.1.2.2.1 c'.1.2.2.2.1 (am_cw c'.1 :: am_W) (am_rm d' kc) kc (1000 * kc) n :=
    ⟨⟨rfl, rfl, by show 8 + d' + 1 ≤ _; omega, by show 8 + (c'.1.2.2.1 + 11) + (200 + 64 * d') ≤ _; omega, am_payW hts hcwW, by rw [ecw]; exact List.mem_cons_self⟩, by rw [← ecw]; exact hts _ hcwW, hts _ (am_Wmem (g _ (by simp)) rfl), ⟨i1, i2⟩, am_len i3, va_Nw.use rfl (B.2.2.2.2.2.1 _ (am_Nmem (g _ (by simp)) rfl))⟩
  have hstk : stk.map (am_v en.1) = (as.map (am_v en.1)).reverse ++ st.map (am_v en.1) := by
    rw [hst]; simp
  refine am_after (kc := kc) C B S L (by omega) hn rfl (vx_runSN (As := as.map (am_v en.1)) (n := n) ⟨hx, hb, hml, ho, hts⟩ (am_met hcall D b0 en l) ⟨CB, hts _ (am_Wmem (g _ (by simp)) rfl), trivial⟩
    ⟨am_blind, fun U hU hW => ⟨rfl, am_start B Wd S hU hW⟩⟩ rfl (by simpa using hlen) L.1 hstk (lv_room (am_stw hw)) (hMF.1 _ _ hc) ⟨by omega, by omega⟩) k1 k2
/-- invokestatic of a method with handlers -/
theorem R_invH {hh : List (Nat × Nat × Nat × Nat)} (hc : c.2 pc = some (.invokestatic idx, 3, mid, n)) (hs : c'.1 = am_sig mid) (hiv : am_iv c'.1 n) (hcall : am_Call Tx d' kc c' as μ Qc) (hd : d' + 1 ≤ d) (hlen : as.length = n) (hst : stk = as.reverse ++ st)
    (hnn : Nat.ble 64 n = false) (hsome : c'.1.2.2.2.2 = some hh) (hw : (st.map fun v => v.category).sum ≤ 8) (hn : ∀ r, Qc r → r.2.1.length = μ.1.length)
    (k1 : ∀ v μ1, Qc (.inl v, μ1) → am_R Tx d k c (pc + 3) ls (v.toList ++ st) μ1 Q) (k2 : ∀ E μ1, Qc (.inr E, μ1) → am_Rx Tx d k c pc ls E μ1 Q) : am_R Tx d (kc + k) c pc ls stk μ Q := by
  intro D b0 en p l e Rm s m args below meth cc H locs cells slots mc ms la C B Wd S L hk
  obtain ⟨⟨hx, hb, hml, hr⟩, ⟨ho, hts, hlk, hnm⟩, htab, ⟨hf, hlo⟩, hMF⟩ := id C
  have hnd := hMF.2 pc _ hc
  obtain ⟨⟨i1, i2, i3⟩, i4⟩ := hiv
  have g : ∀ w ∈ [Cond.methodLink c.1.1.cls idx c'.1.1, .static c'.1.1, .initialized c'.1.1.cls, am_cw c'.1], w ∈ pw_tbl := by
    intro w hw
    rw [hs] at hw
    refine hnd w ?_
    show w ∈ [cond (Nat.ble 64 n) (Cond.methodLinkNest c.1.1.cls idx (am_sig mid).1 "RankDesk") (.methodLink c.1.1.cls idx (am_sig mid).1), .static (am_sig mid).1, .initialized (am_sig mid).1.cls, am_cw (am_sig mid)]
    rw [hnn]
    exact hw
  have hcwW : am_cw c'.1 ∈ am_W := hcall.1.2.1
  have ecw : am_cw c'.1 = .codeWith c'.1.1 c'.1.2.1 c'.1.2.2.1 c'.1.2.2.2.1 hh := by unfold am_cw; rw [hsome]
  have CB : vx_CSW Rm s args c.1.1.cls idx c'.1.1 c'.1.2.1 c'.1.2.2.1 c'.1.2.2.2.1 hh (am_cw c'.1 :: am_W) (am_rm d' kc) kc (1000 * kc) n :=
    ⟨⟨rfl, rfl, by show 8 + d' + 1 ≤ _; omega, by show 8 + (c'.1.2.2.1 + 11) + (200 + 64 * d') ≤ _; omega, am_payW hts hcwW, by rw [ecw]; exact List.mem_cons_self⟩, by rw [← ecw]; exact hts _ hcwW, hts _ (am_Wmem (g _ (by simp)) rfl), ⟨i1, i2⟩, am_len i3, hts _ (am_Wmem (g _ (by simp)) rfl), hts _ (am_Wmem (g _ (by simp)) rfl)⟩
  have hstk : stk.map (am_v en.1) = (as.map (am_v en.1)).reverse ++ st.map (am_v en.1) := by
    rw [hst]; simp
  refine am_after (kc := kc) C B S L (by omega) hn rfl (vx_runSX (As := as.map (am_v en.1)) (n := n) ⟨hx, hb, hml, ho, hts⟩ (am_met hcall D b0 en l) CB
    ⟨am_blind, fun U hU hW => ⟨rfl, am_start B Wd S hU hW⟩⟩ rfl (by simpa using hlen) L.1 hstk (lv_room (am_stw hw)) (hMF.1 _ _ hc) ⟨by omega, by omega⟩) k1 k2
end AMC
