/-! ===== contracts that leave a part of the memory alone; calls behind which the memory may have grown ===== -/
/-- a contract, told of the method alone -/
def am_Ct (Tx : am_Tx) (d k : Nat) (c : am_C) (as : List Value) (μ : am_M) (Q : am_Res → Prop) : Prop :=
  am_MF c ∧ ∀ (D : va_G) (b0 : Nat → Prop) (en : am_E) (l : Launch), vx_Met l c.1.1 (am_cw c.1 :: am_W) (am_rm d k) (va_Pc (as.map (am_v en.1)) (am_Start Tx D b0 en μ l)) (am_Qc D b0 en μ.1.length Q) (am_XC D b0 en μ.1.length Q) k (1000 * k) (am_F b0)
theorem am_Call.ct {Tx : am_Tx} {d k : Nat} {c : am_C} {as : List Value} {μ : am_M} {Q : am_Res → Prop} (h : am_Call Tx d k c as μ Q) : am_Ct Tx d k c as μ Q := ⟨h.1, fun D b0 en l => am_met h D b0 en l⟩
theorem am_Base.narrow {Tx : am_Tx} {A A2 : Nat → Prop} {ad : Nat → Nat} {l : Launch} {s : State} {H : Heap} (h : am_Base Tx A ad l s H) (hA : ∀ q, A2 q → A q) (hz : ∀ q : Nat, H.size ≤ q → A2 q) : am_Base Tx A2 ad l s H := by
  obtain ⟨h1, h2, h3, h4, h5, h6, h7, h8, h9, h10, h11, ⟨s1, s2⟩, ⟨s3, s4⟩, s5, s6⟩ := h
  exact ⟨h1, hz, vx_Zq.narrow h3 hA, vx_Zq.narrow h4 hA, h5, h6, h7, h8, fun q hm => ⟨(h9 q hm).1.narrow hA, (h9 q hm).2.1.narrow hA, (h9 q hm).2.2.1.narrow hA, (h9 q hm).2.2.2.narrow hA⟩, va_Z.narrow h10 hA, h11.imp (fun z => va_Z.narrow z hA) (fun z => va_Z.narrow z hA),
    ⟨va_Z.narrow s1 hA, s2.narrow hA⟩, ⟨va_Z.narrow s3 hA, s4.narrow hA⟩, va_Z.narrow s5 hA, s6.narrow hA⟩
/-- two memories' cells at the first n places are the same -/
def am_eqC (μ ν : am_M) (lo hi : Nat) : Prop := ∀ (en : am_E) (j kd n : Nat), lo ≤ j → j < hi → am_cell en ν j kd n = am_cell en μ j kd n
theorem am_eqC.en {μ ν : am_M} {lo hi : Nat} (h : am_eqC μ ν lo hi) {en : am_E} {j : Nat} (h1 : lo ≤ j) (h2 : j < hi) (sh : Nat × Nat) : am_en en ν j sh = am_en en μ j sh := by
  unfold am_en
  rw [h en j sh.1 sh.2 h1 h2]
/-- THE FRAME: a memory with more places behind; they come back as they were -/
theorem am_Ct.frame {Tx : am_Tx} {d k : Nat} {c : am_C} {as : List Value} {μ ν : am_M} {X : List (Nat × Nat)} {Q Q2 : am_Res → Prop} (h : am_Ct Tx d k c as μ Q) (hsh : ν.1 = μ.1 ++ X) (hc : am_eqC μ ν 0 μ.1.length) (h3 : ν.2.1 3000 = μ.2.1 3000) (h31 : ν.2.1 3001 0 = μ.2.1 3001 0)
    (hQ : ∀ r, Q r → ∃ v μ1 ν1, r = (.inl v, μ1) ∧ μ1.1 = μ.1 ∧ Q2 (.inl v, ν1) ∧ ν1.1 = ν.1 ∧ am_eqC μ1 ν1 0 μ.1.length ∧ am_eqC ν ν1 μ.1.length ν.1.length ∧ ν1.2.1 3000 = μ1.2.1 3000 ∧ ν1.2.1 3001 0 = μ1.2.1 3001 0) : am_Ct Tx d k c as ν Q2 := by
  refine ⟨h.1, fun D b0 en l => ?_⟩
  intro p e ha hcs hk s m args below hf happ hP hK
  obtain ⟨rfl, hB, hW⟩ := hP
  obtain ⟨w1, w2, w3, w4, ⟨Ln, x1, x2, x3, x4⟩, w6⟩ := id hW
  have hlen : μ.1.length ≤ ν.1.length := by rw [hsh]; simp
  have hget : ∀ (j : Nat) (sh : Nat × Nat), μ.1[j]? = some sh → ν.1[j]? = some sh := fun j sh hj => by
    rw [hsh, List.getElem?_append_left (List.getElem?_eq_some_iff.mp hj).1]; exact hj
  let A2 : Nat → Prop := fun q => b0 q ∧ ∀ j, μ.1.length ≤ j → j < ν.1.length → q ≠ en.1 j
  have hA : ∀ q, A2 q → b0 q := fun q z => z.1
  have hlt : ∀ (j : Nat) (sh : Nat × Nat), ν.1[j]? = some sh → en.1 j < s.heap.size := fun j sh hj => (w1 j _ (am_ws_get hj)).lt
  have hz : ∀ q : Nat, s.heap.size ≤ q → A2 q := fun q hq => ⟨hB.2.1 q hq, fun j h1 h2 z => by
    have := hlt j ν.1[j] (List.getElem?_eq_getElem h2)
    omega⟩
  have hW2 : am_Wt D A2 en μ s s.heap := by
    refine ⟨fun j q hj => ?_, w2, fun j sh hj => w3 j sh (hget j sh hj), ⟨fun i j p q hi hj e => ?_, fun j q hj => ?_⟩, ⟨Ln, by rw [← h3]; exact x1, by rw [← h31]; exact x2, x3, fun z => x4 z.1⟩, Nat.le_trans hlen w6⟩
    · obtain ⟨sh, hs, rfl⟩ := am_ws_inv hj
      rw [← hc.en (Nat.zero_le _) (List.getElem?_eq_some_iff.mp hs).1]
      exact w1 j _ (am_ws_get (hget j sh hs))
    · obtain ⟨s1, g1, rfl⟩ := am_ws_inv hi
      obtain ⟨s2, g2, rfl⟩ := am_ws_inv hj
      exact w4.1 i j (am_en en ν i s1) (am_en en ν j s2) (am_ws_get (hget i s1 g1)) (am_ws_get (hget j s2 g2)) e
    · obtain ⟨s1, g1, rfl⟩ := am_ws_inv hj
      have gl := (List.getElem?_eq_some_iff.mp g1).1
      refine ⟨w4.2 j (am_en en ν j s1) (am_ws_get (hget j s1 g1)), fun i i1 i2 z => ?_⟩
      have := w4.1 j i (am_en en ν j s1) (am_en en ν i ν.1[i]) (am_ws_get (hget j s1 g1)) (am_ws_get (List.getElem?_eq_getElem i2)) z
      omega
  obtain ⟨n, o, g1, g2, g3, g4⟩ := h.2 D A2 en l p e ha hcs hk s m _ below hf happ ⟨rfl, hB.narrow hA hz, hW2⟩ trivial
  refine ⟨n, o, g1, g2, g3, ?_⟩
  rcases g4 with ⟨⟨v, μ1, en1, hq, hext, hle, ho, hWt, hF⟩, L, hFE, hL⟩ | ⟨q, ho, E, ce, L, ⟨μ1, en1, hq, -⟩, -⟩
  · obtain ⟨v2, μ2, ν1, e1, e2, q2, e3, c1, c2, e4, e5⟩ := hQ _ hq
    cases e1
    rw [e2] at hext
    have := hext.same
    subst this
    obtain ⟨y1, y2, y3, y4, ⟨Lm, z1, z2, z3, z4⟩, y6⟩ := hWt
    have hal := hFE.2.1.alike
    have hsz : μ1.1.length = μ.1.length := by rw [e2]
    refine Or.inl ⟨⟨v, ν1, en1, q2, by rw [e3]; exact am_ext.rf, by rw [e3]; exact Nat.le_refl _, ho, ⟨fun j q hj => ?_, y2, fun j sh hj ty ht => ?_, ⟨fun i j p q hi hj e => ?_, fun j q hj => ?_⟩, ⟨Lm, by rw [e4]; exact z1, by rw [e5]; exact z2, z3, x4⟩, by rw [e3]; exact w6⟩, ⟨hF.1, fun q a b => hF.2 q a (fun z => b z.1)⟩⟩, L, hFE, fun q z => (hL q z).1⟩
    · obtain ⟨sh, hs, rfl⟩ := am_ws_inv hj
      rw [e3] at hs
      have hjl := (List.getElem?_eq_some_iff.mp hs).1
      by_cases hjn : j < μ.1.length
      · rw [c1.en (Nat.zero_le _) hjn]
        refine y1 j _ (am_ws_get ?_)
        rw [e2]
        rw [hsh, List.getElem?_append_left hjn] at hs
        exact hs
      · rw [c2.en (by omega) hjl]
        refine (w1 j _ (am_ws_get hs)).kept ?_
        exact hF.2 _ (hlt j sh hs) (fun z => z.2 j (by omega) hjl rfl)
    · rw [e3] at hj
      obtain ⟨a1, a2⟩ := w3 j sh hj ty ht
      exact ⟨arrOfT_moved hal a1, a2.moved hal⟩
    · obtain ⟨s1, g1, rfl⟩ := am_ws_inv hi
      obtain ⟨s2, g2, rfl⟩ := am_ws_inv hj
      rw [e3] at g1 g2
      exact w4.1 i j (am_en en1 ν i s1) (am_en en1 ν j s2) (am_ws_get g1) (am_ws_get g2) e
    · obtain ⟨s1, g1, rfl⟩ := am_ws_inv hj
      rw [e3] at g1
      exact w4.2 j (am_en en1 ν j s1) (am_ws_get g1)
  · obtain ⟨v2, μ2, ν1, e1, -⟩ := hQ _ hq
    cases e1
/-- a contract over no memory: all of the caller's comes back as it was -/
theorem am_Ct.alone {Tx : am_Tx} {d k : Nat} {c : am_C} {as : List Value} {μ ν : am_M} {Q Q2 : am_Res → Prop} (h : am_Ct Tx d k c as μ Q) (h0 : μ.1 = []) (h3 : ν.2.1 3000 = μ.2.1 3000) (h31 : ν.2.1 3001 0 = μ.2.1 3001 0)
    (hQ : ∀ r, Q r → ∃ x : Int32, r.1 = .inl (some (.int x)) ∧ Q2 (.inl (some (.int x)), ν)) : am_Ct Tx d k c as ν Q2 := by
  refine ⟨h.1, fun D b0 en l => ?_⟩
  intro p e ha hcs hk s m args below hf happ hP hK
  obtain ⟨rfl, hB, hW⟩ := hP
  obtain ⟨w1, w2, w3, w4, ⟨Ln, x1, x2, x3, x4⟩, w6⟩ := id hW
  let A2 : Nat → Prop := fun q => s.heap.size ≤ q
  have hA : ∀ q, A2 q → b0 q := fun q z => hB.2.1 q z
  have hb3 : en.1 3000 < s.heap.size := Nat.not_le.mp fun z => x4 (hB.2.1 _ z)
  have hws : am_ws en μ = [] := by unfold am_ws; rw [h0]; rfl
  have hW2 : am_Wt D A2 en μ s s.heap := by
    refine ⟨fun j q hj => ?_, w2, fun j sh hj => ?_, ⟨fun i j p q hi hj e => ?_, fun j q hj => ?_⟩, ⟨Ln, by rw [← h3]; exact x1, by rw [← h31]; exact x2, x3, Nat.not_le.mpr hb3⟩, by rw [h0]; exact Nat.zero_le _⟩
    · rw [hws] at hj; simp at hj
    · rw [h0] at hj; simp at hj
    · rw [hws] at hi; simp at hi
    · rw [hws] at hj; simp at hj
  obtain ⟨n, o, g1, g2, g3, g4⟩ := h.2 D A2 en l p e ha hcs hk s m _ below hf happ ⟨rfl, hB.narrow hA (fun q z => z), hW2⟩ trivial
  refine ⟨n, o, g1, g2, g3, ?_⟩
  have key : ∀ t : State, va_F (am_F A2) s t → ∀ q : Nat, q < s.heap.size → t.heap[q]? = s.heap[q]? := fun t hF q hq => hF.2 q hq (Nat.not_le.mpr hq)
  rcases g4 with ⟨⟨v, μ1, en1, hq, hext, hle, ho, hWt, hF⟩, L, hFE, hL⟩ | ⟨q, ho, E, ce, L, ⟨μ1, en1, hq, -⟩, -⟩
  · obtain ⟨x, e1, q2⟩ := hQ _ hq
    cases e1
    have hal := hFE.2.1.alike
    refine Or.inl ⟨⟨some (.int x), ν, en, q2, am_ext.rf, Nat.le_refl _, ho, ⟨fun j q hj => ?_, hWt.2.1, am_KA.moved hal w3, w4, ⟨Ln, (x1.moved hal).kept (key _ hF _ hb3), x2, x3, x4⟩, w6⟩, ⟨hF.1, fun q a b => key _ hF q a⟩⟩, L, hFE, fun q z => hA _ (hL q z)⟩
    exact (w1 j q hj).kept (key _ hF _ (w1 j q hj).lt)
  · obtain ⟨x, e1, -⟩ := hQ _ hq
    cases e1
/-- behind a call: the memory may have grown; no throw -/
theorem am_afterG {Tx : am_Tx} {d kc k : Nat} {c : am_C} {pc : Nat} {ls : List (Option Value)} {st : List Value} {μ : am_M} {Q Qc : am_Res → Prop} {D : va_G} {b0 : Nat → Prop} {en : am_E} {p : Program} {l : Launch} {e : Env} {Rm : Room} {s : State} {m : MethodId} {args a : Array Value} {below : List Frame} {meth : Method} {cc : Code} {H : Heap} {locs : List Loc} {cells slots mc ms : Nat} {la : Array Slot} {st0 rest : List Value}
    (C : am_Ctx d c p Rm s m args meth cc) (B : am_Base Tx b0 en.1 l s s.heap) (S : va_S (am_F b0) s.heap H locs) (L : lv_has la c.1.2.2.1 (am_prs en.1 0 ls)) (hk : cells + (kc + k) ≤ mc ∧ slots + 1000 * (kc + k) ≤ ms ∧ mc ≤ Rm.cells ∧ ms ≤ Rm.slots)
    (hn : ∀ r, Qc r → ∃ v μ1, r = (.inl v, μ1)) (hst : ∀ v ∈ st, am_okv μ.1.length v) (hls : ∀ v, some v ∈ ls → am_okv μ.1.length v) (hrest : rest = st.map (am_v en.1))
    (hr : vx_Run p l e Rm s m args below meth cc H locs cells slots kc (1000 * kc) (F0 m pc la st0) rest (am_Qc D b0 en μ.1.length Qc a) (am_XC D b0 en μ.1.length Qc) (am_F b0))
    (k1 : ∀ v μ1, Qc (.inl v, μ1) → am_R Tx d k c (pc + 3) ls (v.toList ++ st) μ1 Q) :
    W p l e Rm s m args below meth cc H locs cells slots (vx_MQ below (am_Qc D b0 en μ.1.length Q) (am_XC D b0 en μ.1.length Q) args s mc ms (am_F b0)) (F0 m pc la st0) := by
  intro T hT X
  subst hrest
  rcases hr T hT X with ⟨v, st₀, t, T', Lo, h0, X', hL, e1, e2, ⟨v', μ', en', hq, hext, hlen', hv, hWt, hF⟩, stp⟩ | ⟨q, st₀, t, T', Lo, E, ce, h0, X', hL, e1, e2, ⟨μ', en', hq, hext, hlen', hWt, hF⟩, hce, hcv, hcl, stp⟩
  · have h1000 : μ'.1.length ≤ 1000 := hWt.2.2.2.2.2
    obtain ⟨q1, q2, q3⟩ := vx_keep h0 e1 S (fun q _ h => h) (fun q h => h) hL hF
    have hal : t.vm.Alike s.vm := by rw [← e2]; exact X'.warmed.alike.symm
    have hw : am_Wt D b0 en' μ' s T'.heap := by rw [e1]; exact am_Wt.moved hal hWt
    have hvv : v = v'.map (am_v en'.1) := by cases hv; rfl
    subst hvv
    obtain ⟨t2, a1, b1⟩ := k1 v' μ' hq D b0 en' p l e Rm s m args below meth cc T'.heap (locs ++ Lo) (cells + kc) (slots + 1000 * kc) mc ms la C (B.congr fun k hk => hext.1 k (by omega)) hw q3 (by rw [am_prs_ext hext h1000 ls 0 hls]; exact L) ⟨by omega, by omega, hk.2.2⟩ T' rfl X'
    refine ⟨t2, stp t2 ?_, am_ext_MQ hext hlen' t2 b1⟩
    have e9 : (v'.toList ++ st).map (am_v en'.1) = (v'.map (am_v en'.1)).toList ++ st.map (am_v en'.1) := by cases v' <;> simp
    rw [e9, am_map_ext hext h1000 hst] at a1
    exact a1
  · obtain ⟨v9, μ9, e9⟩ := hn _ hq
    cases e9
/-- what a virtual call's words are: own class, entry, the receiver's class -/
def am_jw (own : String) (idx : Nat) (C : String) (cs : am_S) : Prop := Cond.methodLink own idx cs.1 ∈ am_W ∧ Cond.instanceMethod cs.1 ∈ am_W ∧ Cond.selects C cs.1 cs.1 ∈ am_W ∧ Cond.initialized cs.1.cls ∈ am_W
section AMV
variable {Tx : am_Tx} {d d' kc k : Nat} {c c' : am_C} {pc mid n idx : Nat} {ls : List (Option Value)} {st stk as : List Value} {μ : am_M} {Q Qc : am_Res → Prop}
/-- the words of a call that stands in the table, on a receiver of the method's own class -/
theorem am_jw.of (hF : am_MF0 c) (hc : c.2 pc = some (.invokevirtual idx, 3, mid, n)) (hs : c'.1 = am_sig mid) : am_jw c.1.1.cls idx c'.1.1.cls c'.1 := by
  have g : ∀ w ∈ [Cond.methodLink c.1.1.cls idx c'.1.1, .instanceMethod c'.1.1, .selects c'.1.1.cls c'.1.1 c'.1.1, .initialized c'.1.1.cls, am_cw c'.1], w ∈ pw_tbl := by
    intro w hw
    rw [hs] at hw
    exact hF.2 pc _ hc w hw
  exact ⟨am_Wmem (g _ (by simp)) rfl, am_Wmem (g _ (by simp)) rfl, am_Wmem (g _ (by simp)) rfl, am_Wmem (g _ (by simp)) rfl⟩
/-- invokevirtual on an object of the memory -/
theorem R_hV {b ci : Nat} (hdg : decode c.1.2.1 pc = .ok (.invokevirtual idx, 3)) (hj : am_jw c.1.1.cls idx (am_q ci).1 c'.1) (hiv : am_iv c'.1 n) (hcall : am_Ct Tx d' kc c' (.ref b :: as) μ Qc) (hd : d' + 1 ≤ d) (hlen : as.length = n) (hst : stk = as.reverse ++ .ref b :: st)
    (hS : μ.1[b]? = some (0, ci)) (hci : ci < 13) (hnone : c'.1.2.2.2.2 = none) (hw : (st.map fun v => v.category).sum ≤ 8) (hn : ∀ r, Qc r → ∃ v μ1, r = (.inl v, μ1)) (hsv : ∀ v ∈ st, am_okv μ.1.length v) (hlv : ∀ v, some v ∈ ls → am_okv μ.1.length v)
    (k1 : ∀ v μ1, Qc (.inl v, μ1) → am_R Tx d k c (pc + 3) ls (v.toList ++ st) μ1 Q) : am_R Tx d (kc + k) c pc ls stk μ Q := by
  intro D b0 en p l e Rm s m args below meth cc H locs cells slots mc ms la C B Wd S L hk
  obtain ⟨⟨hx, hb, hml, hr⟩, ⟨ho, hts, hlk, hnm⟩, htab, ⟨hf, hlo⟩, hMF⟩ := id C
  obtain ⟨⟨i1, i2, i3⟩, i4⟩ := hiv
  obtain ⟨j1, j2, j3, j4⟩ := hj
  have hcwW : am_cw c'.1 ∈ am_W := hcall.1.2.1
  have ecw : am_cw c'.1 = .code c'.1.1 c'.1.2.1 c'.1.2.2.1 c'.1.2.2.2.1 := by unfold am_cw; rw [hnone]
  have CB : CallB Rm s args c.1.1.cls idx c'.1.1 c'.1.2.1 c'.1.2.2.1 c'.1.2.2.2.1 (am_cw c'.1 :: am_W) (am_rm d' kc) kc (1000 * kc) n :=
    ⟨rfl, rfl, by show 8 + d' + 1 ≤ _; omega, by show 8 + (c'.1.2.2.1 + 11) + (200 + 64 * d') ≤ _; omega, am_payW hts hcwW, by rw [ecw]; exact List.mem_cons_self, by rw [← ecw]; exact hts _ hcwW, hts _ j4, ⟨i1, i2⟩, am_len i3, hts _ j1⟩
  have hstk : stk.map (am_v en.1) = (as.map (am_v en.1)).reverse ++ .ref (en.1 b) :: st.map (am_v en.1) := by
    rw [hst]; simp [am_v]
  exact am_afterG (kc := kc) C B S L (by omega) hn hsv hlv rfl (vx_runV (As := as.map (am_v en.1)) (b := en.1 b) (C := (am_q ci).1) (n := n) ⟨hx, hb, hml, ho, hts⟩ (hcall.2 D b0 en l) ⟨CB, hts _ j2, hts _ j3⟩
    ⟨am_blind, va_recv Wd.2.1 Wd.1 (am_clq hci) (am_ws_get hS), fun U hU hW => ⟨rfl, am_start B Wd S hU hW⟩⟩ rfl (by simpa using hlen) L.1 hstk (lv_room (am_stw hw)) hdg ⟨by omega, by omega⟩) k1
/-- invokevirtual on a text of the constants -/
theorem R_hT {i : Nat} {bs : List Int32} (hdg : decode c.1.2.1 pc = .ok (.invokevirtual idx, 3)) (hj : am_jw c.1.1.cls idx "java/lang/String" c'.1) (hiv : am_iv c'.1 n) (hcall : am_Ct am_TX d' kc c' (.ref (1000 + i) :: as) μ Qc) (hd : d' + 1 ≤ d) (hlen : as.length = n) (hst : stk = as.reverse ++ .ref (1000 + i) :: st)
    (hi : (i, bs) ∈ am_SL) (hnone : c'.1.2.2.2.2 = none) (hw : (st.map fun v => v.category).sum ≤ 8) (hn : ∀ r, Qc r → ∃ v μ1, r = (.inl v, μ1)) (hsv : ∀ v ∈ st, am_okv μ.1.length v) (hlv : ∀ v, some v ∈ ls → am_okv μ.1.length v)
    (k1 : ∀ v μ1, Qc (.inl v, μ1) → am_R am_TX d k c (pc + 3) ls (v.toList ++ st) μ1 Q) : am_R am_TX d (kc + k) c pc ls stk μ Q := by
  intro D b0 en p l e Rm s m args below meth cc H locs cells slots mc ms la C B Wd S L hk
  obtain ⟨⟨hx, hb, hml, hr⟩, ⟨ho, hts, hlk, hnm⟩, htab, ⟨hf, hlo⟩, hMF⟩ := id C
  obtain ⟨⟨i1, i2, i3⟩, i4⟩ := hiv
  obtain ⟨j1, j2, j3, j4⟩ := hj
  have hcwW : am_cw c'.1 ∈ am_W := hcall.1.2.1
  have ecw : am_cw c'.1 = .code c'.1.1 c'.1.2.1 c'.1.2.2.1 c'.1.2.2.2.1 := by unfold am_cw; rw [hnone]
  have CB : CallB Rm s args c.1.1.cls idx c'.1.1 c'.1.2.1 c'.1.2.2.1 c'.1.2.2.2.1 (am_cw c'.1 :: am_W) (am_rm d' kc) kc (1000 * kc) n :=
    ⟨rfl, rfl, by show 8 + d' + 1 ≤ _; omega, by show 8 + (c'.1.2.2.1 + 11) + (200 + 64 * d') ≤ _; omega, am_payW hts hcwW, by rw [ecw]; exact List.mem_cons_self, by rw [← ecw]; exact hts _ hcwW, hts _ j4, ⟨i1, i2⟩, am_len i3, hts _ j1⟩
  have hstk : stk.map (am_v en.1) = (as.map (am_v en.1)).reverse ++ .ref (en.1 (1000 + i)) :: st.map (am_v en.1) := by
    rw [hst]; simp [am_v]
  exact am_afterG (kc := kc) C B S L (by omega) hn hsv hlv rfl (vx_runV (As := as.map (am_v en.1)) (b := en.1 (1000 + i)) (C := "java/lang/String") (n := n) ⟨hx, hb, hml, ho, hts⟩ (hcall.2 D b0 en l) ⟨CB, hts _ j2, hts _ j3⟩
    ⟨am_blind, va_Orecv (B.2.2.2.2.2.2.2.2.1 _ hi).1 S, fun U hU hW => ⟨rfl, am_start B Wd S hU hW⟩⟩ rfl (by simpa using hlen) L.1 hstk (lv_room (am_stw hw)) hdg ⟨by omega, by omega⟩) k1
/-- invokevirtual of a method x that another, y, overrides -/
theorem R_hU {b ci : Nat} {y : MethodName} {own2 : String} (hdg : decode c.1.2.1 pc = .ok (.invokevirtual idx, 3)) (hj : Cond.methodLink c.1.1.cls idx y ∈ am_W ∧ Cond.sameMethod y.cls own2 y.name y.desc ∈ am_W ∧ Cond.selects (am_q ci).1 y c'.1.1 ∈ am_W ∧ Cond.instanceMethod c'.1.1 ∈ am_W ∧ Cond.initialized c'.1.1.cls ∈ am_W)
    (hy : Cond.instanceMethod ⟨own2, y.name, y.desc⟩ ∈ am_W ∧ ∃ by0 ml0 rt0, Cond.code ⟨own2, y.name, y.desc⟩ by0 ml0 rt0 ∈ am_W) (hmh : own2 ≠ "java/lang/invoke/MethodHandle" ∧ own2 ≠ "java/lang/invoke/VarHandle" ∧ (parseMethodDescriptor y.desc).map (fun d => d.parameters.length) = some n) (hml4 : c'.1.2.2.1 ≤ 40)
    (hcall : am_Ct Tx d' kc c' (.ref b :: as) μ Qc) (hd : d' + 1 ≤ d) (hlen : as.length = n) (hst : stk = as.reverse ++ .ref b :: st)
    (hS : μ.1[b]? = some (0, ci)) (hci : ci < 13) (hnone : c'.1.2.2.2.2 = none) (hw : (st.map fun v => v.category).sum ≤ 8) (hn : ∀ r, Qc r → ∃ v μ1, r = (.inl v, μ1)) (hsv : ∀ v ∈ st, am_okv μ.1.length v) (hlv : ∀ v, some v ∈ ls → am_okv μ.1.length v)
    (k1 : ∀ v μ1, Qc (.inl v, μ1) → am_R Tx d k c (pc + 3) ls (v.toList ++ st) μ1 Q) : am_R Tx d (kc + k) c pc ls stk μ Q := by
  intro D b0 en p l e Rm s m args below meth cc H locs cells slots mc ms la C B Wd S L hk
  obtain ⟨⟨hx, hb, hml, hr⟩, ⟨ho, hts, hlk, hnm⟩, htab, ⟨hf, hlo⟩, hMF⟩ := id C
  obtain ⟨j1, j2, j3, j4, j5⟩ := hj
  obtain ⟨y1, by0, ml0, rt0, y2⟩ := hy
  have hcwW : am_cw c'.1 ∈ am_W := hcall.1.2.1
  have ecw : am_cw c'.1 = .code c'.1.1 c'.1.2.1 c'.1.2.2.1 c'.1.2.2.2.1 := by unfold am_cw; rw [hnone]
  have CU : va_CU Rm s args c.1.1.cls (am_q ci).1 own2 idx y c'.1.1 c'.1.2.1 c'.1.2.2.1 c'.1.2.2.2.1 (am_cw c'.1 :: am_W) (am_rm d' kc) kc (1000 * kc) n :=
    ⟨⟨rfl, rfl, by show 8 + d' + 1 ≤ _; omega, by show 8 + (c'.1.2.2.1 + 11) + (200 + 64 * d') ≤ _; omega, am_payW hts hcwW, by rw [ecw]; exact List.mem_cons_self⟩, by rw [← ecw]; exact hts _ hcwW, hts _ j5, ⟨hmh.1, hmh.2.1⟩, am_len hmh.2.2, hts _ j1, hts _ j2, va_Decl.of (hts _ y1) (hts _ y2), hts _ j3, hts _ j4⟩
  have hstk : stk.map (am_v en.1) = (as.map (am_v en.1)).reverse ++ .ref (en.1 b) :: st.map (am_v en.1) := by
    rw [hst]; simp [am_v]
  exact am_afterG (kc := kc) C B S L (by omega) hn hsv hlv rfl (vx_runU (As := as.map (am_v en.1)) (b := en.1 b) (C := (am_q ci).1) (n := n) ⟨hx, hb, hml, ho, hts⟩ (hcall.2 D b0 en l) CU
    ⟨am_blind, va_recv Wd.2.1 Wd.1 (am_clq hci) (am_ws_get hS), fun U hU hW => ⟨rfl, am_start B Wd S hU hW⟩⟩ rfl (by simpa using hlen) L.1 hstk (lv_room (am_stw hw)) hdg ⟨by omega, by omega⟩) k1
/-- super.m(..) -/
theorem R_hP {b ci : Nat} (hdg : decode c.1.2.1 pc = .ok (.invokespecial idx, 3)) (hj : Cond.methodLink c.1.1.cls idx c'.1.1 ∈ am_W ∧ Cond.sameMethod c'.1.1.cls c'.1.1.cls c'.1.1.name c'.1.1.desc ∈ am_W ∧ Cond.superclass c.1.1.cls c'.1.1.cls ∈ am_W ∧ Cond.instanceMethod c'.1.1 ∈ am_W ∧ Cond.initialized c'.1.1.cls ∈ am_W)
    (hno : c'.1.1.name ≠ "<init>") (hiv : am_iv c'.1 n) (hcall : am_Ct Tx d' kc c' (.ref b :: as) μ Qc) (hd : d' + 1 ≤ d) (hlen : as.length = n) (hst : stk = as.reverse ++ .ref b :: st)
    (hS : μ.1[b]? = some (0, ci)) (hci : ci < 13) (hnone : c'.1.2.2.2.2 = none) (hw : (st.map fun v => v.category).sum ≤ 8) (hn : ∀ r, Qc r → ∃ v μ1, r = (.inl v, μ1)) (hsv : ∀ v ∈ st, am_okv μ.1.length v) (hlv : ∀ v, some v ∈ ls → am_okv μ.1.length v)
    (k1 : ∀ v μ1, Qc (.inl v, μ1) → am_R Tx d k c (pc + 3) ls (v.toList ++ st) μ1 Q) : am_R Tx d (kc + k) c pc ls stk μ Q := by
  intro D b0 en p l e Rm s m args below meth cc H locs cells slots mc ms la C B Wd S L hk
  obtain ⟨⟨hx, hb, hml, hr⟩, ⟨ho, hts, hlk, hnm⟩, htab, ⟨hf, hlo⟩, hMF⟩ := id C
  obtain ⟨⟨i1, i2, i3⟩, i4⟩ := hiv
  obtain ⟨j1, j2, j3, j4, j5⟩ := hj
  have hcwW : am_cw c'.1 ∈ am_W := hcall.1.2.1
  have ecw : am_cw c'.1 = .code c'.1.1 c'.1.2.1 c'.1.2.2.1 c'.1.2.2.2.1 := by unfold am_cw; rw [hnone]
  have CS : va_CS Rm s args c.1.1.cls idx c'.1.1 c'.1.2.1 c'.1.2.2.1 c'.1.2.2.2.1 (am_cw c'.1 :: am_W) (am_rm d' kc) kc (1000 * kc) n :=
    ⟨⟨rfl, rfl, by show 8 + d' + 1 ≤ _; omega, by show 8 + (c'.1.2.2.1 + 11) + (200 + 64 * d') ≤ _; omega, am_payW hts hcwW, by rw [ecw]; exact List.mem_cons_self⟩, hts _ j1, hts _ j2, hts _ j3, hts _ j4, hts _ j5, by rw [← ecw]; exact hts _ hcwW, hno, am_len i3⟩
  have hstk : stk.map (am_v en.1) = (as.map (am_v en.1)).reverse ++ .ref (en.1 b) :: st.map (am_v en.1) := by
    rw [hst]; simp [am_v]
  exact am_afterG (kc := kc) C B S L (by omega) hn hsv hlv rfl (vx_runSU (As := as.map (am_v en.1)) (b := en.1 b) (C := (am_q ci).1) (n := n) (Wd.2.1.1 ci _ (am_clq hci)).2 ⟨hx, hb, hml, ho, hts⟩ (hcall.2 D b0 en l) CS
    ⟨am_blind, va_recv Wd.2.1 Wd.1 (am_clq hci) (am_ws_get hS), fun U hU hW => ⟨rfl, am_start B Wd S hU hW⟩⟩ rfl (by simpa using hlen) L.1 hstk (lv_room (am_stw hw)) hdg ⟨by omega, by omega⟩) k1
/-- invokestatic -/
theorem R_hS (hc : c.2 pc = some (.invokestatic idx, 3, mid, n)) (hs : c'.1 = am_sig mid) (hiv : am_iv c'.1 n) (hcall : am_Ct Tx d' kc c' as μ Qc) (hd : d' + 1 ≤ d) (hlen : as.length = n) (hst : stk = as.reverse ++ st)
    (hnn : Nat.ble 64 n = false) (hnone : c'.1.2.2.2.2 = none) (hw : (st.map fun v => v.category).sum ≤ 8) (hn : ∀ r, Qc r → ∃ v μ1, r = (.inl v, μ1)) (hsv : ∀ v ∈ st, am_okv μ.1.length v) (hlv : ∀ v, some v ∈ ls → am_okv μ.1.length v)
    (k1 : ∀ v μ1, Qc (.inl v, μ1) → am_R Tx d k c (pc + 3) ls (v.toList ++ st) μ1 Q) : am_R Tx d (kc + k) c pc ls stk μ Q := by
  intro D b0 en p l e Rm s m args below meth cc H locs cells slots mc ms la C B Wd S L hk
  obtain ⟨⟨hx, hb, hml, hr⟩, ⟨ho, hts, hlk, hnm⟩, htab, ⟨hf, hlo⟩, hMF⟩ := id C
  have hnd := hMF.2 pc _ hc
  obtain ⟨⟨i1, i2, i3⟩, i4⟩ := hiv
  have g : ∀ w ∈ [Cond.methodLink c.1.1.cls idx c'.1.1, .static c'.1.1, .initialized c'.1.1.cls, am_cw c'.1], w ∈ pw_tbl := by
    intro w hw
    rw [hs] at hw
    refine hnd w ?_
    show w ∈ [cond (Nat.ble 64 n) (Cond.methodLinkNest c.1.1.cls idx (am_sig mid).1 "RankDesk") (.methodLink c.1.1.cls idx (am_sig mid).1), .static (am_sig mid).1, .initialized (am_sig mid).1.cls, am_cw (am_sig mid)]
    rw [hnn]
    exact hw
  have hcwW : am_cw c'.1 ∈ am_W := hcall.1.2.1
  have ecw : am_cw c'.1 = .code c'.1.1 c'.1.2.1 c'.1.2.2.1 c'.1.2.2.2.1 := by unfold am_cw; rw [hnone]
  have CB : CallB Rm s args c.1.1.cls idx c'.1.1 c'.1.2.1 c'.1.2.2.1 c'.1.2.2.2.1 (am_cw c'.1 :: am_W) (am_rm d' kc) kc (1000 * kc) n :=
    ⟨rfl, rfl, by show 8 + d' + 1 ≤ _; omega, by show 8 + (c'.1.2.2.1 + 11) + (200 + 64 * d') ≤ _; omega, am_payW hts hcwW, by rw [ecw]; exact List.mem_cons_self, by rw [← ecw]; exact hts _ hcwW, hts _ (am_Wmem (g (Cond.initialized c'.1.1.cls) (by simp)) rfl), ⟨i1, i2⟩, am_len i3, hts _ (am_Wmem (g (Cond.methodLink c.1.1.cls idx c'.1.1) (by simp)) rfl)⟩
  have hstk : stk.map (am_v en.1) = (as.map (am_v en.1)).reverse ++ st.map (am_v en.1) := by
    rw [hst]; simp
  exact am_afterG (kc := kc) C B S L (by omega) hn hsv hlv rfl (vx_runS (As := as.map (am_v en.1)) (n := n) ⟨hx, hb, hml, ho, hts⟩ (hcall.2 D b0 en l) ⟨CB, hts _ (am_Wmem (g (Cond.static c'.1.1) (by simp)) rfl)⟩
    ⟨am_blind, fun U hU hW => ⟨rfl, am_start B Wd S hU hW⟩⟩ rfl (by simpa using hlen) L.1 hstk (lv_room (am_stw hw)) (hMF.1 _ _ hc) ⟨by omega, by omega⟩) k1
/-- a constructor -/
theorem R_hI {q : Nat} (hc : c.2 pc = some (.invokespecial idx, 3, mid, n)) (hs : c'.1 = am_sig mid) (hiv : am_iv c'.1 n) (hcall : am_Ct Tx d' kc c' (.ref q :: as) μ Qc) (hd : d' + 1 ≤ d) (hlen : as.length = n) (hstk : stk = as.reverse ++ .ref q :: st) (hnn : Nat.beq n 64 = false) (hin : c'.1.1.name = "<init>") (hret : c'.1.2.2.2.1 = none) (hnone : c'.1.2.2.2.2 = none) (hw : (st.map fun v => v.category).sum ≤ 8)
    (hn : ∀ r, Qc r → ∃ v μ1, r = (.inl v, μ1)) (hsv : ∀ v ∈ st, am_okv μ.1.length v) (hlv : ∀ v, some v ∈ ls → am_okv μ.1.length v)
    (k1 : ∀ v μ1, Qc (.inl v, μ1) → am_R Tx d k c (pc + 3) ls (v.toList ++ st) μ1 Q) : am_R Tx d (kc + k) c pc ls stk μ Q := by
  intro D b0 en p l e Rm s m args below meth cc H locs cells slots mc ms la C B Wd S L hk
  obtain ⟨⟨hx, hb, hml, hr0⟩, ⟨ho, hts, hlk, hnm⟩, htab, ⟨hf, hlo⟩, hMF⟩ := id C
  have hnd := hMF.2 pc _ hc
  obtain ⟨⟨i1, i2, i3⟩, i4⟩ := hiv
  have g : ∀ w ∈ [Cond.methodLink c.1.1.cls idx c'.1.1, .instanceMethod c'.1.1, .initialized c'.1.1.cls, am_cw c'.1], w ∈ pw_tbl := by
    intro w hw
    rw [hs] at hw
    refine hnd w ?_
    show w ∈ cond (Nat.beq n 64) [Cond.methodLink c.1.1.cls idx (am_sig mid).1, .instanceMethod (am_sig mid).1, am_cw (am_sig mid)] [Cond.methodLink c.1.1.cls idx (am_sig mid).1, .instanceMethod (am_sig mid).1, .initialized (am_sig mid).1.cls, am_cw (am_sig mid)]
    rw [hnn]
    exact hw
  have hcwW : am_cw c'.1 ∈ am_W := hcall.1.2.1
  have ecw : am_cw c'.1 = .code c'.1.1 c'.1.2.1 c'.1.2.2.1 none := by unfold am_cw; rw [hnone, hret]
  have CB : CallB Rm s args c.1.1.cls idx c'.1.1 c'.1.2.1 c'.1.2.2.1 none (am_cw c'.1 :: am_W) (am_rm d' kc) kc (1000 * kc) n :=
    ⟨rfl, rfl, by show 8 + d' + 1 ≤ _; omega, by show 8 + (c'.1.2.2.1 + 11) + (200 + 64 * d') ≤ _; omega, am_payW hts hcwW, by rw [ecw]; exact List.mem_cons_self, by rw [← ecw]; exact hts _ hcwW, hts _ (am_Wmem (g (Cond.initialized c'.1.1.cls) (by simp)) rfl), ⟨i1, i2⟩, am_len i3, hts _ (am_Wmem (g (Cond.methodLink c.1.1.cls idx c'.1.1) (by simp)) rfl)⟩
  have hstk2 : stk.map (am_v en.1) = (as.map (am_v en.1)).reverse ++ .ref (en.1 q) :: st.map (am_v en.1) := by
    rw [hstk]; simp [am_v]
  exact am_afterG (kc := kc) C B S L (by omega) hn hsv hlv rfl (vx_runI (e := e) (locs := locs) (cells := cells) (slots := slots) (below := below) (meth := meth) (As := as.map (am_v en.1)) (b := en.1 q) (n := n) (g := F0 m pc la (stk.map (am_v en.1))) ⟨hx, hb, hml, ho, hts⟩ (hcall.2 D b0 en l) ⟨CB, hin, hts _ (am_Wmem (g (Cond.instanceMethod c'.1.1) (by simp)) rfl)⟩
    ⟨am_blind, fun U hU hW => ⟨rfl, am_start B Wd S hU hW⟩⟩ rfl (by simpa using hlen) L.1 hstk2 (lv_room (am_stw hw)) (hMF.1 _ _ hc) ⟨by omega, by omega⟩) k1
end AMV
