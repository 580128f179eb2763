/-! ===== constructors: Object's own, new arrays, a growing memory ===== -/
section AMG
variable {Tx : am_Tx} {d d' kc k : Nat} {c c' : am_C} {pc mid n idx a b : Nat} {ls : List (Option Value)} {st stk as : List Value} {μ : am_M} {Q Qc : am_Res → Prop}
theorem R_objI {q : Nat} (hc : c.2 pc = some (.invokespecial idx, 3, mid, 64)) (hs : am_sig mid = sg_1) (hw : (st.map fun v => v.category).sum ≤ 8) (h : am_R Tx d k c (pc + 3) ls st μ Q) : am_R Tx d k c pc ls (.ref q :: st) μ Q := by
  intro D b0 en p l e Rm s m args below meth cc H locs cells slots mc ms la C B Wd S L hk
  obtain ⟨⟨hx, hb, hml, hr⟩, ⟨ho, hts, hlk, hnm⟩, htab, ⟨hf, hlo⟩, hMF⟩ := id C
  have hnd := hMF.2 pc _ hc
  have g : ∀ w ∈ [Cond.methodLink c.1.1.cls idx sg_1.1, .instanceMethod sg_1.1, am_cw sg_1], w ∈ pw_tbl := by
    intro w hw
    refine hnd w ?_
    show w ∈ [Cond.methodLink c.1.1.cls idx (am_sig mid).1, .instanceMethod (am_sig mid).1, am_cw (am_sig mid)]
    rw [hs]
    exact hw
  have hroom : 2 * (F0 m pc la ((Value.ref q :: st).map (am_v en.1))).monitorRoom + ((st.map (am_v en.1)).map fun v => v.category).sum ≤ 8 := lv_room (am_stw hw)
  refine W.objInit hx hb ho (hts _ (am_Wmem (g (Cond.methodLink c.1.1.cls idx sg_1.1) (by simp)) rfl)) (hts _ (am_Wmem (g (Cond.instanceMethod sg_1.1) (by simp)) rfl)) (hts _ (am_Wmem (g (am_cw sg_1) (by simp)) rfl)) rfl (by rw [hml]; exact L.1) rfl (hMF.1 _ _ hc) (by omega) (by omega) (h D b0 en p l e Rm s m args below meth cc H locs cells slots mc ms la C B Wd S L hk)
/-- newarray: int, byte, boolean -/
theorem R_newI {t : ArrayType} {ty : FieldType} {kd N : Nat} {x : Int32} (hc : c.2 pc = some (.newarray t, 2, a, b)) (hty : newarray.typeOf t = ty) (hkd : am_aty kd = some ty) (hcell : ∀ en ν j, am_cell en ν j kd N = .inl (en.2 j, N, .inl (ν.2.1 j))) (hvp : ∀ cA : ClassId, vp_cell cA (N, .inl (fun _ => 0)) = arrV cA N (fun _ => defaultValue ty)) (hg : goodWord (.arrayClass ty) = true)
    (hx0 : ¬ x < 0) (hN : x.toNatClampNeg = N) (hb : N * componentBytes ty ≤ 536870912) (hN2 : N ≤ 1000) (hst : ∀ v ∈ st, am_okv μ.1.length v) (hls : ∀ v, some v ∈ ls → am_okv μ.1.length v) (hP0 : am_okP μ) (hn : μ.1.length < 1000)
    (h : am_R Tx d k c (pc + 2) ls (.ref μ.1.length :: st) (am_new μ (kd, N)) Q) : am_R Tx d (1 + k) c pc ls (.int x :: st) μ Q := by
  intro D b0 en p l e Rm s m args below meth cc H locs cells slots mc ms la C B Wd S L hk
  obtain ⟨⟨hx, hbc, hml, hr⟩, ⟨ho, hts, hlk, hnm⟩, htab, ⟨hf, hlo⟩, hMF⟩ := id C
  have hnd := hMF.2 pc _ hc
  have g1 := hts _ (am_Wmem (hnd (.arrayClass (newarray.typeOf t)) (by simp [am_need])) (by rw [hty]; exact hg))
  refine va_newa (a0 := (N, .inl (fun _ => 0))) (N' := N) hx hbc g1 hty Wd.2.1 Wd.1 Wd.2.2.2.1 S B.2.1 hvp hx0 hN hb (by omega) (by omega) (hMF.1 _ _ hc) (fun q cA H1 K1 P1 D1 S1 => ?_)
  have ecell : am_cell (am_enN μ.1.length q cA en) (am_new μ (kd, N)) μ.1.length kd N = .inl (cA, N, .inl (fun _ => 0)) := by
    rw [hcell]
    have e1 : (am_enN μ.1.length q cA en).2 μ.1.length = cA := if_pos rfl
    have e2 : (am_new μ (kd, N)).2.1 μ.1.length = fun _ => 0 := by funext b; exact if_pos rfl
    rw [e1, e2]
  rw [← ecell] at P1 D1
  have W1 := am_Wt.new (sh := (kd, N)) Wd B S S1 hP0 hn P1 D1 (fun ty2 ht => by
    rw [hkd] at ht
    cases ht
    exact K1.2 0 (cA, ty) rfl)
  have hext := am_enN_ext μ.1.length q cA en
  have hl1 : (am_new μ (kd, N)).1.length = μ.1.length + 1 := by show (μ.1 ++ _).length = _; simp
  have K := h D b0 (am_enN μ.1.length q cA en) p l e Rm s m args below meth cc H1 locs (cells + 1) (slots + N) mc ms la C (B.congr fun k hk => hext.1 k (by omega)) W1 S1 (by rw [am_prs_ext hext (by omega) ls 0 hls]; exact L) ⟨by omega, by omega, hk.2.2⟩
  rw [hl1] at K
  have K2 := am_mono (am_ext_MQ hext (Nat.le_succ _)) K
  rw [List.map_cons, am_map_ext hext (by omega) hst] at K2
  rw [show am_v (am_enN μ.1.length q cA en).1 (.ref μ.1.length) = .ref q from congrArg Value.ref (if_pos rfl)] at K2
  exact K2
/-- newarray: long -/
theorem R_newL {N : Nat} {x : Int32} (hc : c.2 pc = some (.newarray .long, 2, a, b)) (hx0 : ¬ x < 0) (hN : x.toNatClampNeg = N) (hN2 : N ≤ 1000) (hst : ∀ v ∈ st, am_okv μ.1.length v) (hls : ∀ v, some v ∈ ls → am_okv μ.1.length v) (hP0 : am_okP μ) (hn : μ.1.length < 1000)
    (h : am_R Tx d k c (pc + 2) ls (.ref μ.1.length :: st) (am_new μ (2, N)) Q) : am_R Tx d (1 + k) c pc ls (.int x :: st) μ Q := by
  intro D b0 en p l e Rm s m args below meth cc H locs cells slots mc ms la C B Wd S L hk
  obtain ⟨⟨hx, hbc, hml, hr⟩, ⟨ho, hts, hlk, hnm⟩, htab, ⟨hf, hlo⟩, hMF⟩ := id C
  have hnd := hMF.2 pc _ hc
  have g1 := hts _ (am_Wmem (hnd (.arrayClass (newarray.typeOf .long)) (by simp [am_need])) rfl)
  refine va_newa (a0 := (N, .inr (.inl (fun _ => 0)))) (N' := N) (ty := .long) hx hbc g1 rfl Wd.2.1 Wd.1 Wd.2.2.2.1 S B.2.1 (fun _ => rfl) hx0 hN (by show N * 8 ≤ _; omega) (by omega) (by omega) (hMF.1 _ _ hc) (fun q cA H1 K1 P1 D1 S1 => ?_)
  have ecell : am_cell (am_enN μ.1.length q cA en) (am_new μ (2, N)) μ.1.length 2 N = .inl (cA, N, .inr (.inl (fun _ => 0))) := by
    show (Sum.inl (_, N, .inr (.inl _)) : va_E) = _
    have e1 : (am_enN μ.1.length q cA en).2 μ.1.length = cA := if_pos rfl
    have e2 : (am_new μ (2, N)).2.2.1 μ.1.length = fun _ => 0 := by funext b; exact if_pos rfl
    rw [e1, e2]
  rw [← ecell] at P1 D1
  have W1 := am_Wt.new (sh := (2, N)) Wd B S S1 hP0 hn P1 D1 (fun ty2 ht => by
    cases ht
    exact K1.2 0 (cA, .long) rfl)
  have hext := am_enN_ext μ.1.length q cA en
  have hl1 : (am_new μ (2, N)).1.length = μ.1.length + 1 := by show (μ.1 ++ _).length = _; simp
  have K := h D b0 (am_enN μ.1.length q cA en) p l e Rm s m args below meth cc H1 locs (cells + 1) (slots + N) mc ms la C (B.congr fun k hk => hext.1 k (by omega)) W1 S1 (by rw [am_prs_ext hext (by omega) ls 0 hls]; exact L) ⟨by omega, by omega, hk.2.2⟩
  rw [hl1] at K
  have K2 := am_mono (am_ext_MQ hext (Nat.le_succ _)) K
  rw [List.map_cons, am_map_ext hext (by omega) hst] at K2
  rw [show am_v (am_enN μ.1.length q cA en).1 (.ref μ.1.length) = .ref q from congrArg Value.ref (if_pos rfl)] at K2
  exact K2
/-- anewarray of states -/
theorem R_newS {N ci : Nat} {x : Int32} (hc : c.2 pc = some (.anewarray idx, 3, ci, 0)) (hcl : (am_q ci).1 = "RankDesk$State") (hx0 : ¬ x < 0) (hN : x.toNatClampNeg = N) (hN2 : N ≤ 1000) (hst : ∀ v ∈ st, am_okv μ.1.length v) (hls : ∀ v, some v ∈ ls → am_okv μ.1.length v) (hP0 : am_okP μ) (hn : μ.1.length < 1000)
    (h : am_R Tx d k c (pc + 3) ls (.ref μ.1.length :: st) (am_new μ (5, N)) Q) : am_R Tx d (1 + k) c pc ls (.int x :: st) μ Q := by
  intro D b0 en p l e Rm s m args below meth cc H locs cells slots mc ms la C B Wd S L hk
  obtain ⟨⟨hx, hbc, hml, hr⟩, ⟨ho, hts, hlk, hnm⟩, htab, ⟨hf, hlo⟩, hMF⟩ := id C
  have hnd := hMF.2 pc _ hc
  have g1 := hts _ (am_Wmem (hnd (.classLink c.1.1.cls idx (am_q ci).1) (by simp [am_need])) rfl)
  rw [hcl] at g1
  refine va_newq (N' := N) hx hbc ho g1 B.2.2.2.2.2.2.2.1 Wd.2.1 Wd.1 Wd.2.2.2.1 S B.2.1 hx0 hN (by omega) (by omega) (by omega) (hMF.1 _ _ hc) (fun q cA H1 K1 P1 D1 S1 => ?_)
  have ecell : am_cell (am_enN μ.1.length q cA en) (am_new μ (5, N)) μ.1.length 5 N = .inl (cA, N, .inr (.inr (.inr (.inr (fun _ => none))))) := by
    show (Sum.inl (_, N, .inr (.inr (.inr (.inr (fun j => ((am_new μ (5, N)).2.2.2 μ.1.length j).map _))))) : va_E) = _
    have e1 : (am_enN μ.1.length q cA en).2 μ.1.length = cA := if_pos rfl
    have e2 : ∀ j, (am_new μ (5, N)).2.2.2 μ.1.length j = none := fun j => if_pos rfl
    rw [e1]
    simp only [e2, Option.map_none]
  rw [← ecell] at P1 D1
  have W1 := am_Wt.new (sh := (5, N)) Wd B S S1 hP0 hn P1 D1 (fun ty2 ht => by
    cases ht
    exact K1.2 0 (cA, .object "RankDesk$State") rfl)
  have hext := am_enN_ext μ.1.length q cA en
  have hl1 : (am_new μ (5, N)).1.length = μ.1.length + 1 := by show (μ.1 ++ _).length = _; simp
  have K := h D b0 (am_enN μ.1.length q cA en) p l e Rm s m args below meth cc H1 locs (cells + 1) (slots + N) mc ms la C (B.congr fun k hk => hext.1 k (by omega)) W1 S1 (by rw [am_prs_ext hext (by omega) ls 0 hls]; exact L) ⟨by omega, by omega, hk.2.2⟩
  rw [hl1] at K
  have K2 := am_mono (am_ext_MQ hext (Nat.le_succ _)) K
  rw [List.map_cons, am_map_ext hext (by omega) hst] at K2
  rw [show am_v (am_enN μ.1.length q cA en).1 (.ref μ.1.length) = .ref q from congrArg Value.ref (if_pos rfl)] at K2
  exact K2
/-- aastore of a state -/
theorem R_aast {i : Int32} {j N x kp ci : Nat} (hc : c.2 pc = some (.aastore, 1, a, b)) (hS : μ.1[kp]? = some (5, N)) (hx : μ.1[x]? = some (0, ci)) (hci : ci < 13) (hcl : (am_q ci).1 = "RankDesk$State") (hi : i = nI j) (hj : j < N) (hn : N < 2 ^ 31) (h : am_R Tx d k c (pc + 1) ls st (am_uP μ kp j (some x)) Q) : am_R Tx d k c pc ls (.ref x :: .int i :: .ref kp :: st) μ Q := by
  intro D b0 en p l e Rm s m args below meth cc H locs cells slots mc ms la C B Wd S L hk
  have hdg := C.2.2.2.2.1 pc _ hc
  subst hi
  have hlt := am_lt Wd hS
  have hset : (am_ws en μ).set kp (en.1 kp, .inl (en.2 kp, N, .inr (.inr (.inr (.inr (va_up (fun q => (μ.2.2.2 kp q).map en.1) j (some (en.1 x)))))))) = am_ws en (am_uP μ kp j (some x)) := by
    refine am_ws_set hS rfl ?_ ?_
    · refine congrArg (fun z : Nat → Option Nat => (Sum.inl (en.2 kp, N, Sum.inr (Sum.inr (Sum.inr (Sum.inr z)))) : va_E)) (funext fun q => ?_)
      by_cases hq : q = j
      · subst hq
        simp [am_uP, am_up, va_up]
      · simp [am_uP, am_up, va_up, hq]
    · intro i kd n hi
      unfold am_cell
      simp only [am_uP, am_up_o hi]
  have hKA := am_KA.K Wd.2.1 Wd.2.2.1 hS (ty := .object "RankDesk$State") rfl
  rw [← hcl] at hKA
  refine va_astq C.1.1 C.1.2.1 hKA Wd.1 Wd.2.2.2.1 S kp 0 x ci (am_ws_get hS) rfl (am_ws_get hx) (am_clq hci) (vp_in_nI hj hn) hdg (fun H1 locs1 P1 D1 S1 => ?_)
  rw [nI_clamp (by omega)] at P1 D1
  exact h D b0 en p l e Rm s m args below meth cc H1 locs1 cells slots mc ms la C B (am_Wt.upd Wd B S S1 (hset ▸ P1) (hset ▸ D1) rfl rfl rfl) S1 L hk
/-- a constructor called: the memory grows to n1 places -/
theorem R_invI {q n1 : Nat} (hc : c.2 pc = some (.invokespecial idx, 3, mid, n)) (hs : c'.1 = am_sig mid) (hiv : am_iv c'.1 n) (hcall : am_Call Tx d' kc c' (.ref q :: as) μ Qc) (hd : d' + 1 ≤ d) (hlen : as.length = n) (hstk : stk = as.reverse ++ .ref q :: st) (hnn : Nat.beq n 64 = false) (hin : c'.1.1.name = "<init>") (hret : c'.1.2.2.2.1 = none) (hnone : c'.1.2.2.2.2 = none) (hw : (st.map fun v => v.category).sum ≤ 8)
    (hn : ∀ r, Qc r → ∃ μ1, r = (.inl none, μ1) ∧ μ1.1.length = n1) (hn1 : μ.1.length ≤ n1) (hst : ∀ v ∈ st, am_okv μ.1.length v) (hls : ∀ v, some v ∈ ls → am_okv μ.1.length v)
    (k1 : ∀ μ1, Qc (.inl none, μ1) → am_R Tx d k c (pc + 3) ls st μ1 Q) : am_R Tx d (kc + k) c pc ls stk μ Q := by
  intro D b0 en p l e Rm s m args below meth cc H locs cells slots mc ms la C B Wd S L hk
  obtain ⟨⟨hx, hb, hml, hr0⟩, ⟨ho, hts, hlk, hnm⟩, htab, ⟨hf, hlo⟩, hMF⟩ := id C
  have hnd := hMF.2 pc _ hc
  obtain ⟨⟨i1, i2, i3⟩, i4⟩ := hiv
  have g : ∀ w ∈ [Cond.methodLink c.1.1.cls idx c'.1.1, .instanceMethod c'.1.1, .initialized c'.1.1.cls, am_cw c'.1], w ∈ pw_tbl := by
    intro w hw
    rw [hs] at hw
    refine hnd w ?_
    show w ∈ cond (Nat.beq n 64) [Cond.methodLink c.1.1.cls idx (am_sig mid).1, .instanceMethod (am_sig mid).1, am_cw (am_sig mid)] [Cond.methodLink c.1.1.cls idx (am_sig mid).1, .instanceMethod (am_sig mid).1, .initialized (am_sig mid).1.cls, am_cw (am_sig mid)]
    rw [hnn]
    exact hw
  have hcwW : am_cw c'.1 ∈ am_W := hcall.1.2.1
  have ecw : am_cw c'.1 = .code c'.1.1 c'.1.2.1 c'.1.2.2.1 none := by unfold am_cw; rw [hnone, hret]
  have CB : CallB Rm s args c.1.1.cls idx c'.1.1 c'.1.2.1 c'.1.2.2.1 none (am_cw c'.1 :: am_W) (am_rm d' kc) kc (1000 * kc) n :=
    ⟨rfl, rfl, by show 8 + d' + 1 ≤ _; omega, by show 8 + (c'.1.2.2.1 + 11) + (200 + 64 * d') ≤ _; omega, am_payW hts hcwW, by rw [ecw]; exact List.mem_cons_self, by rw [← ecw]; exact hts _ hcwW, hts _ (am_Wmem (g (Cond.initialized c'.1.1.cls) (by simp)) rfl), ⟨i1, i2⟩, am_len i3, hts _ (am_Wmem (g (Cond.methodLink c.1.1.cls idx c'.1.1) (by simp)) rfl)⟩
  have hstk2 : stk.map (am_v en.1) = (as.map (am_v en.1)).reverse ++ .ref (en.1 q) :: st.map (am_v en.1) := by
    rw [hstk]; simp [am_v]
  have hr := vx_runI (e := e) (locs := locs) (cells := cells) (slots := slots) (below := below) (meth := meth) (As := as.map (am_v en.1)) (b := en.1 q) (n := n) (g := F0 m pc la (stk.map (am_v en.1))) ⟨hx, hb, hml, ho, hts⟩ (am_met hcall D b0 en l) ⟨CB, hin, hts _ (am_Wmem (g (Cond.instanceMethod c'.1.1) (by simp)) rfl)⟩
    ⟨am_blind, fun U hU hW => ⟨rfl, am_start B Wd S hU hW⟩⟩ rfl (by simpa using hlen) L.1 hstk2 (lv_room (am_stw hw)) (hMF.1 _ _ hc) ⟨by omega, by omega⟩
  intro T hT X
  rcases hr T hT X with ⟨v, st₀, t, T', Lo, h0, X', hL, e1, e2, ⟨v', μ', en', hq, hext, hlen', hv, hWt, hF⟩, stp⟩ | ⟨q, st₀, t, T', Lo, E, ce, h0, X', hL, e1, e2, ⟨μ', en', hq, hext, hlen', hWt, hF⟩, hce, hcv, hcl, stp⟩
  · obtain ⟨μ9, e9, hl1⟩ := hn _ hq
    cases e9
    have h1000 : μ'.1.length ≤ 1000 := hWt.2.2.2.2.2
    obtain ⟨q1, q2, q3⟩ := vx_keep h0 e1 S (fun q _ h => h) (fun q h => h) hL hF
    have hal : t.vm.Alike s.vm := by rw [← e2]; exact X'.warmed.alike.symm
    have hw : am_Wt D b0 en' μ' s T'.heap := by rw [e1]; exact am_Wt.moved hal hWt
    have hvv : v = none := by cases hv; rfl
    subst hvv
    obtain ⟨t2, a1, b1⟩ := k1 μ' hq D b0 en' p l e Rm s m args below meth cc T'.heap (locs ++ Lo) (cells + kc) (slots + 1000 * kc) mc ms la C (B.congr fun k hk => hext.1 k (by omega)) hw q3 (by rw [am_prs_ext hext h1000 ls 0 hls]; exact L) ⟨by omega, by omega, hk.2.2⟩ T' rfl X'
    rw [am_map_ext hext h1000 hst] at a1
    exact ⟨t2, stp t2 a1, am_ext_MQ hext hlen' t2 b1⟩
  · obtain ⟨μ9, e9, hl1⟩ := hn _ hq
    cases e9
end AMG
/-- a memory that grows: the first n places of all; ints, longs, references as lists of writes, newest first -/
def giI (xs : Nat → Int32) (N : Int32) : List (Nat × Nat × Int32) → Nat → Nat → Int32
  | [] => fun a b => if a = 3000 then xs b else if a = 3001 then N else 0
  | q :: L => am_up (giI xs N L) q.1 q.2.1 q.2.2
def giL : List (Nat × Nat × Int64) → Nat → Nat → Int64
  | [] => fun _ _ => 0
  | q :: L => am_up (giL L) q.1 q.2.1 q.2.2
def giP : List (Nat × Nat × Nat) → Nat → Nat → Option Nat
  | [] => fun _ _ => none
  | q :: L => am_up (giP L) q.1 q.2.1 (some q.2.2)
def mG (xs : Nat → Int32) (N : Int32) (n : Nat) (I : List (Nat × Nat × Int32)) (L : List (Nat × Nat × Int64)) (P : List (Nat × Nat × Nat)) : am_M := (Sh.take n, giI xs N I, giL L, giP P)
/-- all writes are to the first n places, n of which there are -/
def gOk (n : Nat) (I : List (Nat × Nat × Int32)) (L : List (Nat × Nat × Int64)) (P : List (Nat × Nat × Nat)) : Prop := n ≤ 120 ∧ (∀ q ∈ I, q.1 < n) ∧ (∀ q ∈ L, q.1 < n) ∧ ∀ q ∈ P, q.1 < n ∧ q.2.2 < n
theorem Sh_len : Sh.length = 120 := by decide +kernel
section GOK
variable {xs : Nat → Int32} {N : Int32} {n n1 : Nat} {I : List (Nat × Nat × Int32)} {L : List (Nat × Nat × Int64)} {P : List (Nat × Nat × Nat)}
theorem gOk.up (h : gOk n I L P) (h1 : n ≤ n1) (h2 : n1 ≤ 120) : gOk n1 I L P := ⟨h2, fun q hq => Nat.lt_of_lt_of_le (h.2.1 q hq) h1, fun q hq => Nat.lt_of_lt_of_le (h.2.2.1 q hq) h1, fun q hq => ⟨Nat.lt_of_lt_of_le (h.2.2.2 q hq).1 h1, Nat.lt_of_lt_of_le (h.2.2.2 q hq).2 h1⟩⟩
theorem gOk.cI (h : gOk n I L P) {k j : Nat} {x : Int32} (hk : k < n) : gOk n ((k, j, x) :: I) L P := ⟨h.1, List.forall_mem_cons.mpr ⟨hk, h.2.1⟩, h.2.2.1, h.2.2.2⟩
theorem gOk.cP (h : gOk n I L P) {k j x : Nat} (hk : k < n) (hx : x < n) : gOk n I L ((k, j, x) :: P) := ⟨h.1, h.2.1, h.2.2.1, List.forall_mem_cons.mpr ⟨⟨hk, hx⟩, h.2.2.2⟩⟩
theorem giI_0 {a : Nat} (h : ∀ q ∈ I, q.1 < a) (ha : a < 1000) (b : Nat) : giI xs N I a b = 0 := by
  induction I with
  | nil => exact (if_neg (by omega)).trans (if_neg (by omega))
  | cons q I ih =>
    have h1 := h q List.mem_cons_self
    have h2 : a ≠ q.1 := by omega
    exact (congrFun (am_up_o h2) b).trans (ih fun q hq => h q (List.mem_cons_of_mem _ hq))
theorem giL_0 {a : Nat} (h : ∀ q ∈ L, q.1 < a) (b : Nat) : giL L a b = 0 := by
  induction L with
  | nil => rfl
  | cons q L ih =>
    have h1 := h q List.mem_cons_self
    have h2 : a ≠ q.1 := by omega
    exact (congrFun (am_up_o h2) b).trans (ih fun q hq => h q (List.mem_cons_of_mem _ hq))
theorem giP_0 {a : Nat} (h : ∀ q ∈ P, q.1 < a) (b : Nat) : giP P a b = none := by
  induction P with
  | nil => rfl
  | cons q P ih =>
    have h1 := h q List.mem_cons_self
    have h2 : a ≠ q.1 := by omega
    exact (congrFun (am_up_o h2) b).trans (ih fun q hq => h q (List.mem_cons_of_mem _ hq))
theorem giP_lt (h : ∀ q ∈ P, q.1 < n ∧ q.2.2 < n) {a b x : Nat} (hx : giP P a b = some x) : x < n := by
  induction P with
  | nil => cases hx
  | cons q P ih =>
    have h1 := h q List.mem_cons_self
    have ih2 := ih fun q hq => h q (List.mem_cons_of_mem _ hq)
    have hx2 : (if a = q.1 then (if b = q.2.1 then some q.2.2 else giP P a b) else giP P a b) = some x := hx
    split at hx2
    · split at hx2
      · cases hx2; exact h1.2
      · exact ih2 hx2
    · exact ih2 hx2
theorem mG_len (h : gOk n I L P) : (mG xs N n I L P).1.length = n := by
  show (Sh.take n).length = n
  rw [List.length_take, Sh_len]
  have := h.1
  omega
theorem mG_okP (h : gOk n I L P) : am_okP (mG xs N n I L P) := by
  intro k _ j x hx
  rw [mG_len h]
  exact giP_lt h.2.2.2 hx
theorem mG_new (h : gOk n I L P) {sh : Nat × Nat} (hs : Sh[n]? = some sh) : am_new (mG xs N n I L P) sh = mG xs N (n + 1) I L P := by
  have hl := mG_len (xs := xs) (N := N) h
  have hn : n < 120 := (List.getElem?_eq_some_iff.mp hs).1
  have e0 : Sh.take n ++ [sh] = Sh.take (n + 1) := by
    rw [List.take_add_one, hs]; rfl
  unfold am_new
  rw [hl]
  refine Prod.ext e0 (Prod.ext ?_ (Prod.ext ?_ ?_))
  · funext a b
    by_cases ha : a = n
    · subst ha
      exact (if_pos rfl).trans (giI_0 h.2.1 (by omega) b).symm
    · exact if_neg ha
  · funext a b
    by_cases ha : a = n
    · subst ha
      exact (if_pos rfl).trans (giL_0 h.2.2.1 b).symm
    · exact if_neg ha
  · funext a b
    by_cases ha : a = n
    · subst ha
      exact (if_pos rfl).trans (giP_0 (fun q hq => (h.2.2.2 q hq).1) b).symm
    · exact if_neg ha
theorem mG_sh {j : Nat} {sh : Nat × Nat} (hs : Sh[j]? = some sh) (hj : j < n) : (mG xs N n I L P).1[j]? = some sh := by
  show (Sh.take n)[j]? = some sh
  rw [List.getElem?_take_of_lt hj]
  exact hs
end GOK
section AMH
variable {Tx : am_Tx} {d d' kc k : Nat} {c c' : am_C} {pc mid idx a b : Nat} {ls : List (Option Value)} {st stk as : List Value} {Q Qc : am_Res → Prop} {xs : Nat → Int32} {N : Int32} {n n1 : Nat} {I I1 : List (Nat × Nat × Int32)} {L L1 : List (Nat × Nat × Int64)} {P P1 : List (Nat × Nat × Nat)}
/-- the stack and the locals speak of the first n places -/
def gV (n : Nat) (ls : List (Option Value)) (st : List Value) : Prop := (∀ v, some v ∈ ls → am_okv n v) ∧ ∀ v ∈ st, am_okv n v
def gOut (xs : Nat → Int32) (N : Int32) (n : Nat) (I : List (Nat × Nat × Int32)) (L : List (Nat × Nat × Int64)) (P : List (Nat × Nat × Nat)) : am_Res → Prop := fun r => r = (.inl none, mG xs N n I L P)
theorem G_new {ci : Nat} (hc : c.2 pc = some (.new idx, 3, ci, 0)) (hci : ci < 13) (hs : Sh[n]? = some (0, ci)) (hok : gOk n I L P) (hV : gV n ls st)
    (h : am_R Tx d k c (pc + 3) ls (.ref n :: st) (mG xs N (n + 1) I L P) Q) : am_R Tx d (1 + k) c pc ls st (mG xs N n I L P) Q := by
  have hl := mG_len (xs := xs) (N := N) hok
  have h9 := hok.1
  refine R_new hc hci (by rw [hl]; exact hV.2) (by rw [hl]; exact hV.1) (mG_okP hok) (by omega) ?_
  rw [hl, mG_new hok hs]
  exact h
theorem G_newI {t : ArrayType} {ty : FieldType} {kd M : Nat} {x : Int32} (hc : c.2 pc = some (.newarray t, 2, a, b)) (hty : newarray.typeOf t = ty) (hkd : am_aty kd = some ty) (hcell : ∀ en ν j, am_cell en ν j kd M = .inl (en.2 j, M, .inl (ν.2.1 j))) (hvp : ∀ cA : ClassId, vp_cell cA (M, .inl (fun _ => 0)) = arrV cA M (fun _ => defaultValue ty)) (hg : goodWord (.arrayClass ty) = true)
    (hx0 : ¬ x < 0) (hM : x.toNatClampNeg = M) (hb : M * componentBytes ty ≤ 536870912) (hM2 : M ≤ 1000) (hs : Sh[n]? = some (kd, M)) (hok : gOk n I L P) (hV : gV n ls st)
    (h : am_R Tx d k c (pc + 2) ls (.ref n :: st) (mG xs N (n + 1) I L P) Q) : am_R Tx d (1 + k) c pc ls (.int x :: st) (mG xs N n I L P) Q := by
  have hl := mG_len (xs := xs) (N := N) hok
  have h9 := hok.1
  refine R_newI hc hty hkd hcell hvp hg hx0 hM hb hM2 (by rw [hl]; exact hV.2) (by rw [hl]; exact hV.1) (mG_okP hok) (by omega) ?_
  rw [hl, mG_new hok hs]
  exact h
theorem G_newL {M : Nat} {x : Int32} (hc : c.2 pc = some (.newarray .long, 2, a, b)) (hx0 : ¬ x < 0) (hM : x.toNatClampNeg = M) (hM2 : M ≤ 1000) (hs : Sh[n]? = some (2, M)) (hok : gOk n I L P) (hV : gV n ls st)
    (h : am_R Tx d k c (pc + 2) ls (.ref n :: st) (mG xs N (n + 1) I L P) Q) : am_R Tx d (1 + k) c pc ls (.int x :: st) (mG xs N n I L P) Q := by
  have hl := mG_len (xs := xs) (N := N) hok
  have h9 := hok.1
  refine R_newL hc hx0 hM hM2 (by rw [hl]; exact hV.2) (by rw [hl]; exact hV.1) (mG_okP hok) (by omega) ?_
  rw [hl, mG_new hok hs]
  exact h
theorem G_newS {M ci : Nat} {x : Int32} (hc : c.2 pc = some (.anewarray idx, 3, ci, 0)) (hcl : (am_q ci).1 = "RankDesk$State") (hx0 : ¬ x < 0) (hM : x.toNatClampNeg = M) (hM2 : M ≤ 1000) (hs : Sh[n]? = some (5, M)) (hok : gOk n I L P) (hV : gV n ls st)
    (h : am_R Tx d k c (pc + 3) ls (.ref n :: st) (mG xs N (n + 1) I L P) Q) : am_R Tx d (1 + k) c pc ls (.int x :: st) (mG xs N n I L P) Q := by
  have hl := mG_len (xs := xs) (N := N) hok
  have h9 := hok.1
  refine R_newS hc hcl hx0 hM hM2 (by rw [hl]; exact hV.2) (by rw [hl]; exact hV.1) (mG_okP hok) (by omega) ?_
  rw [hl, mG_new hok hs]
  exact h
theorem G_init {q n2 : Nat} (hc : c.2 pc = some (.invokespecial idx, 3, mid, n2)) (hs : c'.1 = am_sig mid) (hiv : am_iv c'.1 n2) (hcall : am_Call Tx d' kc c' (.ref q :: as) (mG xs N n I L P) (gOut xs N n1 I1 L1 P1)) (hd : d' + 1 ≤ d) (hlen : as.length = n2) (hstk : stk = as.reverse ++ .ref q :: st) (hnn : Nat.beq n2 64 = false) (hin : c'.1.1.name = "<init>") (hret : c'.1.2.2.2.1 = none) (hnone : c'.1.2.2.2.2 = none) (hw : (st.map fun v => v.category).sum ≤ 8)
    (hok : gOk n I L P) (hok1 : gOk n1 I1 L1 P1) (hn1 : n ≤ n1) (hV : gV n ls st)
    (h : am_R Tx d k c (pc + 3) ls st (mG xs N n1 I1 L1 P1) Q) : am_R Tx d (kc + k) c pc ls stk (mG xs N n I L P) Q := by
  have hl := mG_len (xs := xs) (N := N) hok
  refine R_invI (n1 := n1) hc hs hiv hcall hd hlen hstk hnn hin hret hnone hw (fun r hr => ⟨_, hr, mG_len hok1⟩) (by rw [hl]; exact hn1) (by rw [hl]; exact hV.2) (by rw [hl]; exact hV.1) (fun μ1 hq => ?_)
  cases hq
  exact h
end AMH

