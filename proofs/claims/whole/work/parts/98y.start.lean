/-! ===== the claim out of the law ===== -/
def st_F : List Cond := flatC (Jvm.Cond.and given_1 narrow_1)
/-- the i-th text's term -/
def st_tm (i : Nat) : Term := .string (am_TX.getD i ("", 0, "", 0)).1 (am_TX.getD i ("", 0, "", 0)).2.1
/-- what is given of a text that is read -/
def st_need (q : Nat × List Int32) : List Cond := [.eq (.field (st_tm q.1) "java/lang/String" "coder" "B") (.int 0), .arrayOf (.field (st_tm q.1) "java/lang/String" "value" "[B") .byte, .eq (.length (.field (st_tm q.1) "java/lang/String" "value" "[B")) (.int (Int32.ofNat q.2.length))] ++ (List.range q.2.length).map (fun j => .eq (.elem (.field (st_tm q.1) "java/lang/String" "value" "[B") (.int (Int32.ofNat j))) (.int (q.2.getD j 0)))
set_option maxRecDepth 100000 in
theorem st_ex : ∀ i, i < 32 → Cond.exactly (st_tm i) "java/lang/String" ∈ st_F := by decide +kernel
def st_ok (q : Nat × List Int32) : Prop := (q.1 < 32 ∧ q.2.length < 20) ∧ ∀ w ∈ st_need q, w ∈ st_F
theorem st_okof {q : Nat × List Int32} (pl : List Nat) (h : q.1 < 32 ∧ q.2.length < 20) (h2 : (st_need q).map some = pl.map (fun i => st_F[i]?)) : st_ok q := by
  refine ⟨h, fun w hw => ?_⟩
  have h3 : some w ∈ (st_need q).map some := List.mem_map.mpr ⟨w, hw, rfl⟩
  rw [h2] at h3
  obtain ⟨i, -, hi⟩ := List.mem_map.mp h3
  exact List.mem_of_getElem? hi
set_option maxRecDepth 100000 in
theorem st_ok8 : st_ok (8, [42, 114]) := st_okof [620, 621, 622, 623, 624] (by decide +kernel) (by decide +kernel)
set_option maxRecDepth 100000 in
theorem st_ok9 : st_ok (9, [114, 111, 119, 115]) := st_okof [98, 99, 100, 101, 102, 103, 104] (by decide +kernel) (by decide +kernel)
set_option maxRecDepth 100000 in
theorem st_ok10 : st_ok (10, [32, 99, 111, 108, 117, 109, 110, 115]) := st_okof [106, 107, 108, 109, 110, 111, 112, 113, 114, 115, 116] (by decide +kernel) (by decide +kernel)
set_option maxRecDepth 100000 in
theorem st_ok11 : st_ok (11, [10]) := st_okof [118, 119, 120, 121] (by decide +kernel) (by decide +kernel)
set_option maxRecDepth 100000 in
theorem st_ok24 : st_ok (24, [109, 97, 116, 114, 105, 120]) := st_okof [656, 657, 658, 659, 660, 661, 662, 663, 664] (by decide +kernel) (by decide +kernel)
set_option maxRecDepth 100000 in
theorem st_ok25 : st_ok (25, [114, 111, 119]) := st_okof [667, 668, 669, 670, 671, 672] (by decide +kernel) (by decide +kernel)
set_option maxRecDepth 100000 in
theorem st_ok26 : st_ok (26, [112, 114, 105, 109, 101]) := st_okof [675, 676, 677, 678, 679, 680, 681, 682] (by decide +kernel) (by decide +kernel)
set_option maxRecDepth 100000 in
theorem st_ok27 : st_ok (27, [114, 111, 119, 115]) := st_okof [685, 686, 687, 688, 689, 690, 691] (by decide +kernel) (by decide +kernel)
set_option maxRecDepth 100000 in
theorem st_ok28 : st_ok (28, [32, 99, 111, 108, 117, 109, 110, 115]) := st_okof [694, 695, 696, 697, 698, 699, 700, 701, 702, 703, 704] (by decide +kernel) (by decide +kernel)
set_option maxRecDepth 100000 in
theorem st_ok29 : st_ok (29, [114, 111, 119]) := st_okof [82, 83, 84, 85, 86, 87] (by decide +kernel) (by decide +kernel)
set_option maxRecDepth 100000 in
theorem st_ok30 : st_ok (30, [112, 114, 105, 109, 101]) := st_okof [89, 90, 91, 92, 93, 94, 95, 96] (by decide +kernel) (by decide +kernel)
set_option maxRecDepth 100000 in
theorem st_ok31 : st_ok (31, [109, 97, 116, 114, 105, 120]) := st_okof [72, 73, 74, 75, 76, 77, 78, 79, 80] (by decide +kernel) (by decide +kernel)
theorem st_nd : ∀ q ∈ am_SL, st_ok q := List.forall_mem_cons.mpr ⟨st_ok8, List.forall_mem_cons.mpr ⟨st_ok9, List.forall_mem_cons.mpr ⟨st_ok10, List.forall_mem_cons.mpr ⟨st_ok11, List.forall_mem_cons.mpr ⟨st_ok24, List.forall_mem_cons.mpr ⟨st_ok25, List.forall_mem_cons.mpr ⟨st_ok26, List.forall_mem_cons.mpr ⟨st_ok27, List.forall_mem_cons.mpr ⟨st_ok28, List.forall_mem_cons.mpr ⟨st_ok29, List.forall_mem_cons.mpr ⟨st_ok30, List.forall_mem_cons.mpr ⟨st_ok31, fun _ h => absurd h List.not_mem_nil⟩⟩⟩⟩⟩⟩⟩⟩⟩⟩⟩⟩
theorem st_uq : ∀ q ∈ am_SL, ∀ q2 ∈ am_SL, q.1 = q2.1 → q = q2 := by decide +kernel
set_option maxRecDepth 100000 in
theorem st_nc : ∀ q ∈ am_NC, Cond.not (.castable q.1 q.2) ∈ st_F := by decide +kernel
theorem st_txn : ∀ q ∈ am_TX, q.2.2.2 < 32 ∧ am_TX.getD q.2.2.2 ("", 0, "", 0) = q := by decide +kernel
def st_P : List Nat := [926, 1244, 1417, 1424, 1468, 1469, 1504, 1512, 1529, 858, 870, 871, 1560, 1038, 1043, 1016, 1366, 1492, 1161, 977, 1061, 1073, 1079, 1092, 1704, 1739, 1756, 2251, 2260, 556, 569, 469]
set_option maxRecDepth 100000 in
theorem st_str : ∀ i, i < 32 → lw_tbl[st_P.getD i 0]? = some (Cond.stringRef (am_TX.getD i ("", 0, "", 0)).1 (am_TX.getD i ("", 0, "", 0)).2.1 (am_TX.getD i ("", 0, "", 0)).2.2.1) := by decide +kernel
def st_I : List Nat := [230, 202, 373, 152, 174, 322, 285, 336, 357, 168, 144, 1570]
set_option maxRecDepth 100000 in
theorem st_inst : ∀ i, i < 12 → lw_tbl[st_I.getD i 0]? = some (Cond.instantiable (am_q i).1 (am_q i).2.2) := by decide +kernel
set_option maxRecDepth 100000 in
theorem st_l1 : Cond.laysStatic Bundle.tN "UNASSIGNED_STACK" Bundle.steD ∈ lw_tbl := List.mem_of_getElem? (i := 911) (by decide +kernel)
set_option maxRecDepth 100000 in
theorem st_l2 : Cond.laysStatic Bundle.tN "SUPPRESSED_SENTINEL" Bundle.listD ∈ lw_tbl := List.mem_of_getElem? (i := 913) (by decide +kernel)
set_option maxRecDepth 100000 in
theorem st_it : Cond.initialized Bundle.tN ∈ lw_tbl := List.mem_of_getElem? (i := 130) (by decide +kernel)
set_option maxRecDepth 100000 in
theorem st_cs : Cond.laysStatic "java/lang/String" "COMPACT_STRINGS" "Z" ∈ lw_tbl := List.mem_of_getElem? (i := 483) (by decide +kernel)
set_option maxRecDepth 100000 in
theorem st_is : Cond.initialized "java/lang/String" ∈ lw_tbl := List.mem_of_getElem? (i := 136) (by decide +kernel)
set_option maxRecDepth 100000 in
theorem st_sf : Cond.laysStatic "jdk/internal/util/Preconditions" "SIOOBE_FORMATTER" "Ljava/util/function/BiFunction;" ∈ lw_tbl := List.mem_of_getElem? (i := 499) (by decide +kernel)
set_option maxRecDepth 100000 in
theorem st_ip : Cond.initialized "jdk/internal/util/Preconditions" ∈ lw_tbl := List.mem_of_getElem? (i := 138) (by decide +kernel)
set_option maxRecDepth 100000 in
theorem st_ao : Cond.arrayOver (.object "RankDesk$State") ∈ lw_tbl := List.mem_of_getElem? (i := 379) (by decide +kernel)
set_option maxRecDepth 100000 in
theorem st_r1 : Cond.isRef (.static Bundle.tN "UNASSIGNED_STACK" Bundle.steD) ∈ st_F := by decide +kernel
set_option maxRecDepth 100000 in
theorem st_r2 : Cond.isRef (.static Bundle.tN "SUPPRESSED_SENTINEL" Bundle.listD) ∈ st_F := by decide +kernel
set_option maxRecDepth 100000 in
theorem st_r3 : Cond.isRef (.static "jdk/internal/util/Preconditions" "SIOOBE_FORMATTER" "Ljava/util/function/BiFunction;") ∈ st_F := by decide +kernel
set_option maxRecDepth 100000 in
theorem st_r4 : Cond.eq (.static "java/lang/String" "COMPACT_STRINGS" "Z") (.int 1) ∈ st_F := by decide +kernel
theorem am_TX_get : ∀ q ∈ am_TX, ∀ s : State, ∀ args : Array Value, (∀ w ∈ lw_tbl, w.before args s = true) → (Cond.stringRef q.1 q.2.1 q.2.2.1).before args s = true := by
  intro q hq s args hts
  obtain ⟨h1, h2⟩ := st_txn q hq
  have h := hts _ (List.mem_of_getElem? (st_str _ h1))
  rw [h2] at h
  exact h
theorem am_cl_q {c : Nat} {q : vw_C} (h : am_cl[c]? = some q) : c < 12 ∧ am_q c = q := by
  refine ⟨(List.getElem?_eq_some_iff.mp h).1, ?_⟩
  unfold am_q
  rw [List.getD_eq_getElem?_getD, h]
  rfl
/-- the classes as the tables have them -/
theorem st_K {s : State} {args : Array Value} (hts : ∀ w ∈ lw_tbl, w.before args s = true) : ∃ D : va_G, va_K D am_cl [] s := by
  have h0 : ∀ c : Nat, ∃ D : ClassId × (Nat → Nat), ∀ q : vw_C, am_cl[c]? = some q → u_Kn s q.1 q.2.1 q.2.2 D.1 D.2 := by
    intro c
    cases h : am_cl[c]? with
    | none => exact ⟨(0, fun _ => 0), fun q hq => by cases hq⟩
    | some q =>
      obtain ⟨h1, h2⟩ := am_cl_q h
      have hi := hts _ (List.mem_of_getElem? (st_inst c h1))
      rw [h2] at hi
      obtain ⟨cC, iS, hk⟩ := u_known (ws := am_W) (fun w hw => hts w (List.mem_filter.mp hw).1) (am_cl_ok c q h).2.1 hi
      exact ⟨(cC, iS), fun q2 hq => by cases hq; exact hk⟩
  obtain ⟨f, hf⟩ := Classical.axiomOfChoice h0
  exact ⟨(fun c => (f c).1, fun c => (f c).2), fun c q hq => hf c q hq, fun k q hk => by simp at hk⟩
/-- the texts' places -/
theorem st_T {s : State} {args : Array Value} {A : Nat → Prop} (hf : ∀ w ∈ st_F, w.before args s = true) (hA : ∀ a : Nat, a < s.heap.size → ¬ A a) : ∃ f : Nat → Nat × Nat, (∀ i, i < 32 → (st_tm i).eval args s none [] s = some (.ref (f i).1)) ∧
    ∀ q ∈ am_SL, va_O "java/lang/String" (f q.1).1 A s s.heap ∧ va_OF "java/lang/String" "coder" "B" (.int 0) (f q.1).1 A s s.heap ∧ va_OF "java/lang/String" "value" "[B" (.ref (f q.1).2) (f q.1).1 A s s.heap ∧ va_T .byte (f q.1).2 q.2.length (fun j => .int (q.2.getD j 0)) A s s.heap := by
  have h0 : ∀ i : Nat, ∃ z : Nat × Nat, (i < 32 → (st_tm i).eval args s none [] s = some (.ref z.1)) ∧ ∀ q ∈ am_SL, q.1 = i → va_O "java/lang/String" z.1 A s s.heap ∧ va_OF "java/lang/String" "coder" "B" (.int 0) z.1 A s s.heap ∧ va_OF "java/lang/String" "value" "[B" (.ref z.2) z.1 A s s.heap ∧ va_T .byte z.2 q.2.length (fun j => .int (q.2.getD j 0)) A s s.heap := by
    intro i
    by_cases hi : i < 32
    · obtain ⟨a, c, cA, kA, q1, q2, q3, q4, q5, q6, -⟩ := Cond.exactly_spec (args := args) (first := s) (o := none) (s := s) (idx := []) (t := st_tm i) (cls := "java/lang/String") (hf _ (st_ex i hi))
      by_cases hs : ∃ q ∈ am_SL, q.1 = i
      · obtain ⟨q, hq, rfl⟩ := hs
        obtain ⟨⟨-, hN0⟩, hw⟩ := st_nd q hq
        have hN : q.2.length < 2 ^ 31 := Nat.lt_of_lt_of_le hN0 (by decide)
        have hw0 : ∀ w ∈ st_need q, w.before args s = true := fun w h => hf w (hw w h)
        unfold st_need at hw0
        have hco := hw0 _ (List.mem_append_left _ List.mem_cons_self)
        have har := hw0 _ (List.mem_append_left _ (List.mem_cons_of_mem _ List.mem_cons_self))
        have hle := hw0 _ (List.mem_append_left _ (List.mem_cons_of_mem _ (List.mem_cons_of_mem _ List.mem_cons_self)))
        obtain ⟨t, ht, hT⟩ := va_Tof (f := fun j => .int (q.2.getD j 0)) (A := A) hN har (va_eqt hle) (fun j hj => va_eqt (hw0 _ (List.mem_append_right _ (List.mem_map.mpr ⟨j, List.mem_range.mpr hj, rfl⟩)))) hA
        refine ⟨(a, t), fun _ => q1, fun q2' hq2 e => ?_⟩
        have := st_uq q2' hq2 q hq e
        subst this
        exact ⟨⟨cA, q3, q5, by rw [q6]; exact q2, hA a (Array.getElem?_eq_some_iff.mp q3).1⟩, vk_OFof q1 (va_eqt hco) hA, vk_OFof q1 ht hA, hT⟩
      · exact ⟨(a, 0), fun _ => q1, fun q hq e => absurd ⟨q, hq, e⟩ hs⟩
    · exact ⟨(0, 0), fun h => absurd h hi, fun q hq e => absurd (e ▸ (st_nd q hq).1.1) hi⟩
  obtain ⟨f, hf⟩ := Classical.axiomOfChoice h0
  exact ⟨f, fun i hi => (hf i).1 hi, fun q hq => (hf q.1).2 q hq rfl⟩
theorem st_tr {l : Launch} (h : l.flags = flags0) : l.stackTraces = false := by
  unfold Launch.stackTraces
  rw [h]
  decide +kernel
theorem am_N_ot {w : Cond} (h : w ∈ am_N) : w.onTables = true := by
  have hg := (List.mem_filter.mp h).2
  unfold am_nw at hg
  split at hg
  · rfl
  · rfl
  · rfl
  · cases hg
/-- an environment with these places -/
def st_en (b z : Nat) (f : Nat → Nat × Nat) : am_E := (fun k => if k = 3000 then b else if k = 4000 then z else if k < 2000 then (f (k - 1000)).1 else (f (k - 2000)).2, fun _ => 0)
theorem st_1 {b z : Nat} {f : Nat → Nat × Nat} {i : Nat} (h : i < 32) : (st_en b z f).1 (1000 + i) = (f i).1 := by
  show (if 1000 + i = 3000 then b else if 1000 + i = 4000 then z else if 1000 + i < 2000 then (f (1000 + i - 1000)).1 else (f (1000 + i - 2000)).2) = _
  rw [if_neg (by omega), if_neg (by omega), if_pos (by omega), Nat.add_sub_cancel_left]
theorem st_2 {b z : Nat} {f : Nat → Nat × Nat} {i : Nat} (h : i < 32) : (st_en b z f).1 (2000 + i) = (f i).2 := by
  show (if 2000 + i = 3000 then b else if 2000 + i = 4000 then z else if 2000 + i < 2000 then (f (2000 + i - 1000)).1 else (f (2000 + i - 2000)).2) = _
  rw [if_neg (by omega), if_neg (by omega), if_neg (by omega), Nat.add_sub_cancel_left]
theorem st_3 {b z : Nat} {f : Nat → Nat × Nat} : (st_en b z f).1 3000 = b := rfl
theorem st_4 {b z : Nat} {f : Nat → Nat × Nat} : (st_en b z f).1 4000 = z := rfl
/-- what lies below -/
theorem st_B {s : State} {args : Array Value} {l : Launch} {b : Nat} (hl : l.flags = flags0) (hts : ∀ w ∈ lw_tbl, w.before args s = true) (hf : ∀ w ∈ st_F, w.before args s = true) : ∃ en : am_E, en.1 3000 = b ∧ am_Base am_TX s.heap.size en.1 l s s.heap := by
  have hA : ∀ a : Nat, a < s.heap.size → ¬ s.heap.size ≤ a := fun a h h2 => absurd h (Nat.not_lt.mpr h2)
  obtain ⟨f, h1, h2⟩ := st_T (A := fun q : Nat => s.heap.size ≤ q) hf hA
  have hZ : va_Zq "jdk/internal/util/Preconditions" "SIOOBE_FORMATTER" "Ljava/util/function/BiFunction;" (fun q : Nat => s.heap.size ≤ q) s s.heap := va_Zqof (hts _ st_sf) (hts _ st_ip) (hf _ st_r3) hA
  have hz : ∃ z : Nat, va_Z "jdk/internal/util/Preconditions" "SIOOBE_FORMATTER" "Ljava/util/function/BiFunction;" .null (fun q : Nat => s.heap.size ≤ q) s s.heap ∨ va_Z "jdk/internal/util/Preconditions" "SIOOBE_FORMATTER" "Ljava/util/function/BiFunction;" (.ref z) (fun q : Nat => s.heap.size ≤ q) s s.heap := by
    rcases hZ with h | ⟨t, h⟩
    · exact ⟨0, Or.inl h⟩
    · exact ⟨t, Or.inr h⟩
  obtain ⟨z, hz⟩ := hz
  refine ⟨st_en b z f, st_3, st_tr hl, Nat.le_refl _, vx_Zqof (hts _ st_l1) (hts _ st_it) (hf _ st_r1) hA, vx_Zqof (hts _ st_l2) (hts _ st_it) (hf _ st_r2) hA, ?_, fun w hw => va_Nw.of (am_N_ot hw) (hts w (List.mem_filter.mp hw).1), fun q hq => va_Nc.of (hf _ (st_nc q hq)), va_AO.of (hts _ st_ao), ?_, va_Zof (hts _ st_cs) (hts _ st_is) (va_eqi (hf _ st_r4)) hA, hz⟩
  · intro q hq
    obtain ⟨e1, e2⟩ := st_txn q hq
    rw [st_1 e1]
    have h := h1 _ e1
    unfold st_tm at h
    rw [e2] at h
    exact vk_R.of (am_TX_get q hq s args hts) h
  · intro q hq
    have e1 := (st_nd q hq).1.1
    unfold am_str1
    rw [st_1 e1, st_2 e1]
    exact h2 q hq
def R_law : String := "RankDeskLaw"
def lw_P (b : Addr) (xs : List Int32) (args : Array Value) (s : State) : Prop := args = #[.ref b] ∧ s.IntsAt b xs ∧ xs.length ≤ 3072 ∧ (Jvm.Cond.and given_1 narrow_1).before args s = true
def lw_Q (_ : Array Value) (s : State) (o : Outcome) (t : State) : Prop := o = .returned (some (.int 1)) ∧ Framed s o t [] 601024 7293034
def lw_Z (below : List Frame) (a : Array Value) (s : State) : State → Prop := fun t => ∃ o, t.status = .running ∧ Ended t below o ∧ lw_Q a s o t
/-- what holds at the law's entry -/
def lw_At (p : Program) (s : State) (m : MethodId) (meth : Method) (c : Code) (b L : Nat) (xs : Nat → Int32) : Prop :=
  (p.tables.exec = Jvm.exec ∧ c.code = code ∧ meth.sig.returnType = ret ∧ c.maxLocals = 8 ∧ s.vm.findClass R_law = some m.cls ∧ (∀ w ∈ lw_tbl, w.before #[Value.ref b] s = true) ∧ va_X b L xs s s.heap ∧ b < s.heap.size ∧ meth.locks = false ∧ (Jvm.Cond.and given_1 narrow_1).before #[Value.ref b] s = true) ∧ c.exceptionTable.toList = [] ∧ meth.name = "law"
theorem st_Mx {xs : Nat → Int32} {N : Int32} : (mG xs N 0 [] [] []).2.1 3000 = xs := by
  funext b
  show (if (3000 : Nat) = 3000 then xs b else if (3000 : Nat) = 3001 then N else 0) = xs b
  rw [if_pos rfl]
theorem st_Mn {xs : Nat → Int32} {N : Int32} : (mG xs N 0 [] [] []).2.1 3001 0 = N := by
  show (if (3001 : Nat) = 3000 then xs 0 else if (3001 : Nat) = 3001 then N else 0) = N
  rw [if_neg (by decide), if_pos rfl]
theorem st_M {xs : Nat → Int32} {N : Int32} {en : am_E} : am_ws en (mG xs N 0 [] [] []) = [] := rfl
theorem whole_start {p : Program} {e : Env} {s : State} {m : MethodId} {below : List Frame} {meth : Method} {c : Code} (l : Launch) (hflags : l.flags = flags0) {b L : Nat} {xs : Nat → Int32} (hL : L ≤ 3072) (C0 : lw_At p s m meth c b L xs) : W p l e room_1 s m #[Value.ref b] below meth c s.heap [] 0 0 (lw_Z below #[Value.ref b] s) (entryFrame m ([Value.ref b] : List Value).toArray 8) := by
  obtain ⟨⟨hx, hcode, hret, hml, hown, hts, hX, hb, hlk, hgv⟩, htab, hnm⟩ := C0
  have hf : ∀ w ∈ st_F, w.before #[Value.ref b] s = true := flat_of_before _ hgv
  obtain ⟨D, hK⟩ := st_K hts
  obtain ⟨en, hen, hB⟩ := st_B (b := b) hflags hts hf
  have hC : am_Ctx 20 c_law p room_1 s m #[Value.ref b] meth c := ⟨⟨hx, hcode, hml, hret⟩, ⟨hown, fun w hw => hts w (List.mem_filter.mp hw).1, hlk, hnm⟩, htab, ⟨by decide, by decide⟩, mf_law⟩
  have hWt : am_Wt D s.heap.size en (mG xs (nI L) 0 [] [] []) s s.heap := by
    refine ⟨fun k q h => by rw [st_M] at h; simp at h, hK, fun k sh h => ?_, ⟨fun i j p q h => by rw [st_M] at h; simp at h, fun k q h => by rw [st_M] at h; simp at h⟩, ⟨L, ?_, ?_, hL, ?_⟩, Nat.zero_le _⟩
    · have h0 : ([] : List (Nat × Nat))[k]? = some sh := h
      simp at h0
    · rw [hen, st_Mx]
      exact hX
    · exact st_Mn.symm
    · rw [hen]
      exact Nat.not_le.mpr hb
  have hR := lw_begin (xs := xs) (m := L / 6 + 1) hL (by omega)
  have hent := am_entry en.1 (as := [.ref 3000]) (n := 8) (by decide)
  have hent2 : ([Value.ref 3000] : List Value).map (am_v en.1) = [Value.ref b] := by
    show [Value.ref (en.1 3000)] = [Value.ref b]
    rw [hen]
  rw [hent2] at hent
  rw [lg_entry_eq]
  refine am_mono ?_ (hR D s.heap.size en p l e room_1 s m #[Value.ref b] below meth c s.heap [] 0 0 (1 + (119 + (1 + (11 + (1 + (L / 6 + 1)))))) (1000 * (1 + (119 + (1 + (11 + (1 + (L / 6 + 1))))))) _ hC hB hWt va_S.rf hent ⟨by omega, by omega, ?_, ?_⟩)
  · rintro t ⟨o, hrun, hend, ⟨⟨v, μ', en', ⟨σ, hq⟩, hext, hlen, ho, hw, hfr⟩, Lo, ⟨hr1, hr2, hr3⟩, hfree⟩ | ⟨q, ho, E, ce, Lo, ⟨μ', en', ⟨σ, hq⟩, -⟩, -⟩⟩
    · cases hq
      refine ⟨o, hrun, hend, ho, ⟨_, ho⟩, hr2, hr3.weaken (fun x hx1 hx2 => absurd hx2 (Nat.not_lt.mpr (hfree x hx1))) (by omega) (by omega)⟩
    · cases hq
  · show 1 + (119 + (1 + (11 + (1 + (L / 6 + 1))))) ≤ 601024
    omega
  · show 1000 * (1 + (119 + (1 + (11 + (1 + (L / 6 + 1)))))) ≤ 7293034
    omega
