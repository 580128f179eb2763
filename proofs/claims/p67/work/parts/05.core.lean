/-! ===== the abstract machine: a memory by places; am_R says what a frame does, in every context of the real machine that holds that memory ===== -/
abbrev am_M : Type := List (Nat × Nat) × (Nat → Nat → Int32) × (Nat → Nat → Int64) × (Nat → Nat → Option Nat)
abbrev am_E : Type := (Nat → Nat) × (Nat → ClassId)
abbrev am_I : Type := Instr × Nat × Nat × Nat
abbrev am_C : Type := am_S × (Nat → Option am_I)
abbrev am_Res : Type := (Option Value ⊕ String) × am_M
/-- a place's value in the real heap -/
def am_v (ad : Nat → Nat) : Value → Value
  | .ref k => .ref (ad k)
  | .int x => .int x
  | .long x => .long x
  | .null => .null
  | .float b => .float b
  | .double b => .double b
  | .retAddr q => .retAddr q
def am_fv (ad : Nat → Nat) (ty : FieldType) (i : Int32) (p : Option Nat) : Value := match ty with
  | .int => .int i
  | .boolean => .int i
  | .byte => .int i
  | _ => va_rf (p.map ad)
/-- the element type of an array kind -/
def am_aty (kd : Nat) : Option FieldType := match kd with
  | 0 => none
  | 1 => some .int
  | 2 => some .long
  | 3 => some .byte
  | 4 => some .boolean
  | _ => some (.object "RankDesk$State")
def am_cell (en : am_E) (μ : am_M) (k : Nat) (kd n : Nat) : va_E := match kd with
  | 0 => .inr (n, (List.range (am_nf n)).map (fun j => am_fv en.1 (am_ty n j) (μ.2.1 k j) (μ.2.2.2 k j)))
  | 1 => .inl (en.2 k, n, .inl (μ.2.1 k))
  | 2 => .inl (en.2 k, n, .inr (.inl (μ.2.2.1 k)))
  | 3 => .inl (en.2 k, n, .inl (μ.2.1 k))
  | 4 => .inl (en.2 k, n, .inl (μ.2.1 k))
  | _ => .inl (en.2 k, n, .inr (.inr (.inr (.inr (fun j => (μ.2.2.2 k j).map en.1)))))
def am_en (en : am_E) (μ : am_M) (k : Nat) (sh : Nat × Nat) : Nat × va_E := (en.1 k, am_cell en μ k sh.1 sh.2)
/-- the memory as a world of the kit -/
def am_ws (en : am_E) (μ : am_M) : va_W := μ.1.zipIdx.map (fun q => am_en en μ q.2 q.1)
theorem am_ws_get {en : am_E} {μ : am_M} {k : Nat} {sh : Nat × Nat} (h : μ.1[k]? = some sh) : (am_ws en μ)[k]? = some (am_en en μ k sh) := by
  simp [am_ws, h]
theorem am_ws_inv {en : am_E} {μ : am_M} {k : Nat} {q : Nat × va_E} (h : (am_ws en μ)[k]? = some q) : ∃ sh, μ.1[k]? = some sh ∧ q = am_en en μ k sh := by
  simp only [am_ws, List.getElem?_map, List.getElem?_zipIdx, Option.map_eq_some_iff] at h
  obtain ⟨a, ⟨b, hb, rfl⟩, rfl⟩ := h
  exact ⟨b, hb, by simp⟩
theorem am_ws_len {en : am_E} {μ : am_M} : (am_ws en μ).length = μ.1.length := by simp [am_ws]
/-- one place written -/
theorem am_ws_set {en : am_E} {μ ν : am_M} {k : Nat} {sh : Nat × Nat} {e : va_E} (h : μ.1[k]? = some sh) (h1 : ν.1 = μ.1) (he : am_cell en ν k sh.1 sh.2 = e)
    (ho : ∀ j kd n, j ≠ k → am_cell en ν j kd n = am_cell en μ j kd n) : (am_ws en μ).set k (en.1 k, e) = am_ws en ν := by
  apply List.ext_getElem?
  intro j
  have hk : k < (am_ws en μ).length := by rw [am_ws_len]; exact (List.getElem?_eq_some_iff.mp h).1
  by_cases hj : j = k
  · subst hj
    rw [List.getElem?_set_self hk, am_ws_get (sh := sh) (by rw [h1]; exact h)]
    simp only [am_en, he]
  · rw [List.getElem?_set_ne (Ne.symm hj)]
    cases hs : μ.1[j]? with
    | none =>
      rw [List.getElem?_eq_none (by rw [am_ws_len]; exact List.getElem?_eq_none_iff.mp hs), List.getElem?_eq_none (by rw [am_ws_len, h1]; exact List.getElem?_eq_none_iff.mp hs)]
    | some s2 =>
      rw [am_ws_get hs, am_ws_get (sh := s2) (by rw [h1]; exact hs)]
      simp only [am_en, ho j s2.1 s2.2 hj]
/-- the arrays' classes -/
def am_KA (en : am_E) (S : List (Nat × Nat)) (U : State) : Prop := ∀ (k : Nat) (sh : Nat × Nat), S[k]? = some sh → ∀ ty : FieldType, am_aty sh.1 = some ty → ArrOfT U (en.2 k) ty ∧ va_RA U (en.2 k) ty
theorem am_KA.moved {en : am_E} {S : List (Nat × Nat)} {u U : State} (hvm : u.vm.Alike U.vm) (h : am_KA en S u) : am_KA en S U := fun k sh hk ty ht => ⟨arrOfT_moved hvm (h k sh hk ty ht).1, (h k sh hk ty ht).2.moved hvm⟩
theorem am_KA.K {D : va_G} {en : am_E} {S : List (Nat × Nat)} {U : State} (hK : va_K D am_cl [] U) (h : am_KA en S U) {k : Nat} {sh : Nat × Nat} (hk : S[k]? = some sh) {ty : FieldType} (ht : am_aty sh.1 = some ty) : va_K D am_cl [(en.2 k, ty)] U := by
  refine ⟨hK.1, fun i q hi => ?_⟩
  match i, hi with
  | 0, hi => cases hi; exact h k sh hk ty ht
  | i + 1, hi => simp at hi
/-- the script, at place 3000, with its length at place 3001 -/
def am_Sc (b0 : Nat → Prop) (en : am_E) (μ : am_M) (U : State) (H : Heap) : Prop := ∃ L : Nat, va_X (en.1 3000) L (μ.2.1 3000) U H ∧ nI L = μ.2.1 3001 0 ∧ L ≤ 3072 ∧ ¬ b0 (en.1 3000)
/-- the memory lies in the heap H, as the tables of U have it -/
def am_Wt (D : va_G) (b0 : Nat → Prop) (en : am_E) (μ : am_M) (U : State) (H : Heap) : Prop :=
  va_P D am_cl (am_ws en μ) H ∧ va_K D am_cl [] U ∧ am_KA en μ.1 U ∧ va_D b0 (am_ws en μ) ∧ am_Sc b0 en μ U H ∧ μ.1.length ≤ 1000
theorem am_Wt.moved {D : va_G} {b0 : Nat → Prop} {en : am_E} {μ : am_M} {u U : State} {H : Heap} (hvm : u.vm.Alike U.vm) (h : am_Wt D b0 en μ u H) : am_Wt D b0 en μ U H := by
  obtain ⟨h1, h2, h3, h4, ⟨L, h5, h6⟩, h7⟩ := h
  exact ⟨h1, va_K.moved hvm h2, h3.moved hvm, h4, ⟨L, h5.moved hvm, h6⟩, h7⟩
/-- texts: the class and entry that name it, the text, its number -/
abbrev am_Tx : Type := List (String × Nat × String × Nat)
def am_N : List Cond := pw_tbl.filter am_nw
theorem am_Nmem {w : Cond} (h : w ∈ pw_tbl) (g : am_nw w = true) : w ∈ am_N := List.mem_filter.mpr ⟨h, g⟩
theorem am_N_warm {w : Cond} {s U : State} (h : w ∈ am_N) (hW : s.WarmedH U.vm) (hZ : va_Nw w s) : va_Nw w U := by
  have hg := (List.mem_filter.mp h).2
  unfold am_nw at hg
  split at hg
  · exact va_Nw.warmM hW hZ
  · exact va_Nw.warmD hW hZ
  · exact va_Nw.warmC hW hZ
  · cases hg
/-- classes that aren't subclasses of one another -/
def am_NC : List (String × String) := []
/-- the texts that are read, by their numbers: their bytes -/
def am_SL : List (Nat × List Int32) := [(0, [109, 97, 116, 114, 105, 120, 32]), (1, [32]), (2, [59]), (3, [114, 111, 119, 32]), (4, [44]), (5, []), (6, [112, 114, 105, 109, 101, 32]), (7, [109, 97, 116, 114, 105, 120, 32, 55]), (8, [109, 97, 116, 114, 105, 120, 32, 50, 32, 48]), (29, [114, 111, 119]), (30, [112, 114, 105, 109, 101]), (31, [109, 97, 116, 114, 105, 120]), (9, [109, 97, 116, 114, 105, 120, 32, 49, 32, 49, 59, 109, 97, 116, 114, 105, 120]), (10, [109, 97, 116, 114, 105, 120, 32, 49, 32, 50, 59, 114, 111, 119, 32, 49, 59]), (11, [109, 97, 116, 114, 105, 120, 32, 49, 32, 50, 59, 114, 111, 119, 32, 49, 44, 50, 44]), (12, [109, 97, 116, 114, 105, 120, 32, 49, 32, 49, 59, 114, 111, 119, 32, 50, 49]), (13, [109, 97, 116, 114, 105, 120, 32, 49, 32, 49, 59, 114, 111, 119, 32, 45, 45]), (14, [109, 97, 116, 114, 105, 120, 32, 49, 32, 49, 59, 114, 111, 119, 32, 49, 59, 114, 111, 119]), (15, [109, 97, 116, 114, 105, 120, 32, 49, 32, 49, 59, 112, 114, 105, 109, 101, 32, 57, 56]), (16, [109, 97, 116, 114, 105, 120, 32, 49, 32, 49, 59, 112, 114, 105, 109, 101, 32, 57, 49]), (17, [109, 97, 116, 114, 105, 120, 32, 49, 32, 49, 59, 112, 114, 105, 109, 101, 32, 50, 59, 112, 114, 105, 109, 101, 32, 50]), (18, [109, 97, 116, 114, 105, 120, 32, 49, 32, 49, 59, 112, 114, 105, 109, 101, 32, 50, 59, 112, 114, 105, 109, 101, 32, 51, 59, 112, 114, 105, 109, 101, 32, 53, 59, 112, 114, 105, 109, 101, 32, 55, 59, 112, 114, 105, 109, 101, 32, 49, 49, 59, 112, 114, 105, 109, 101, 32, 49, 51, 59, 112, 114, 105, 109, 101]), (19, [109, 97, 116, 114, 105, 120, 32, 50, 32, 50, 59, 112, 114, 105, 109, 101, 32, 50, 59, 114, 111, 119, 32, 45, 48, 44, 45, 32, 50, 48, 59])]
/-- all texts -/
def am_TX : am_Tx := [("RankDeskLaw", 60, "matrix ", 0), ("RankDeskLaw", 68, " ", 1), ("RankDeskLaw", 73, ";", 2), ("RankDeskLaw", 75, "row ", 3), ("RankDeskLaw", 77, ",", 4), ("RankDeskLaw", 79, "", 5), ("RankDeskLaw", 81, "prime ", 6), ("RankDeskLaw", 130, "matrix 7", 7), ("RankDeskLaw", 132, "matrix 2 0", 8), ("RankDeskLaw", 134, "matrix 1 1;matrix", 9), ("RankDeskLaw", 136, "matrix 1 2;row 1;", 10), ("RankDeskLaw", 138, "matrix 1 2;row 1,2,", 11), ("RankDeskLaw", 140, "matrix 1 1;row 21", 12), ("RankDeskLaw", 142, "matrix 1 1;row --", 13), ("RankDeskLaw", 144, "matrix 1 1;row 1;row", 14), ("RankDeskLaw", 146, "matrix 1 1;prime 98", 15), ("RankDeskLaw", 148, "matrix 1 1;prime 91", 16), ("RankDeskLaw", 150, "matrix 1 1;prime 2;prime 2", 17), ("RankDeskLaw", 152, "matrix 1 1;prime 2;prime 3;prime 5;prime 7;prime 11;prime 13;prime", 18), ("RankDeskLaw", 154, "matrix 2 2;prime 2;row -0,- 20;", 19), ("RankDesk", 474, "a value is out of range", 20), ("RankDesk", 478, "a bit stands for no row", 21), ("RankDesk", 480, "a bit stands for no column", 22), ("RankDesk", 482, "the sets differ in size", 23), ("RankDesk", 88, "the input buffer is full", 24), ("RankDesk", 459, "no such row", 25), ("RankDesk", 461, "no such column", 26), ("RankDesk", 476, "no such modulus", 27), ("RankDesk", 265, "the rows are not independent", 28), ("RankDesk$Parser", 47, "row", 29), ("RankDesk$Parser", 56, "prime", 30), ("RankDesk$Parser", 65, "matrix", 31)]
/-- a text lies in the heap: its bytes at place 2000 + i -/
def am_str1 (ad : Nat → Nat) (A : Nat → Prop) (U : State) (H : Heap) (q : Nat × List Int32) : Prop :=
  va_O "java/lang/String" (ad (1000 + q.1)) A U H ∧ va_OF "java/lang/String" "coder" "B" (.int 0) (ad (1000 + q.1)) A U H ∧ va_OF "java/lang/String" "value" "[B" (.ref (ad (2000 + q.1))) (ad (1000 + q.1)) A U H ∧ va_T .byte (ad (2000 + q.1)) q.2.length (fun j => .int (q.2.getD j 0)) A U H
/-- the law's primes; Integer's two tables of digits -/
def prT : List Int32 := [2, 3, 5, 7, 11, 13, 17, 19, 23, 29, 31, 37, 41, 43, 47, 53, 59, 61, 67, 71, 73, 79, 83, 89, 97]
def dgO (j : Nat) : Int32 := nI (48 + j % 10)
def dgT (j : Nat) : Int32 := nI (48 + j / 10)
/-- three static arrays, at places 4001 .. 4003 -/
def am_St (ad : Nat → Nat) (A : Nat → Prop) (U : State) (H : Heap) : Prop :=
  (va_Z "RankDeskLaw" "PRIMES" "[I" (.ref (ad 4001)) A U H ∧ va_T .int (ad 4001) 25 (fun j => .int (prT.getD j 0)) A U H) ∧
  (va_Z "java/lang/Integer" "DigitOnes" "[B" (.ref (ad 4002)) A U H ∧ va_T .byte (ad 4002) 100 (fun j => .int (dgO j)) A U H) ∧
  (va_Z "java/lang/Integer" "DigitTens" "[B" (.ref (ad 4003)) A U H ∧ va_T .byte (ad 4003) 100 (fun j => .int (dgT j)) A U H)
/-- what lies below b0 and never changes: two statics of Throwable, the texts -/
def am_Base (Tx : am_Tx) (b0 : Nat → Prop) (ad : Nat → Nat) (l : Launch) (s : State) (H : Heap) : Prop :=
  l.stackTraces = false ∧ (∀ q : Nat, H.size ≤ q → b0 q) ∧ vx_Zq Bundle.tN "UNASSIGNED_STACK" Bundle.steD b0 s H ∧ vx_Zq Bundle.tN "SUPPRESSED_SENTINEL" Bundle.listD b0 s H ∧
  (∀ q ∈ Tx, vk_R q.1 q.2.1 q.2.2.1 (ad (1000 + q.2.2.2)) s) ∧ (∀ w ∈ am_N, va_Nw w s) ∧ (∀ q ∈ am_NC, va_Nc q.1 q.2 s) ∧ va_AO "RankDesk$State" s ∧
  (∀ q ∈ am_SL, am_str1 ad b0 s H q) ∧ va_Z "java/lang/String" "COMPACT_STRINGS" "Z" (.int 1) b0 s H ∧ (va_Z "jdk/internal/util/Preconditions" "SIOOBE_FORMATTER" "Ljava/util/function/BiFunction;" .null b0 s H ∨ va_Z "jdk/internal/util/Preconditions" "SIOOBE_FORMATTER" "Ljava/util/function/BiFunction;" (.ref (ad 4000)) b0 s H) ∧ am_St ad b0 s H
theorem am_Base.moved {Tx : am_Tx} {b0 : Nat → Prop} {ad : Nat → Nat} {l : Launch} {s U : State} {H H1 : Heap} (hW : s.WarmedH U.vm) (hz : H.size ≤ H1.size) (hq : ∀ a : Nat, a < H.size → ¬ b0 a → H1[a]? = H[a]?) (h : am_Base Tx b0 ad l s H) : am_Base Tx b0 ad l U H1 := by
  obtain ⟨h1, h2, h3, h4, h5, h6, h7, h8, h9, h10, h11, ⟨s1, s2⟩, ⟨s3, s4⟩, s5, s6⟩ := h
  exact ⟨h1, fun q hq => h2 q (Nat.le_trans hz hq), (vx_Zq.moved hW.alike h3).kept hq, (vx_Zq.moved hW.alike h4).kept hq, fun q hm => vk_R.warm hW (h5 q hm), fun w hw => am_N_warm hw hW (h6 w hw), fun q hq => (h7 q hq).moved hW.alike, h8.moved hW.alike, fun q hm => ⟨((h9 q hm).1.moved hW.alike).kept hq, ((h9 q hm).2.1.moved hW.alike).kept hq, ((h9 q hm).2.2.1.moved hW.alike).kept hq, ((h9 q hm).2.2.2.moved hW.alike).kept hq⟩, (va_Z.moved hW.alike h10).kept hq, h11.imp (fun z => (va_Z.moved hW.alike z).kept hq) (fun z => (va_Z.moved hW.alike z).kept hq), ⟨(va_Z.moved hW.alike s1).kept hq, (s2.moved hW.alike).kept hq⟩, ⟨(va_Z.moved hW.alike s3).kept hq, (s4.moved hW.alike).kept hq⟩, (va_Z.moved hW.alike s5).kept hq, (s6.moved hW.alike).kept hq⟩
/-- two environments that agree but on the places from n to n1 -/
def am_ext (n n1 : Nat) (en en' : am_E) : Prop := (∀ k, ¬ (n ≤ k ∧ k < n1) → en'.1 k = en.1 k) ∧ ∀ k, ¬ (n ≤ k ∧ k < n1) → en'.2 k = en.2 k
theorem am_ext.rf {n n1 : Nat} {en : am_E} : am_ext n n1 en en := ⟨fun _ _ => rfl, fun _ _ => rfl⟩
theorem am_ext.tr {n n1 n2 : Nat} {e0 e1 e2 : am_E} (h : am_ext n n1 e0 e1) (h1 : am_ext n1 n2 e1 e2) (hn : n ≤ n1) (hn2 : n1 ≤ n2) : am_ext n n2 e0 e2 :=
  ⟨fun k hk => (h1.1 k (by omega)).trans (h.1 k (by omega)), fun k hk => (h1.2 k (by omega)).trans (h.2 k (by omega))⟩
theorem am_ext.same {n : Nat} {e0 e1 : am_E} (h : am_ext n n e0 e1) : e1 = e0 := Prod.ext (funext fun k => h.1 k (by omega)) (funext fun k => h.2 k (by omega))
def am_tab (c : am_S) : List ExceptionTableEntry := match c.2.2.2.2 with
  | none => []
  | some h => tableOf h
def am_cw (c : am_S) : Cond := match c.2.2.2.2 with
  | none => .code c.1 c.2.1 c.2.2.1 c.2.2.2.1
  | some h => .codeWith c.1 c.2.1 c.2.2.1 c.2.2.2.1 h
/-- an own class's name, a field's declaration -/
def am_q (ci : Nat) : vw_C := am_cl.getD ci (RX0, TX0, 4)
def am_callW (own : String) (idx a : Nat) : List Cond := [.initialized (am_sig a).1.cls, am_cw (am_sig a)]
/-- the words that an instruction needs -/
def am_need (own : String) (e : am_I) : List Cond := match e.1 with
  | .getfield idx => [.fieldLink own idx ((am_q e.2.2.1).2.1 e.2.2.2).1 ((am_q e.2.2.1).2.1 e.2.2.2).2.1 ((am_q e.2.2.1).2.1 e.2.2.2).2.2.1]
  | .putfield idx => [.fieldLink own idx ((am_q e.2.2.1).2.1 e.2.2.2).1 ((am_q e.2.2.1).2.1 e.2.2.2).2.1 ((am_q e.2.2.1).2.1 e.2.2.2).2.2.1]
  | .new idx => if e.2.2.2 = 0 then [.classLink own idx (am_q e.2.2.1).1, .instantiable (am_q e.2.2.1).1 (am_q e.2.2.1).2.2, .initialized (am_q e.2.2.1).1] else [.classLink own idx (am_X e.2.2.1).1, .initialized (am_X e.2.2.1).1]
  | .invokevirtual idx => [.methodLink own idx (am_sig e.2.2.1).1, .instanceMethod (am_sig e.2.2.1).1, .selects (am_sig e.2.2.1).1.cls (am_sig e.2.2.1).1 (am_sig e.2.2.1).1, .initialized (am_sig e.2.2.1).1.cls, am_cw (am_sig e.2.2.1)]
  | .invokestatic idx => [cond (Nat.ble 64 e.2.2.2) (.methodLinkNest own idx (am_sig e.2.2.1).1 "RankDesk") (.methodLink own idx (am_sig e.2.2.1).1), .static (am_sig e.2.2.1).1, .initialized (am_sig e.2.2.1).1.cls, am_cw (am_sig e.2.2.1)]
  | .invokespecial idx => cond (Nat.beq e.2.2.2 64) [.methodLink own idx (am_sig e.2.2.1).1, .instanceMethod (am_sig e.2.2.1).1, am_cw (am_sig e.2.2.1)] [.methodLink own idx (am_sig e.2.2.1).1, .instanceMethod (am_sig e.2.2.1).1, .initialized (am_sig e.2.2.1).1.cls, am_cw (am_sig e.2.2.1)]
  | .ldc2_w idx => [.constantLong own idx (Int64.ofNat e.2.2.1)]
  | .ldc_w idx => if e.2.2.2 = 0 then [.constant own idx (Int32.ofNat e.2.2.1)] else []
  | .ldc idx => if e.2.2.2 = 0 then [.constant own idx (Int32.ofNat e.2.2.1)] else []
  | .newarray t => [.arrayClass (newarray.typeOf t)]
  | .anewarray idx => [.classLink own idx (am_q e.2.2.1).1, .arrayOver (.object (am_q e.2.2.1).1)]
  | _ => []
/-- what a call asks of the callee's signature, with n parameters -/
def am_iv (c : am_S) (n : Nat) : Prop := (c.1.cls ≠ "java/lang/invoke/MethodHandle" ∧ c.1.cls ≠ "java/lang/invoke/VarHandle" ∧ (parseMethodDescriptor c.1.desc).map (fun d => d.parameters.length) = some n) ∧ c.2.2.1 ≤ 40
/-- a method's table is right -/
def am_MF0 (c : am_C) : Prop := (∀ pc e, c.2 pc = some e → decode c.1.2.1 pc = .ok (e.1, e.2.1)) ∧ (∀ pc e, c.2 pc = some e → ∀ w ∈ am_need c.1.1.cls e, w ∈ pw_tbl)
def am_MF (c : am_C) : Prop := am_MF0 c ∧ am_cw c.1 ∈ am_W ∧ plainFor c.1.1 = true
def am_Ctx (d : Nat) (c : am_C) (p : Program) (Rm : Room) (s : State) (m : MethodId) (args : Array Value) (meth : Method) (cc : Code) : Prop :=
  (p.tables.exec = Jvm.exec ∧ cc.code = c.1.2.1 ∧ cc.maxLocals = c.1.2.2.1 ∧ meth.sig.returnType = c.1.2.2.2.1) ∧ (s.vm.findClass c.1.1.cls = some m.cls ∧ (∀ w ∈ am_W, w.before args s = true) ∧ meth.locks = false ∧ meth.name = c.1.1.name) ∧
  cc.exceptionTable.toList = am_tab c.1 ∧ (8 + d ≤ Rm.frames ∧ 200 + 64 * d ≤ Rm.locals) ∧ am_MF0 c
def am_Qc (D : va_G) (b0 : Nat → Prop) (en : am_E) (n : Nat) (Q : am_Res → Prop) : Array Value → State → Outcome → State → Prop := fun _ st o t =>
  ∃ (v : Option Value) (μ' : am_M) (en' : am_E), Q (.inl v, μ') ∧ am_ext n μ'.1.length en en' ∧ n ≤ μ'.1.length ∧ o = .returned (v.map (am_v en'.1)) ∧ am_Wt D b0 en' μ' t t.heap ∧ va_F b0 st t
def am_XC (D : va_G) (b0 : Nat → Prop) (en : am_E) (n : Nat) (Q : am_Res → Prop) : String → State → State → Prop := fun E st t =>
  ∃ (μ' : am_M) (en' : am_E), Q (.inr E, μ') ∧ am_ext n μ'.1.length en en' ∧ n ≤ μ'.1.length ∧ am_Wt D b0 en' μ' t t.heap ∧ va_F b0 st t
/-- the locals that are known -/
def am_prs (ad : Nat → Nat) : Nat → List (Option Value) → List (Nat × Value)
  | _, [] => []
  | i, none :: l => am_prs ad (i + 1) l
  | i, some v :: l => (i, am_v ad v) :: am_prs ad (i + 1) l
abbrev am_F (b0 : Nat → Prop) : Nat → Prop := b0
/-- from this frame, with this memory, at most k new cells and calls d deep: the method ends with a result of which Q holds -/
def am_R (Tx : am_Tx) (d k : Nat) (c : am_C) (pc : Nat) (ls : List (Option Value)) (st : List Value) (μ : am_M) (Q : am_Res → Prop) : Prop :=
  ∀ (D : va_G) (b0 : Nat → Prop) (en : am_E) (p : Program) (l : Launch) (e : Env) (Rm : Room) (s : State) (m : MethodId) (args : Array Value) (below : List Frame) (meth : Method) (cc : Code) (H : Heap) (locs : List Loc) (cells slots mc ms : Nat) (la : Array Slot),
    am_Ctx d c p Rm s m args meth cc → am_Base Tx b0 en.1 l s s.heap → am_Wt D b0 en μ s H → va_S (am_F b0) s.heap H locs → lv_has la c.1.2.2.1 (am_prs en.1 0 ls) →
    (cells + k ≤ mc ∧ slots + 1000 * k ≤ ms ∧ mc ≤ Rm.cells ∧ ms ≤ Rm.slots) →
    W p l e Rm s m args below meth cc H locs cells slots (vx_MQ below (am_Qc D b0 en μ.1.length Q) (am_XC D b0 en μ.1.length Q) args s mc ms (am_F b0)) (F0 m pc la (st.map (am_v en.1)))
/-- the same, with an exception of class E thrown over the frame -/
def am_Rx (Tx : am_Tx) (d k : Nat) (c : am_C) (pc : Nat) (ls : List (Option Value)) (E : String) (μ : am_M) (Q : am_Res → Prop) : Prop :=
  ∀ (D : va_G) (b0 : Nat → Prop) (en : am_E) (p : Program) (l : Launch) (e : Env) (Rm : Room) (s : State) (m : MethodId) (args : Array Value) (below : List Frame) (meth : Method) (cc : Code) (H : Heap) (locs : List Loc) (cells slots mc ms : Nat) (la : Array Slot) (rest : List Value) (q : Addr) (ce : Cell),
    am_Ctx d c p Rm s m args meth cc → am_Base Tx b0 en.1 l s s.heap → am_Wt D b0 en μ s H → va_S (am_F b0) s.heap H locs → lv_has la c.1.2.2.1 (am_prs en.1 0 ls) →
    (cells + k ≤ mc ∧ slots + 1000 * k ≤ ms ∧ mc ≤ Rm.cells ∧ ms ≤ Rm.slots) → H[q]? = some ce → ce.vm = .none → s.vm.findClass E = some ce.cls →
    vx_W p l e Rm s m args below meth cc H locs cells slots (vx_MQ below (am_Qc D b0 en μ.1.length Q) (am_XC D b0 en μ.1.length Q) args s mc ms (am_F b0)) (F0 m pc la rest) q
theorem am_mono {p : Program} {l : Launch} {e : Env} {R : Room} {s : State} {m : MethodId} {args : Array Value} {below : List Frame} {meth : Method} {c : Code} {H : Heap} {locs : List Loc} {cells slots : Nat} {Q1 Q2 : State → Prop} {g : JFrame} (h : ∀ t, Q1 t → Q2 t) (k : W p l e R s m args below meth c H locs cells slots Q1 g) : W p l e R s m args below meth c H locs cells slots Q2 g := by
  intro T hT X
  obtain ⟨t, a, b⟩ := k T hT X
  exact ⟨t, a, h t b⟩
theorem am_monoX {p : Program} {l : Launch} {e : Env} {R : Room} {s : State} {m : MethodId} {args : Array Value} {below : List Frame} {meth : Method} {c : Code} {H : Heap} {locs : List Loc} {cells slots : Nat} {Q1 Q2 : State → Prop} {g : JFrame} {q : Addr} (h : ∀ t, Q1 t → Q2 t) (k : vx_W p l e R s m args below meth c H locs cells slots Q1 g q) : vx_W p l e R s m args below meth c H locs cells slots Q2 g q := by
  intro T hT X
  obtain ⟨t, a, b⟩ := k T hT X
  exact ⟨t, a, h t b⟩
theorem am_MQ_mono {below : List Frame} {Q1 Q2 : Array Value → State → Outcome → State → Prop} {X1 X2 : String → State → State → Prop} {a : Array Value} {s : State} {mc ms : Nat} {free : Addr → Prop} (hq : ∀ o t, Q1 a s o t → Q2 a s o t) (hx : ∀ E t, X1 E s t → X2 E s t) (t : State) (h : vx_MQ below Q1 X1 a s mc ms free t) : vx_MQ below Q2 X2 a s mc ms free t := by
  obtain ⟨o, h1, h2, h3⟩ := h
  refine ⟨o, h1, h2, ?_⟩
  rcases h3 with ⟨h3, h4⟩ | ⟨q, h3, E, ce, L, h4, h5⟩
  · exact Or.inl ⟨hq o t h3, h4⟩
  · exact Or.inr ⟨q, h3, E, ce, L, hx E t h4, h5⟩
theorem am_ext_MQ {D : va_G} {b0 : Nat → Prop} {n n1 : Nat} {e0 e1 : am_E} {Q : am_Res → Prop} {below : List Frame} {a : Array Value} {s : State} {mc ms : Nat} {free : Addr → Prop} (h : am_ext n n1 e0 e1) (hn : n ≤ n1) (t : State)
    (k : vx_MQ below (am_Qc D b0 e1 n1 Q) (am_XC D b0 e1 n1 Q) a s mc ms free t) : vx_MQ below (am_Qc D b0 e0 n Q) (am_XC D b0 e0 n Q) a s mc ms free t := by
  refine am_MQ_mono ?_ ?_ t k
  · rintro o t ⟨v, μ', en', h1, h2, h3, h4, h5, h6⟩
    exact ⟨v, μ', en', h1, h.tr h2 hn h3, Nat.le_trans hn h3, h4, h5, h6⟩
  · rintro E t ⟨μ', en', h1, h2, h3, h5, h6⟩
    exact ⟨μ', en', h1, h.tr h2 hn h3, Nat.le_trans hn h3, h5, h6⟩
theorem am_QMQ {D : va_G} {b0 : Nat → Prop} {n : Nat} {e0 : am_E} {Q Q2 : am_Res → Prop} {below : List Frame} {a : Array Value} {s : State} {mc ms : Nat} {free : Addr → Prop} (hQ : ∀ r, Q r → Q2 r) (t : State)
    (k : vx_MQ below (am_Qc D b0 e0 n Q) (am_XC D b0 e0 n Q) a s mc ms free t) : vx_MQ below (am_Qc D b0 e0 n Q2) (am_XC D b0 e0 n Q2) a s mc ms free t := by
  refine am_MQ_mono ?_ ?_ t k
  · rintro o t ⟨v, μ', en', h1, h2⟩
    exact ⟨v, μ', en', hQ _ h1, h2⟩
  · rintro E t ⟨μ', en', h1, h2⟩
    exact ⟨μ', en', hQ _ h1, h2⟩
/-- a weaker end -/
theorem am_R.mono {Tx : am_Tx} {d k : Nat} {c : am_C} {pc : Nat} {ls : List (Option Value)} {st : List Value} {μ : am_M} {Q Q2 : am_Res → Prop} (h : am_R Tx d k c pc ls st μ Q) (hQ : ∀ r, Q r → Q2 r) : am_R Tx d k c pc ls st μ Q2 := by
  intro D b0 en p l e Rm s m args below meth cc H locs cells slots mc ms la C B Wd S L hk
  exact am_mono (am_QMQ hQ) (h D b0 en p l e Rm s m args below meth cc H locs cells slots mc ms la C B Wd S L hk)
/-- more room -/
theorem am_R.room {Tx : am_Tx} {d d' k k' : Nat} {c : am_C} {pc : Nat} {ls : List (Option Value)} {st : List Value} {μ : am_M} {Q : am_Res → Prop} (h : am_R Tx d k c pc ls st μ Q) (hd : d ≤ d') (hk : k ≤ k') : am_R Tx d' k' c pc ls st μ Q := by
  intro D b0 en p l e Rm s m args below meth cc H locs cells slots mc ms la C B Wd S L hh
  obtain ⟨c1, c2, c3, ⟨c4, c5⟩, c6⟩ := C
  exact h D b0 en p l e Rm s m args below meth cc H locs cells slots mc ms la ⟨c1, c2, c3, ⟨by omega, by omega⟩, c6⟩ B Wd S L ⟨by omega, by omega, hh.2.2⟩
