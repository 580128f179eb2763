/-! ===== the rules of am_R ===== -/
theorem am_v_cat (ad : Nat → Nat) (v : Value) : (am_v ad v).category = v.category := by cases v <;> rfl
theorem am_prs_mem {ad : Nat → Nat} : ∀ (ls : List (Option Value)) (o i : Nat) (v : Value), ls[i]? = some (some v) → (o + i, am_v ad v) ∈ am_prs ad o ls
  | [], o, i, v, h => by simp at h
  | none :: l, o, 0, v, h => by simp at h
  | some w :: l, o, 0, v, h => by
    simp only [List.getElem?_cons_zero, Option.some.injEq] at h
    subst h
    exact List.mem_cons_self
  | none :: l, o, i + 1, v, h => by
    have h2 := am_prs_mem (ad := ad) l (o + 1) i v (by simpa using h)
    rw [show o + (i + 1) = o + 1 + i by omega]
    exact h2
  | some w :: l, o, i + 1, v, h => by
    have h2 := am_prs_mem (ad := ad) l (o + 1) i v (by simpa using h)
    rw [show o + (i + 1) = o + 1 + i by omega]
    exact List.mem_cons_of_mem _ h2
/-- a local is read -/
theorem am_ld {la : Array Slot} {n : Nat} {ad : Nat → Nat} {ls : List (Option Value)} (L : lv_has la n (am_prs ad 0 ls)) {i : Nat} {v : Value} (h : ls[i]? = some (some v)) : la[i]? = some (.val (am_v ad v)) := by
  have h2 := L.2.2 (0 + i, am_v ad v) (am_prs_mem ls 0 i v h)
  rwa [Nat.zero_add] at h2
def am_c2 (x : Option Value) : Bool := match x with
  | some (.long _) => true
  | some (.double _) => true
  | _ => false
/-- a local is written: a long takes two places; half a long that is left is unknown -/
def am_st : List (Option Value) → Nat → Value → List (Option Value)
  | [], _, _ => []
  | _ :: l, 0, v => some v :: (match v with
    | .long _ => (match l with
      | [] => []
      | _ :: l => none :: l)
    | .double _ => (match l with
      | [] => []
      | _ :: l => none :: l)
    | _ => l)
  | x :: l, i + 1, v => (match i with
    | 0 => cond (am_c2 x) none x
    | _ + 1 => x) :: am_st l i v
theorem am_prs_ge {ad : Nat → Nat} : ∀ (ls : List (Option Value)) (o : Nat) (q : Nat × Value), q ∈ am_prs ad o ls → o ≤ q.1
  | [], o, q, h => by simp [am_prs] at h
  | none :: l, o, q, h => by have := am_prs_ge l (o + 1) q h; omega
  | some w :: l, o, q, h => by
    rcases List.mem_cons.mp h with h | h
    · subst h; exact Nat.le_refl _
    · have := am_prs_ge l (o + 1) q h; omega
theorem am_c2_v {ad : Nat → Nat} {w : Value} (h : am_c2 (some w) = false) : ¬ (am_v ad w).category = 2 := by
  cases w <;> simp_all [am_c2, am_v, Value.category]
theorem am_st_mem {ad : Nat → Nat} {v : Value} : ∀ (ls : List (Option Value)) (o i : Nat) (q : Nat × Value), q ∈ am_prs ad o (am_st ls i v) → q = (o + i, am_v ad v) ∨ (q ∈ am_prs ad o ls ∧ q.1 ≠ o + i ∧ ¬ (q.1 + 1 = o + i ∧ q.2.category = 2) ∧ (v.category = 2 → q.1 ≠ o + i + 1))
  | [], o, i, q, h => by cases i <;> simp [am_st, am_prs] at h
  | x :: l, o, 0, q, h => by
    have key : ∀ l2 : List (Option Value), q ∈ am_prs ad o (some v :: l2) → (∀ q2, q2 ∈ am_prs ad (o + 1) l2 → q2 ∈ am_prs ad (o + 1) l ∧ (v.category = 2 → q2.1 ≠ o + 1)) → q = (o + 0, am_v ad v) ∨ (q ∈ am_prs ad o (x :: l) ∧ q.1 ≠ o + 0 ∧ ¬ (q.1 + 1 = o + 0 ∧ q.2.category = 2) ∧ (v.category = 2 → q.1 ≠ o + 0 + 1)) := by
      intro l2 h hl
      rcases List.mem_cons.mp h with h | h
      · exact Or.inl h
      · obtain ⟨h1, h2⟩ := hl q h
        have hg := am_prs_ge l (o + 1) q h1
        refine Or.inr ⟨?_, by omega, by omega, h2⟩
        cases x with
        | none => exact h1
        | some w => exact List.mem_cons_of_mem _ h1
    have k2 : ∀ q2, q2 ∈ am_prs ad (o + 1) (match l with | [] => [] | _ :: l => none :: l) → q2 ∈ am_prs ad (o + 1) l ∧ q2.1 ≠ o + 1 := by
      intro q2 h2
      cases l with
      | nil => simp [am_prs] at h2
      | cons y l =>
        have hg := am_prs_ge l (o + 1 + 1) q2 h2
        refine ⟨?_, by omega⟩
        cases y with
        | none => exact h2
        | some w => exact List.mem_cons_of_mem _ h2
    cases v with
    | long z => exact key _ h (fun q2 h2 => ⟨(k2 q2 h2).1, fun _ => (k2 q2 h2).2⟩)
    | double z => exact key _ h (fun q2 h2 => ⟨(k2 q2 h2).1, fun _ => (k2 q2 h2).2⟩)
    | _ => exact key _ h (fun q2 h2 => ⟨h2, fun z => by simp [Value.category] at z⟩)
  | x :: l, o, i + 1, q, h => by
    have tail : q ∈ am_prs ad (o + 1) (am_st l i v) → q = (o + (i + 1), am_v ad v) ∨ (q ∈ am_prs ad o (x :: l) ∧ q.1 ≠ o + (i + 1) ∧ ¬ (q.1 + 1 = o + (i + 1) ∧ q.2.category = 2) ∧ (v.category = 2 → q.1 ≠ o + (i + 1) + 1)) := by
      intro h
      rcases am_st_mem l (o + 1) i q h with h | ⟨h1, h2, h3, h4⟩
      · exact Or.inl (by rw [h, show o + 1 + i = o + (i + 1) by omega])
      · refine Or.inr ⟨?_, by omega, fun z => h3 ⟨by omega, z.2⟩, fun z => by have := h4 z; omega⟩
        cases x with
        | none => exact h1
        | some w => exact List.mem_cons_of_mem _ h1
    cases i with
    | zero =>
      cases x with
      | none => exact tail h
      | some w =>
        cases hc : am_c2 (some w) with
        | true =>
          refine tail ?_
          have h' : q ∈ am_prs ad o (cond (am_c2 (some w)) none (some w) :: am_st l 0 v) := h
          rw [hc] at h'
          exact h'
        | false =>
          have h' : q ∈ am_prs ad o (cond (am_c2 (some w)) none (some w) :: am_st l 0 v) := h
          rw [hc] at h'
          rcases List.mem_cons.mp h' with h' | h'
          · subst h'
            exact Or.inr ⟨List.mem_cons_self, by simp, fun z => am_c2_v hc z.2, fun _ => by show ¬ o = _; omega⟩
          · exact tail h'
    | succ i =>
      cases x with
      | none => exact tail h
      | some w =>
        rcases List.mem_cons.mp h with h | h
        · subst h
          exact Or.inr ⟨List.mem_cons_self, by show ¬ o = _; omega, fun z => by have z1 : o + 1 = o + (i + 1 + 1) := z.1; omega, fun _ => by show ¬ o = _; omega⟩
        · exact tail h
theorem am_lv_sub {la : Array Slot} {n : Nat} {l l' : List (Nat × Value)} (h : lv_has la n l) (hs : ∀ q ∈ l', q ∈ l) : lv_has la n l' := ⟨h.1, h.2.1, fun q hq => h.2.2 q (hs q hq)⟩
theorem am_st1 {la : Array Slot} {n : Nat} {ad : Nat → Nat} {ls : List (Option Value)} {i : Nat} {v : Value} (hl : lv_has la n ((i, am_v ad v) :: (am_prs ad 0 ls).filter (fun q => !(q.1 == i) && !(q.1 + 1 == i && q.2.category == 2)))) : lv_has la n (am_prs ad 0 (am_st ls i v)) := by
  refine am_lv_sub hl fun q hq => ?_
  rcases am_st_mem ls 0 i q hq with h | ⟨h1, h2, h3, -⟩
  · rw [Nat.zero_add] at h
    exact List.mem_cons.mpr (Or.inl h)
  · rw [Nat.zero_add] at h2 h3
    refine List.mem_cons_of_mem _ (List.mem_filter.mpr ⟨h1, ?_⟩)
    simp only [Bool.and_eq_true, Bool.not_eq_true', beq_eq_false_iff_ne, ne_eq, Bool.and_eq_false_iff]
    refine ⟨h2, ?_⟩
    by_cases h4 : q.1 + 1 = i
    · exact Or.inr (fun z => h3 ⟨h4, z⟩)
    · exact Or.inl h4
theorem am_st2 {la : Array Slot} {n : Nat} {ad : Nat → Nat} {ls : List (Option Value)} {i : Nat} {v : Value} (h2 : v.category = 2) (hl : lv_has la n ((i, am_v ad v) :: (am_prs ad 0 ls).filter (fun q => !(q.1 == i) && (!(q.1 == i + 1) && !(q.1 + 1 == i && q.2.category == 2))))) : lv_has la n (am_prs ad 0 (am_st ls i v)) := by
  refine am_lv_sub hl fun q hq => ?_
  rcases am_st_mem ls 0 i q hq with h | ⟨h1, h2', h3, h4⟩
  · rw [Nat.zero_add] at h
    exact List.mem_cons.mpr (Or.inl h)
  · rw [Nat.zero_add] at h2' h3 h4
    refine List.mem_cons_of_mem _ (List.mem_filter.mpr ⟨h1, ?_⟩)
    simp only [Bool.and_eq_true, Bool.not_eq_true', beq_eq_false_iff_ne, ne_eq, Bool.and_eq_false_iff]
    refine ⟨h2', h4 h2, ?_⟩
    by_cases h5 : q.1 + 1 = i
    · exact Or.inr (fun z => h3 ⟨h5, z⟩)
    · exact Or.inl h5

theorem R_iconst {Tx : am_Tx} {d k : Nat} {c : am_C} {pc a b : Nat} {ls : List (Option Value)} {st : List Value} {μ : am_M} {Q : am_Res → Prop} {n : Int} {v : Int32} (hc : c.2 pc = some (.iconst n, 1, a, b)) (hv : Int32.ofInt n = v) (h : am_R Tx d k c (pc + 1) ls (.int v :: st) μ Q) : am_R Tx d k c pc ls (st) μ Q := by
  intro D b0 en p l e Rm s m args below meth cc H locs cells slots mc ms la C B Wd S L hk
  have hdg := C.2.2.2.2.1 pc _ hc
  exact lv_iconst C.1.1 C.1.2.1 hdg hv (h D b0 en p l e Rm s m args below meth cc H locs cells slots mc ms la C B Wd S L hk)
theorem R_bipush {Tx : am_Tx} {d k : Nat} {c : am_C} {pc a b : Nat} {ls : List (Option Value)} {st : List Value} {μ : am_M} {Q : am_Res → Prop} {n : Int} {v : Int32} (hc : c.2 pc = some (.bipush n, 2, a, b)) (hv : (Int8.ofInt n).toInt32 = v) (h : am_R Tx d k c (pc + 2) ls (.int v :: st) μ Q) : am_R Tx d k c pc ls (st) μ Q := by
  intro D b0 en p l e Rm s m args below meth cc H locs cells slots mc ms la C B Wd S L hk
  have hdg := C.2.2.2.2.1 pc _ hc
  exact lv_bipush C.1.1 C.1.2.1 hdg hv (h D b0 en p l e Rm s m args below meth cc H locs cells slots mc ms la C B Wd S L hk)
theorem R_sipush {Tx : am_Tx} {d k : Nat} {c : am_C} {pc a b : Nat} {ls : List (Option Value)} {st : List Value} {μ : am_M} {Q : am_Res → Prop} {n : Int} {v : Int32} (hc : c.2 pc = some (.sipush n, 3, a, b)) (hv : (Int16.ofInt n).toInt32 = v) (h : am_R Tx d k c (pc + 3) ls (.int v :: st) μ Q) : am_R Tx d k c pc ls (st) μ Q := by
  intro D b0 en p l e Rm s m args below meth cc H locs cells slots mc ms la C B Wd S L hk
  have hdg := C.2.2.2.2.1 pc _ hc
  exact lv_sipush C.1.1 C.1.2.1 hdg hv (h D b0 en p l e Rm s m args below meth cc H locs cells slots mc ms la C B Wd S L hk)
theorem R_lconst {Tx : am_Tx} {d k : Nat} {c : am_C} {pc a b : Nat} {ls : List (Option Value)} {st : List Value} {μ : am_M} {Q : am_Res → Prop} {n : Fin 2} {v : Int64} (hc : c.2 pc = some (.lconst n, 1, a, b)) (hv : Int64.ofNat (n : Nat) = v) (h : am_R Tx d k c (pc + 1) ls (.long v :: st) μ Q) : am_R Tx d k c pc ls (st) μ Q := by
  intro D b0 en p l e Rm s m args below meth cc H locs cells slots mc ms la C B Wd S L hk
  have hdg := C.2.2.2.2.1 pc _ hc
  exact lv_lconst C.1.1 C.1.2.1 hdg hv (h D b0 en p l e Rm s m args below meth cc H locs cells slots mc ms la C B Wd S L hk)
theorem R_null {Tx : am_Tx} {d k : Nat} {c : am_C} {pc a b : Nat} {ls : List (Option Value)} {st : List Value} {μ : am_M} {Q : am_Res → Prop} (hc : c.2 pc = some (.aconst_null, 1, a, b)) (h : am_R Tx d k c (pc + 1) ls (.null :: st) μ Q) : am_R Tx d k c pc ls (st) μ Q := by
  intro D b0 en p l e Rm s m args below meth cc H locs cells slots mc ms la C B Wd S L hk
  have hdg := C.2.2.2.2.1 pc _ hc
  exact lv_null C.1.1 C.1.2.1 hdg (h D b0 en p l e Rm s m args below meth cc H locs cells slots mc ms la C B Wd S L hk)
theorem R_iadd {Tx : am_Tx} {d k : Nat} {c : am_C} {pc a b : Nat} {ls : List (Option Value)} {st : List Value} {μ : am_M} {Q : am_Res → Prop} {x y : Int32} (hc : c.2 pc = some (.iadd, 1, a, b)) (h : am_R Tx d k c (pc + 1) ls (.int (x + y) :: st) μ Q) : am_R Tx d k c pc ls (.int y :: .int x :: st) μ Q := by
  intro D b0 en p l e Rm s m args below meth cc H locs cells slots mc ms la C B Wd S L hk
  have hdg := C.2.2.2.2.1 pc _ hc
  exact lv_iadd C.1.1 C.1.2.1 hdg (h D b0 en p l e Rm s m args below meth cc H locs cells slots mc ms la C B Wd S L hk)
theorem R_isub {Tx : am_Tx} {d k : Nat} {c : am_C} {pc a b : Nat} {ls : List (Option Value)} {st : List Value} {μ : am_M} {Q : am_Res → Prop} {x y : Int32} (hc : c.2 pc = some (.isub, 1, a, b)) (h : am_R Tx d k c (pc + 1) ls (.int (x - y) :: st) μ Q) : am_R Tx d k c pc ls (.int y :: .int x :: st) μ Q := by
  intro D b0 en p l e Rm s m args below meth cc H locs cells slots mc ms la C B Wd S L hk
  have hdg := C.2.2.2.2.1 pc _ hc
  exact lv_isub C.1.1 C.1.2.1 hdg (h D b0 en p l e Rm s m args below meth cc H locs cells slots mc ms la C B Wd S L hk)
theorem R_imul {Tx : am_Tx} {d k : Nat} {c : am_C} {pc a b : Nat} {ls : List (Option Value)} {st : List Value} {μ : am_M} {Q : am_Res → Prop} {x y : Int32} (hc : c.2 pc = some (.imul, 1, a, b)) (h : am_R Tx d k c (pc + 1) ls (.int (x * y) :: st) μ Q) : am_R Tx d k c pc ls (.int y :: .int x :: st) μ Q := by
  intro D b0 en p l e Rm s m args below meth cc H locs cells slots mc ms la C B Wd S L hk
  have hdg := C.2.2.2.2.1 pc _ hc
  exact lv_imul C.1.1 C.1.2.1 hdg (h D b0 en p l e Rm s m args below meth cc H locs cells slots mc ms la C B Wd S L hk)
theorem R_ineg {Tx : am_Tx} {d k : Nat} {c : am_C} {pc a b : Nat} {ls : List (Option Value)} {st : List Value} {μ : am_M} {Q : am_Res → Prop} {x : Int32} (hc : c.2 pc = some (.ineg, 1, a, b)) (h : am_R Tx d k c (pc + 1) ls (.int (-x) :: st) μ Q) : am_R Tx d k c pc ls (.int x :: st) μ Q := by
  intro D b0 en p l e Rm s m args below meth cc H locs cells slots mc ms la C B Wd S L hk
  have hdg := C.2.2.2.2.1 pc _ hc
  exact lv_ineg C.1.1 C.1.2.1 hdg (h D b0 en p l e Rm s m args below meth cc H locs cells slots mc ms la C B Wd S L hk)
theorem R_idiv {Tx : am_Tx} {d k : Nat} {c : am_C} {pc a b : Nat} {ls : List (Option Value)} {st : List Value} {μ : am_M} {Q : am_Res → Prop} {x y : Int32} (hc : c.2 pc = some (.idiv, 1, a, b)) (hne : ¬ y = 0) (h : am_R Tx d k c (pc + 1) ls (.int (x / y) :: st) μ Q) : am_R Tx d k c pc ls (.int y :: .int x :: st) μ Q := by
  intro D b0 en p l e Rm s m args below meth cc H locs cells slots mc ms la C B Wd S L hk
  have hdg := C.2.2.2.2.1 pc _ hc
  exact lv_idiv C.1.1 C.1.2.1 hdg hne (h D b0 en p l e Rm s m args below meth cc H locs cells slots mc ms la C B Wd S L hk)
theorem R_irem {Tx : am_Tx} {d k : Nat} {c : am_C} {pc a b : Nat} {ls : List (Option Value)} {st : List Value} {μ : am_M} {Q : am_Res → Prop} {x y : Int32} (hc : c.2 pc = some (.irem, 1, a, b)) (hne : ¬ y = 0) (h : am_R Tx d k c (pc + 1) ls (.int (x - x / y * y) :: st) μ Q) : am_R Tx d k c pc ls (.int y :: .int x :: st) μ Q := by
  intro D b0 en p l e Rm s m args below meth cc H locs cells slots mc ms la C B Wd S L hk
  have hdg := C.2.2.2.2.1 pc _ hc
  exact lv_irem C.1.1 C.1.2.1 hdg hne (h D b0 en p l e Rm s m args below meth cc H locs cells slots mc ms la C B Wd S L hk)
theorem R_ladd {Tx : am_Tx} {d k : Nat} {c : am_C} {pc a b : Nat} {ls : List (Option Value)} {st : List Value} {μ : am_M} {Q : am_Res → Prop} {x y : Int64} (hc : c.2 pc = some (.ladd, 1, a, b)) (h : am_R Tx d k c (pc + 1) ls (.long (x + y) :: st) μ Q) : am_R Tx d k c pc ls (.long y :: .long x :: st) μ Q := by
  intro D b0 en p l e Rm s m args below meth cc H locs cells slots mc ms la C B Wd S L hk
  have hdg := C.2.2.2.2.1 pc _ hc
  exact lv_ladd C.1.1 C.1.2.1 hdg (h D b0 en p l e Rm s m args below meth cc H locs cells slots mc ms la C B Wd S L hk)
theorem R_lsub {Tx : am_Tx} {d k : Nat} {c : am_C} {pc a b : Nat} {ls : List (Option Value)} {st : List Value} {μ : am_M} {Q : am_Res → Prop} {x y : Int64} (hc : c.2 pc = some (.lsub, 1, a, b)) (h : am_R Tx d k c (pc + 1) ls (.long (x - y) :: st) μ Q) : am_R Tx d k c pc ls (.long y :: .long x :: st) μ Q := by
  intro D b0 en p l e Rm s m args below meth cc H locs cells slots mc ms la C B Wd S L hk
  have hdg := C.2.2.2.2.1 pc _ hc
  exact lv_lsub C.1.1 C.1.2.1 hdg (h D b0 en p l e Rm s m args below meth cc H locs cells slots mc ms la C B Wd S L hk)
theorem R_lmul {Tx : am_Tx} {d k : Nat} {c : am_C} {pc a b : Nat} {ls : List (Option Value)} {st : List Value} {μ : am_M} {Q : am_Res → Prop} {x y : Int64} (hc : c.2 pc = some (.lmul, 1, a, b)) (h : am_R Tx d k c (pc + 1) ls (.long (x * y) :: st) μ Q) : am_R Tx d k c pc ls (.long y :: .long x :: st) μ Q := by
  intro D b0 en p l e Rm s m args below meth cc H locs cells slots mc ms la C B Wd S L hk
  have hdg := C.2.2.2.2.1 pc _ hc
  exact lv_lmul C.1.1 C.1.2.1 hdg (h D b0 en p l e Rm s m args below meth cc H locs cells slots mc ms la C B Wd S L hk)
theorem R_lneg {Tx : am_Tx} {d k : Nat} {c : am_C} {pc a b : Nat} {ls : List (Option Value)} {st : List Value} {μ : am_M} {Q : am_Res → Prop} {x : Int64} (hc : c.2 pc = some (.lneg, 1, a, b)) (h : am_R Tx d k c (pc + 1) ls (.long (-x) :: st) μ Q) : am_R Tx d k c pc ls (.long x :: st) μ Q := by
  intro D b0 en p l e Rm s m args below meth cc H locs cells slots mc ms la C B Wd S L hk
  have hdg := C.2.2.2.2.1 pc _ hc
  exact lv_lneg C.1.1 C.1.2.1 hdg (h D b0 en p l e Rm s m args below meth cc H locs cells slots mc ms la C B Wd S L hk)
theorem R_ldiv {Tx : am_Tx} {d k : Nat} {c : am_C} {pc a b : Nat} {ls : List (Option Value)} {st : List Value} {μ : am_M} {Q : am_Res → Prop} {x y : Int64} (hc : c.2 pc = some (.ldiv, 1, a, b)) (hne : ¬ y = 0) (h : am_R Tx d k c (pc + 1) ls (.long (x / y) :: st) μ Q) : am_R Tx d k c pc ls (.long y :: .long x :: st) μ Q := by
  intro D b0 en p l e Rm s m args below meth cc H locs cells slots mc ms la C B Wd S L hk
  have hdg := C.2.2.2.2.1 pc _ hc
  exact lv_ldiv C.1.1 C.1.2.1 hdg hne (h D b0 en p l e Rm s m args below meth cc H locs cells slots mc ms la C B Wd S L hk)
theorem R_lrem {Tx : am_Tx} {d k : Nat} {c : am_C} {pc a b : Nat} {ls : List (Option Value)} {st : List Value} {μ : am_M} {Q : am_Res → Prop} {x y : Int64} (hc : c.2 pc = some (.lrem, 1, a, b)) (hne : ¬ y = 0) (h : am_R Tx d k c (pc + 1) ls (.long (x - x / y * y) :: st) μ Q) : am_R Tx d k c pc ls (.long y :: .long x :: st) μ Q := by
  intro D b0 en p l e Rm s m args below meth cc H locs cells slots mc ms la C B Wd S L hk
  have hdg := C.2.2.2.2.1 pc _ hc
  exact lv_lrem C.1.1 C.1.2.1 hdg hne (h D b0 en p l e Rm s m args below meth cc H locs cells slots mc ms la C B Wd S L hk)
theorem R_iand {Tx : am_Tx} {d k : Nat} {c : am_C} {pc a b : Nat} {ls : List (Option Value)} {st : List Value} {μ : am_M} {Q : am_Res → Prop} {x y : Int32} (hc : c.2 pc = some (.iand, 1, a, b)) (h : am_R Tx d k c (pc + 1) ls (.int (x &&& y) :: st) μ Q) : am_R Tx d k c pc ls (.int y :: .int x :: st) μ Q := by
  intro D b0 en p l e Rm s m args below meth cc H locs cells slots mc ms la C B Wd S L hk
  have hdg := C.2.2.2.2.1 pc _ hc
  exact lv_iand C.1.1 C.1.2.1 hdg (h D b0 en p l e Rm s m args below meth cc H locs cells slots mc ms la C B Wd S L hk)
theorem R_ior {Tx : am_Tx} {d k : Nat} {c : am_C} {pc a b : Nat} {ls : List (Option Value)} {st : List Value} {μ : am_M} {Q : am_Res → Prop} {x y : Int32} (hc : c.2 pc = some (.ior, 1, a, b)) (h : am_R Tx d k c (pc + 1) ls (.int (x ||| y) :: st) μ Q) : am_R Tx d k c pc ls (.int y :: .int x :: st) μ Q := by
  intro D b0 en p l e Rm s m args below meth cc H locs cells slots mc ms la C B Wd S L hk
  have hdg := C.2.2.2.2.1 pc _ hc
  exact lv_ior C.1.1 C.1.2.1 hdg (h D b0 en p l e Rm s m args below meth cc H locs cells slots mc ms la C B Wd S L hk)
theorem R_ixor {Tx : am_Tx} {d k : Nat} {c : am_C} {pc a b : Nat} {ls : List (Option Value)} {st : List Value} {μ : am_M} {Q : am_Res → Prop} {x y : Int32} (hc : c.2 pc = some (.ixor, 1, a, b)) (h : am_R Tx d k c (pc + 1) ls (.int (x ^^^ y) :: st) μ Q) : am_R Tx d k c pc ls (.int y :: .int x :: st) μ Q := by
  intro D b0 en p l e Rm s m args below meth cc H locs cells slots mc ms la C B Wd S L hk
  have hdg := C.2.2.2.2.1 pc _ hc
  exact lv_ixor C.1.1 C.1.2.1 hdg (h D b0 en p l e Rm s m args below meth cc H locs cells slots mc ms la C B Wd S L hk)
theorem R_lxor {Tx : am_Tx} {d k : Nat} {c : am_C} {pc a b : Nat} {ls : List (Option Value)} {st : List Value} {μ : am_M} {Q : am_Res → Prop} {x y : Int64} (hc : c.2 pc = some (.lxor, 1, a, b)) (h : am_R Tx d k c (pc + 1) ls (.long (x ^^^ y) :: st) μ Q) : am_R Tx d k c pc ls (.long y :: .long x :: st) μ Q := by
  intro D b0 en p l e Rm s m args below meth cc H locs cells slots mc ms la C B Wd S L hk
  have hdg := C.2.2.2.2.1 pc _ hc
  exact lv_lxor C.1.1 C.1.2.1 hdg (h D b0 en p l e Rm s m args below meth cc H locs cells slots mc ms la C B Wd S L hk)
theorem R_ishl {Tx : am_Tx} {d k : Nat} {c : am_C} {pc a b : Nat} {ls : List (Option Value)} {st : List Value} {μ : am_M} {Q : am_Res → Prop} {x y : Int32} (hc : c.2 pc = some (.ishl, 1, a, b)) (h : am_R Tx d k c (pc + 1) ls (.int (x <<< (y &&& 31)) :: st) μ Q) : am_R Tx d k c pc ls (.int y :: .int x :: st) μ Q := by
  intro D b0 en p l e Rm s m args below meth cc H locs cells slots mc ms la C B Wd S L hk
  have hdg := C.2.2.2.2.1 pc _ hc
  exact lv_ishl C.1.1 C.1.2.1 hdg (h D b0 en p l e Rm s m args below meth cc H locs cells slots mc ms la C B Wd S L hk)
theorem R_ishr {Tx : am_Tx} {d k : Nat} {c : am_C} {pc a b : Nat} {ls : List (Option Value)} {st : List Value} {μ : am_M} {Q : am_Res → Prop} {x y : Int32} (hc : c.2 pc = some (.ishr, 1, a, b)) (h : am_R Tx d k c (pc + 1) ls (.int (x >>> (y &&& 31)) :: st) μ Q) : am_R Tx d k c pc ls (.int y :: .int x :: st) μ Q := by
  intro D b0 en p l e Rm s m args below meth cc H locs cells slots mc ms la C B Wd S L hk
  have hdg := C.2.2.2.2.1 pc _ hc
  exact lv_ishr C.1.1 C.1.2.1 hdg (h D b0 en p l e Rm s m args below meth cc H locs cells slots mc ms la C B Wd S L hk)
theorem R_iushr {Tx : am_Tx} {d k : Nat} {c : am_C} {pc a b : Nat} {ls : List (Option Value)} {st : List Value} {μ : am_M} {Q : am_Res → Prop} {x y : Int32} (hc : c.2 pc = some (.iushr, 1, a, b)) (h : am_R Tx d k c (pc + 1) ls (.int ((x.toUInt32 >>> (y.toUInt32 &&& Int32.toUInt32 31)).toInt32) :: st) μ Q) : am_R Tx d k c pc ls (.int y :: .int x :: st) μ Q := by
  intro D b0 en p l e Rm s m args below meth cc H locs cells slots mc ms la C B Wd S L hk
  have hdg := C.2.2.2.2.1 pc _ hc
  exact lv_iushr C.1.1 C.1.2.1 hdg rfl (h D b0 en p l e Rm s m args below meth cc H locs cells slots mc ms la C B Wd S L hk)
theorem R_i2l {Tx : am_Tx} {d k : Nat} {c : am_C} {pc a b : Nat} {ls : List (Option Value)} {st : List Value} {μ : am_M} {Q : am_Res → Prop} {x : Int32} (hc : c.2 pc = some (.i2l, 1, a, b)) (h : am_R Tx d k c (pc + 1) ls (.long x.toInt64 :: st) μ Q) : am_R Tx d k c pc ls (.int x :: st) μ Q := by
  intro D b0 en p l e Rm s m args below meth cc H locs cells slots mc ms la C B Wd S L hk
  have hdg := C.2.2.2.2.1 pc _ hc
  exact lv_i2l C.1.1 C.1.2.1 hdg rfl (h D b0 en p l e Rm s m args below meth cc H locs cells slots mc ms la C B Wd S L hk)
theorem R_l2i {Tx : am_Tx} {d k : Nat} {c : am_C} {pc a b : Nat} {ls : List (Option Value)} {st : List Value} {μ : am_M} {Q : am_Res → Prop} {x : Int64} (hc : c.2 pc = some (.l2i, 1, a, b)) (h : am_R Tx d k c (pc + 1) ls (.int x.toInt32 :: st) μ Q) : am_R Tx d k c pc ls (.long x :: st) μ Q := by
  intro D b0 en p l e Rm s m args below meth cc H locs cells slots mc ms la C B Wd S L hk
  have hdg := C.2.2.2.2.1 pc _ hc
  exact lv_l2i C.1.1 C.1.2.1 hdg rfl (h D b0 en p l e Rm s m args below meth cc H locs cells slots mc ms la C B Wd S L hk)
theorem R_i2b {Tx : am_Tx} {d k : Nat} {c : am_C} {pc a b : Nat} {ls : List (Option Value)} {st : List Value} {μ : am_M} {Q : am_Res → Prop} {x : Int32} (hc : c.2 pc = some (.i2b, 1, a, b)) (h : am_R Tx d k c (pc + 1) ls (.int x.toInt8.toInt32 :: st) μ Q) : am_R Tx d k c pc ls (.int x :: st) μ Q := by
  intro D b0 en p l e Rm s m args below meth cc H locs cells slots mc ms la C B Wd S L hk
  have hdg := C.2.2.2.2.1 pc _ hc
  exact lv_i2b C.1.1 C.1.2.1 hdg rfl (h D b0 en p l e Rm s m args below meth cc H locs cells slots mc ms la C B Wd S L hk)
theorem R_dup {Tx : am_Tx} {d k : Nat} {c : am_C} {pc a b : Nat} {ls : List (Option Value)} {st : List Value} {μ : am_M} {Q : am_Res → Prop} {x : Value} (hc : c.2 pc = some (.dup, 1, a, b)) (hx : x.category = 1) (h : am_R Tx d k c (pc + 1) ls (x :: x :: st) μ Q) : am_R Tx d k c pc ls (x :: st) μ Q := by
  intro D b0 en p l e Rm s m args below meth cc H locs cells slots mc ms la C B Wd S L hk
  have hdg := C.2.2.2.2.1 pc _ hc
  exact lv_dup C.1.1 C.1.2.1 hdg (by rw [am_v_cat]; exact hx) (h D b0 en p l e Rm s m args below meth cc H locs cells slots mc ms la C B Wd S L hk)
theorem R_pop {Tx : am_Tx} {d k : Nat} {c : am_C} {pc a b : Nat} {ls : List (Option Value)} {st : List Value} {μ : am_M} {Q : am_Res → Prop} {x : Value} (hc : c.2 pc = some (.pop, 1, a, b)) (hx : x.category = 1) (h : am_R Tx d k c (pc + 1) ls (st) μ Q) : am_R Tx d k c pc ls (x :: st) μ Q := by
  intro D b0 en p l e Rm s m args below meth cc H locs cells slots mc ms la C B Wd S L hk
  have hdg := C.2.2.2.2.1 pc _ hc
  exact lv_pop C.1.1 C.1.2.1 hdg (by rw [am_v_cat]; exact hx) (h D b0 en p l e Rm s m args below meth cc H locs cells slots mc ms la C B Wd S L hk)
theorem R_pop2 {Tx : am_Tx} {d k : Nat} {c : am_C} {pc a b : Nat} {ls : List (Option Value)} {st : List Value} {μ : am_M} {Q : am_Res → Prop} {x : Value} (hc : c.2 pc = some (.pop2, 1, a, b)) (hx : x.category = 2) (h : am_R Tx d k c (pc + 1) ls (st) μ Q) : am_R Tx d k c pc ls (x :: st) μ Q := by
  intro D b0 en p l e Rm s m args below meth cc H locs cells slots mc ms la C B Wd S L hk
  have hdg := C.2.2.2.2.1 pc _ hc
  exact lv_pop2_2 C.1.1 C.1.2.1 hdg (by rw [am_v_cat]; exact hx) (h D b0 en p l e Rm s m args below meth cc H locs cells slots mc ms la C B Wd S L hk)
theorem R_dup_x1 {Tx : am_Tx} {d k : Nat} {c : am_C} {pc a b : Nat} {ls : List (Option Value)} {st : List Value} {μ : am_M} {Q : am_Res → Prop} {x y : Value} (hc : c.2 pc = some (.dup_x1, 1, a, b)) (hx : x.category = 1) (hy : y.category = 1) (h : am_R Tx d k c (pc + 1) ls (x :: y :: x :: st) μ Q) : am_R Tx d k c pc ls (x :: y :: st) μ Q := by
  intro D b0 en p l e Rm s m args below meth cc H locs cells slots mc ms la C B Wd S L hk
  have hdg := C.2.2.2.2.1 pc _ hc
  exact lv_dup_x1 C.1.1 C.1.2.1 hdg (by rw [am_v_cat]; exact hx) (by rw [am_v_cat]; exact hy) (h D b0 en p l e Rm s m args below meth cc H locs cells slots mc ms la C B Wd S L hk)
theorem R_dup_x2 {Tx : am_Tx} {d k : Nat} {c : am_C} {pc a b : Nat} {ls : List (Option Value)} {st : List Value} {μ : am_M} {Q : am_Res → Prop} {x y z : Value} (hc : c.2 pc = some (.dup_x2, 1, a, b)) (hx : x.category = 1) (hy : y.category = 1) (hz : z.category = 1) (h : am_R Tx d k c (pc + 1) ls (x :: y :: z :: x :: st) μ Q) : am_R Tx d k c pc ls (x :: y :: z :: st) μ Q := by
  intro D b0 en p l e Rm s m args below meth cc H locs cells slots mc ms la C B Wd S L hk
  have hdg := C.2.2.2.2.1 pc _ hc
  exact lv_dup_x2 C.1.1 C.1.2.1 hdg (by rw [am_v_cat]; exact hx) (by rw [am_v_cat]; exact hy) (by rw [am_v_cat]; exact hz) (h D b0 en p l e Rm s m args below meth cc H locs cells slots mc ms la C B Wd S L hk)
theorem R_dup2 {Tx : am_Tx} {d k : Nat} {c : am_C} {pc a b : Nat} {ls : List (Option Value)} {st : List Value} {μ : am_M} {Q : am_Res → Prop} {x y : Value} (hc : c.2 pc = some (.dup2, 1, a, b)) (hx : x.category = 1) (hy : y.category = 1) (h : am_R Tx d k c (pc + 1) ls (x :: y :: x :: y :: st) μ Q) : am_R Tx d k c pc ls (x :: y :: st) μ Q := by
  intro D b0 en p l e Rm s m args below meth cc H locs cells slots mc ms la C B Wd S L hk
  have hdg := C.2.2.2.2.1 pc _ hc
  exact lv_dup2_11 C.1.1 C.1.2.1 hdg (by rw [am_v_cat]; exact hx) (by rw [am_v_cat]; exact hy) (h D b0 en p l e Rm s m args below meth cc H locs cells slots mc ms la C B Wd S L hk)
theorem R_dup2w {Tx : am_Tx} {d k : Nat} {c : am_C} {pc a b : Nat} {ls : List (Option Value)} {st : List Value} {μ : am_M} {Q : am_Res → Prop} {x : Value} (hc : c.2 pc = some (.dup2, 1, a, b)) (hx : x.category = 2) (h : am_R Tx d k c (pc + 1) ls (x :: x :: st) μ Q) : am_R Tx d k c pc ls (x :: st) μ Q := by
  intro D b0 en p l e Rm s m args below meth cc H locs cells slots mc ms la C B Wd S L hk
  have hdg := C.2.2.2.2.1 pc _ hc
  exact lv_dup2_2 C.1.1 C.1.2.1 hdg (by rw [am_v_cat]; exact hx) (h D b0 en p l e Rm s m args below meth cc H locs cells slots mc ms la C B Wd S L hk)
theorem R_lcmp {Tx : am_Tx} {d k : Nat} {c : am_C} {pc a b : Nat} {ls : List (Option Value)} {st : List Value} {μ : am_M} {Q : am_Res → Prop} {x y : Int64} (hc : c.2 pc = some (.lcmp, 1, a, b)) (h : am_R Tx d k c (pc + 1) ls (.int (lg_cmp x y) :: st) μ Q) : am_R Tx d k c pc ls (.long y :: .long x :: st) μ Q := by
  intro D b0 en p l e Rm s m args below meth cc H locs cells slots mc ms la C B Wd S L hk
  have hdg := C.2.2.2.2.1 pc _ hc
  exact W.lcmp C.1.1 C.1.2.1 hdg (h D b0 en p l e Rm s m args below meth cc H locs cells slots mc ms la C B Wd S L hk)
theorem R_iload_n {Tx : am_Tx} {d k : Nat} {c : am_C} {pc a b : Nat} {ls : List (Option Value)} {st : List Value} {μ : am_M} {Q : am_Res → Prop} {n : Fin 4} {x : Int32} (hc : c.2 pc = some (.iload_n n, 1, a, b)) (hl : ls[(n : Nat)]? = some (some (.int x))) (h : am_R Tx d k c (pc + 1) ls (.int x :: st) μ Q) : am_R Tx d k c pc ls (st) μ Q := by
  intro D b0 en p l e Rm s m args below meth cc H locs cells slots mc ms la C B Wd S L hk
  have hdg := C.2.2.2.2.1 pc _ hc
  exact lv_iload_n C.1.1 C.1.2.1 hdg rfl (am_ld L hl) (h D b0 en p l e Rm s m args below meth cc H locs cells slots mc ms la C B Wd S L hk)
theorem R_iload {Tx : am_Tx} {d k : Nat} {c : am_C} {pc a b : Nat} {ls : List (Option Value)} {st : List Value} {μ : am_M} {Q : am_Res → Prop} {n : Nat} {x : Int32} (hc : c.2 pc = some (.iload n, 2, a, b)) (hl : ls[n]? = some (some (.int x))) (h : am_R Tx d k c (pc + 2) ls (.int x :: st) μ Q) : am_R Tx d k c pc ls (st) μ Q := by
  intro D b0 en p l e Rm s m args below meth cc H locs cells slots mc ms la C B Wd S L hk
  have hdg := C.2.2.2.2.1 pc _ hc
  exact lv_iload C.1.1 C.1.2.1 hdg (am_ld L hl) (h D b0 en p l e Rm s m args below meth cc H locs cells slots mc ms la C B Wd S L hk)
theorem R_lload_n {Tx : am_Tx} {d k : Nat} {c : am_C} {pc a b : Nat} {ls : List (Option Value)} {st : List Value} {μ : am_M} {Q : am_Res → Prop} {n : Fin 4} {x : Int64} (hc : c.2 pc = some (.lload_n n, 1, a, b)) (hl : ls[(n : Nat)]? = some (some (.long x))) (h : am_R Tx d k c (pc + 1) ls (.long x :: st) μ Q) : am_R Tx d k c pc ls (st) μ Q := by
  intro D b0 en p l e Rm s m args below meth cc H locs cells slots mc ms la C B Wd S L hk
  have hdg := C.2.2.2.2.1 pc _ hc
  exact lv_lload_n C.1.1 C.1.2.1 hdg rfl (am_ld L hl) (h D b0 en p l e Rm s m args below meth cc H locs cells slots mc ms la C B Wd S L hk)
theorem R_lload {Tx : am_Tx} {d k : Nat} {c : am_C} {pc a b : Nat} {ls : List (Option Value)} {st : List Value} {μ : am_M} {Q : am_Res → Prop} {n : Nat} {x : Int64} (hc : c.2 pc = some (.lload n, 2, a, b)) (hl : ls[n]? = some (some (.long x))) (h : am_R Tx d k c (pc + 2) ls (.long x :: st) μ Q) : am_R Tx d k c pc ls (st) μ Q := by
  intro D b0 en p l e Rm s m args below meth cc H locs cells slots mc ms la C B Wd S L hk
  have hdg := C.2.2.2.2.1 pc _ hc
  exact lv_lload C.1.1 C.1.2.1 hdg (am_ld L hl) (h D b0 en p l e Rm s m args below meth cc H locs cells slots mc ms la C B Wd S L hk)
theorem R_aload_n {Tx : am_Tx} {d k : Nat} {c : am_C} {pc a b : Nat} {ls : List (Option Value)} {st : List Value} {μ : am_M} {Q : am_Res → Prop} {n : Fin 4} {x : Nat} (hc : c.2 pc = some (.aload_n n, 1, a, b)) (hl : ls[(n : Nat)]? = some (some (.ref x))) (h : am_R Tx d k c (pc + 1) ls (.ref x :: st) μ Q) : am_R Tx d k c pc ls (st) μ Q := by
  intro D b0 en p l e Rm s m args below meth cc H locs cells slots mc ms la C B Wd S L hk
  have hdg := C.2.2.2.2.1 pc _ hc
  exact lv_aload_n C.1.1 C.1.2.1 hdg rfl (am_ld L hl) (h D b0 en p l e Rm s m args below meth cc H locs cells slots mc ms la C B Wd S L hk)
theorem R_aload {Tx : am_Tx} {d k : Nat} {c : am_C} {pc a b : Nat} {ls : List (Option Value)} {st : List Value} {μ : am_M} {Q : am_Res → Prop} {n : Nat} {x : Nat} (hc : c.2 pc = some (.aload n, 2, a, b)) (hl : ls[n]? = some (some (.ref x))) (h : am_R Tx d k c (pc + 2) ls (.ref x :: st) μ Q) : am_R Tx d k c pc ls (st) μ Q := by
  intro D b0 en p l e Rm s m args below meth cc H locs cells slots mc ms la C B Wd S L hk
  have hdg := C.2.2.2.2.1 pc _ hc
  exact lv_aload C.1.1 C.1.2.1 hdg (am_ld L hl) (h D b0 en p l e Rm s m args below meth cc H locs cells slots mc ms la C B Wd S L hk)
theorem R_aload_nN {Tx : am_Tx} {d k : Nat} {c : am_C} {pc a b : Nat} {ls : List (Option Value)} {st : List Value} {μ : am_M} {Q : am_Res → Prop} {n : Fin 4} (hc : c.2 pc = some (.aload_n n, 1, a, b)) (hl : ls[(n : Nat)]? = some (some .null)) (h : am_R Tx d k c (pc + 1) ls (.null :: st) μ Q) : am_R Tx d k c pc ls (st) μ Q := by
  intro D b0 en p l e Rm s m args below meth cc H locs cells slots mc ms la C B Wd S L hk
  have hdg := C.2.2.2.2.1 pc _ hc
  exact lv_aload_nN C.1.1 C.1.2.1 hdg rfl (am_ld L hl) (h D b0 en p l e Rm s m args below meth cc H locs cells slots mc ms la C B Wd S L hk)
theorem R_aloadN {Tx : am_Tx} {d k : Nat} {c : am_C} {pc a b : Nat} {ls : List (Option Value)} {st : List Value} {μ : am_M} {Q : am_Res → Prop} {n : Nat} (hc : c.2 pc = some (.aload n, 2, a, b)) (hl : ls[n]? = some (some .null)) (h : am_R Tx d k c (pc + 2) ls (.null :: st) μ Q) : am_R Tx d k c pc ls (st) μ Q := by
  intro D b0 en p l e Rm s m args below meth cc H locs cells slots mc ms la C B Wd S L hk
  have hdg := C.2.2.2.2.1 pc _ hc
  exact lv_aloadN C.1.1 C.1.2.1 hdg (am_ld L hl) (h D b0 en p l e Rm s m args below meth cc H locs cells slots mc ms la C B Wd S L hk)
theorem R_istore_n {Tx : am_Tx} {d k : Nat} {c : am_C} {pc a b : Nat} {ls : List (Option Value)} {st : List Value} {μ : am_M} {Q : am_Res → Prop} {n : Fin 4} {x : Int32} (hc : c.2 pc = some (.istore_n n, 1, a, b)) (hn : (n : Nat) < c.1.2.2.1) (h : am_R Tx d k c (pc + 1) (am_st ls (n : Nat) (.int x)) st μ Q) : am_R Tx d k c pc ls (.int x :: st) μ Q := by
  intro D b0 en p l e Rm s m args below meth cc H locs cells slots mc ms la C B Wd S L hk
  have hdg := C.2.2.2.2.1 pc _ hc
  exact lv_istore_n (lv' := (_, am_v en.1 (.int x)) :: _) C.1.1 C.1.2.1 hdg rfl L hn rfl (fun la' L2 => h D b0 en p l e Rm s m args below meth cc H locs cells slots mc ms la' C B Wd S (am_st1 L2) hk)
theorem R_istore {Tx : am_Tx} {d k : Nat} {c : am_C} {pc a b : Nat} {ls : List (Option Value)} {st : List Value} {μ : am_M} {Q : am_Res → Prop} {n : Nat} {x : Int32} (hc : c.2 pc = some (.istore n, 2, a, b)) (hn : n < c.1.2.2.1) (h : am_R Tx d k c (pc + 2) (am_st ls n (.int x)) st μ Q) : am_R Tx d k c pc ls (.int x :: st) μ Q := by
  intro D b0 en p l e Rm s m args below meth cc H locs cells slots mc ms la C B Wd S L hk
  have hdg := C.2.2.2.2.1 pc _ hc
  exact lv_istore (lv' := (_, am_v en.1 (.int x)) :: _) C.1.1 C.1.2.1 hdg L hn rfl (fun la' L2 => h D b0 en p l e Rm s m args below meth cc H locs cells slots mc ms la' C B Wd S (am_st1 L2) hk)
theorem R_lstore_n {Tx : am_Tx} {d k : Nat} {c : am_C} {pc a b : Nat} {ls : List (Option Value)} {st : List Value} {μ : am_M} {Q : am_Res → Prop} {n : Fin 4} {x : Int64} (hc : c.2 pc = some (.lstore_n n, 1, a, b)) (hn : (n : Nat) + 1 < c.1.2.2.1) (h : am_R Tx d k c (pc + 1) (am_st ls (n : Nat) (.long x)) st μ Q) : am_R Tx d k c pc ls (.long x :: st) μ Q := by
  intro D b0 en p l e Rm s m args below meth cc H locs cells slots mc ms la C B Wd S L hk
  have hdg := C.2.2.2.2.1 pc _ hc
  exact lv_lstore_n (lv' := (_, am_v en.1 (.long x)) :: _) C.1.1 C.1.2.1 hdg rfl L hn rfl (fun la' L2 => h D b0 en p l e Rm s m args below meth cc H locs cells slots mc ms la' C B Wd S (am_st2 rfl L2) hk)
theorem R_lstore {Tx : am_Tx} {d k : Nat} {c : am_C} {pc a b : Nat} {ls : List (Option Value)} {st : List Value} {μ : am_M} {Q : am_Res → Prop} {n : Nat} {x : Int64} (hc : c.2 pc = some (.lstore n, 2, a, b)) (hn : n + 1 < c.1.2.2.1) (h : am_R Tx d k c (pc + 2) (am_st ls n (.long x)) st μ Q) : am_R Tx d k c pc ls (.long x :: st) μ Q := by
  intro D b0 en p l e Rm s m args below meth cc H locs cells slots mc ms la C B Wd S L hk
  have hdg := C.2.2.2.2.1 pc _ hc
  exact lv_lstore (lv' := (_, am_v en.1 (.long x)) :: _) C.1.1 C.1.2.1 hdg L hn rfl (fun la' L2 => h D b0 en p l e Rm s m args below meth cc H locs cells slots mc ms la' C B Wd S (am_st2 rfl L2) hk)
theorem R_astore_n {Tx : am_Tx} {d k : Nat} {c : am_C} {pc a b : Nat} {ls : List (Option Value)} {st : List Value} {μ : am_M} {Q : am_Res → Prop} {n : Fin 4} {x : Nat} (hc : c.2 pc = some (.astore_n n, 1, a, b)) (hn : (n : Nat) < c.1.2.2.1) (h : am_R Tx d k c (pc + 1) (am_st ls (n : Nat) (.ref x)) st μ Q) : am_R Tx d k c pc ls (.ref x :: st) μ Q := by
  intro D b0 en p l e Rm s m args below meth cc H locs cells slots mc ms la C B Wd S L hk
  have hdg := C.2.2.2.2.1 pc _ hc
  exact lv_astore_n (lv' := (_, am_v en.1 (.ref x)) :: _) C.1.1 C.1.2.1 hdg rfl L hn rfl (fun la' L2 => h D b0 en p l e Rm s m args below meth cc H locs cells slots mc ms la' C B Wd S (am_st1 L2) hk)
theorem R_astore {Tx : am_Tx} {d k : Nat} {c : am_C} {pc a b : Nat} {ls : List (Option Value)} {st : List Value} {μ : am_M} {Q : am_Res → Prop} {n : Nat} {x : Nat} (hc : c.2 pc = some (.astore n, 2, a, b)) (hn : n < c.1.2.2.1) (h : am_R Tx d k c (pc + 2) (am_st ls n (.ref x)) st μ Q) : am_R Tx d k c pc ls (.ref x :: st) μ Q := by
  intro D b0 en p l e Rm s m args below meth cc H locs cells slots mc ms la C B Wd S L hk
  have hdg := C.2.2.2.2.1 pc _ hc
  exact lv_astore (lv' := (_, am_v en.1 (.ref x)) :: _) C.1.1 C.1.2.1 hdg L hn rfl (fun la' L2 => h D b0 en p l e Rm s m args below meth cc H locs cells slots mc ms la' C B Wd S (am_st1 L2) hk)
theorem R_astore_nN {Tx : am_Tx} {d k : Nat} {c : am_C} {pc a b : Nat} {ls : List (Option Value)} {st : List Value} {μ : am_M} {Q : am_Res → Prop} {n : Fin 4} (hc : c.2 pc = some (.astore_n n, 1, a, b)) (hn : (n : Nat) < c.1.2.2.1) (h : am_R Tx d k c (pc + 1) (am_st ls (n : Nat) (.null)) st μ Q) : am_R Tx d k c pc ls (.null :: st) μ Q := by
  intro D b0 en p l e Rm s m args below meth cc H locs cells slots mc ms la C B Wd S L hk
  have hdg := C.2.2.2.2.1 pc _ hc
  exact lv_astore_nN (lv' := (_, am_v en.1 (.null)) :: _) C.1.1 C.1.2.1 hdg rfl L hn rfl (fun la' L2 => h D b0 en p l e Rm s m args below meth cc H locs cells slots mc ms la' C B Wd S (am_st1 L2) hk)
theorem R_astoreN {Tx : am_Tx} {d k : Nat} {c : am_C} {pc a b : Nat} {ls : List (Option Value)} {st : List Value} {μ : am_M} {Q : am_Res → Prop} {n : Nat} (hc : c.2 pc = some (.astore n, 2, a, b)) (hn : n < c.1.2.2.1) (h : am_R Tx d k c (pc + 2) (am_st ls n (.null)) st μ Q) : am_R Tx d k c pc ls (.null :: st) μ Q := by
  intro D b0 en p l e Rm s m args below meth cc H locs cells slots mc ms la C B Wd S L hk
  have hdg := C.2.2.2.2.1 pc _ hc
  exact lv_astoreN (lv' := (_, am_v en.1 (.null)) :: _) C.1.1 C.1.2.1 hdg L hn rfl (fun la' L2 => h D b0 en p l e Rm s m args below meth cc H locs cells slots mc ms la' C B Wd S (am_st1 L2) hk)
theorem R_iinc {Tx : am_Tx} {d k : Nat} {c : am_C} {pc a b : Nat} {ls : List (Option Value)} {st : List Value} {μ : am_M} {Q : am_Res → Prop} {i : Nat} {n : Int} {x : Int32} (hc : c.2 pc = some (.iinc i n, 3, a, b)) (hl : ls[i]? = some (some (.int x))) (hn : i < c.1.2.2.1) (h : am_R Tx d k c (pc + 3) (am_st ls i (.int (x + Int32.ofInt n))) st μ Q) : am_R Tx d k c pc ls st μ Q := by
  intro D b0 en p l e Rm s m args below meth cc H locs cells slots mc ms la C B Wd S L hk
  have hdg := C.2.2.2.2.1 pc _ hc
  obtain ⟨j, hj⟩ := List.getElem?_of_mem (am_prs_mem (ad := en.1) ls 0 i _ hl)
  rw [Nat.zero_add] at hj
  exact lv_iinc (k := j) (x := x) (v := x + Int32.ofInt n) (lv' := (_, am_v en.1 (.int (x + Int32.ofInt n))) :: _) C.1.1 C.1.2.1 hdg L hj rfl hn rfl (fun la' L2 => h D b0 en p l e Rm s m args below meth cc H locs cells slots mc ms la' C B Wd S (am_st1 L2) hk)
theorem R_if_eq {Tx : am_Tx} {d k : Nat} {c : am_C} {pc a b : Nat} {ls : List (Option Value)} {st : List Value} {μ : am_M} {Q : am_Res → Prop} {x : Int32} {off : Int} {tgt : Nat} (hc : c.2 pc = some (.ifCond .eq off, 3, a, b)) (ht : (pc : Int) + off = (tgt : Int)) (kt : x = 0 → am_R Tx d k c tgt ls st μ Q) (kf : ¬ x = 0 → am_R Tx d k c (pc + 3) ls st μ Q) : am_R Tx d k c pc ls (.int x :: st) μ Q := by
  intro D b0 en p l e Rm s m args below meth cc H locs cells slots mc ms la C B Wd S L hk
  have hdg := C.2.2.2.2.1 pc _ hc
  exact lv_if_eq C.1.1 C.1.2.1 hdg ht (fun z => kt z D b0 en p l e Rm s m args below meth cc H locs cells slots mc ms la C B Wd S L hk) (fun z => kf z D b0 en p l e Rm s m args below meth cc H locs cells slots mc ms la C B Wd S L hk)
theorem R_icmp_eq {Tx : am_Tx} {d k : Nat} {c : am_C} {pc a b : Nat} {ls : List (Option Value)} {st : List Value} {μ : am_M} {Q : am_Res → Prop} {x y : Int32} {off : Int} {tgt : Nat} (hc : c.2 pc = some (.if_icmp .eq off, 3, a, b)) (ht : (pc : Int) + off = (tgt : Int)) (kt : x = y → am_R Tx d k c tgt ls st μ Q) (kf : ¬ x = y → am_R Tx d k c (pc + 3) ls st μ Q) : am_R Tx d k c pc ls (.int y :: .int x :: st) μ Q := by
  intro D b0 en p l e Rm s m args below meth cc H locs cells slots mc ms la C B Wd S L hk
  have hdg := C.2.2.2.2.1 pc _ hc
  exact lv_icmp_eq C.1.1 C.1.2.1 hdg ht (fun z => kt z D b0 en p l e Rm s m args below meth cc H locs cells slots mc ms la C B Wd S L hk) (fun z => kf z D b0 en p l e Rm s m args below meth cc H locs cells slots mc ms la C B Wd S L hk)
theorem R_if_ne {Tx : am_Tx} {d k : Nat} {c : am_C} {pc a b : Nat} {ls : List (Option Value)} {st : List Value} {μ : am_M} {Q : am_Res → Prop} {x : Int32} {off : Int} {tgt : Nat} (hc : c.2 pc = some (.ifCond .ne off, 3, a, b)) (ht : (pc : Int) + off = (tgt : Int)) (kt : ¬ x = 0 → am_R Tx d k c tgt ls st μ Q) (kf : x = 0 → am_R Tx d k c (pc + 3) ls st μ Q) : am_R Tx d k c pc ls (.int x :: st) μ Q := by
  intro D b0 en p l e Rm s m args below meth cc H locs cells slots mc ms la C B Wd S L hk
  have hdg := C.2.2.2.2.1 pc _ hc
  exact lv_if_ne C.1.1 C.1.2.1 hdg ht (fun z => kt z D b0 en p l e Rm s m args below meth cc H locs cells slots mc ms la C B Wd S L hk) (fun z => kf z D b0 en p l e Rm s m args below meth cc H locs cells slots mc ms la C B Wd S L hk)
theorem R_icmp_ne {Tx : am_Tx} {d k : Nat} {c : am_C} {pc a b : Nat} {ls : List (Option Value)} {st : List Value} {μ : am_M} {Q : am_Res → Prop} {x y : Int32} {off : Int} {tgt : Nat} (hc : c.2 pc = some (.if_icmp .ne off, 3, a, b)) (ht : (pc : Int) + off = (tgt : Int)) (kt : ¬ x = y → am_R Tx d k c tgt ls st μ Q) (kf : x = y → am_R Tx d k c (pc + 3) ls st μ Q) : am_R Tx d k c pc ls (.int y :: .int x :: st) μ Q := by
  intro D b0 en p l e Rm s m args below meth cc H locs cells slots mc ms la C B Wd S L hk
  have hdg := C.2.2.2.2.1 pc _ hc
  exact lv_icmp_ne C.1.1 C.1.2.1 hdg ht (fun z => kt z D b0 en p l e Rm s m args below meth cc H locs cells slots mc ms la C B Wd S L hk) (fun z => kf z D b0 en p l e Rm s m args below meth cc H locs cells slots mc ms la C B Wd S L hk)
theorem R_if_lt {Tx : am_Tx} {d k : Nat} {c : am_C} {pc a b : Nat} {ls : List (Option Value)} {st : List Value} {μ : am_M} {Q : am_Res → Prop} {x : Int32} {off : Int} {tgt : Nat} (hc : c.2 pc = some (.ifCond .lt off, 3, a, b)) (ht : (pc : Int) + off = (tgt : Int)) (kt : x < 0 → am_R Tx d k c tgt ls st μ Q) (kf : ¬ x < 0 → am_R Tx d k c (pc + 3) ls st μ Q) : am_R Tx d k c pc ls (.int x :: st) μ Q := by
  intro D b0 en p l e Rm s m args below meth cc H locs cells slots mc ms la C B Wd S L hk
  have hdg := C.2.2.2.2.1 pc _ hc
  exact lv_if_lt C.1.1 C.1.2.1 hdg ht (fun z => kt z D b0 en p l e Rm s m args below meth cc H locs cells slots mc ms la C B Wd S L hk) (fun z => kf z D b0 en p l e Rm s m args below meth cc H locs cells slots mc ms la C B Wd S L hk)
theorem R_icmp_lt {Tx : am_Tx} {d k : Nat} {c : am_C} {pc a b : Nat} {ls : List (Option Value)} {st : List Value} {μ : am_M} {Q : am_Res → Prop} {x y : Int32} {off : Int} {tgt : Nat} (hc : c.2 pc = some (.if_icmp .lt off, 3, a, b)) (ht : (pc : Int) + off = (tgt : Int)) (kt : x < y → am_R Tx d k c tgt ls st μ Q) (kf : ¬ x < y → am_R Tx d k c (pc + 3) ls st μ Q) : am_R Tx d k c pc ls (.int y :: .int x :: st) μ Q := by
  intro D b0 en p l e Rm s m args below meth cc H locs cells slots mc ms la C B Wd S L hk
  have hdg := C.2.2.2.2.1 pc _ hc
  exact lv_icmp_lt C.1.1 C.1.2.1 hdg ht (fun z => kt z D b0 en p l e Rm s m args below meth cc H locs cells slots mc ms la C B Wd S L hk) (fun z => kf z D b0 en p l e Rm s m args below meth cc H locs cells slots mc ms la C B Wd S L hk)
theorem R_if_ge {Tx : am_Tx} {d k : Nat} {c : am_C} {pc a b : Nat} {ls : List (Option Value)} {st : List Value} {μ : am_M} {Q : am_Res → Prop} {x : Int32} {off : Int} {tgt : Nat} (hc : c.2 pc = some (.ifCond .ge off, 3, a, b)) (ht : (pc : Int) + off = (tgt : Int)) (kt : 0 ≤ x → am_R Tx d k c tgt ls st μ Q) (kf : ¬ 0 ≤ x → am_R Tx d k c (pc + 3) ls st μ Q) : am_R Tx d k c pc ls (.int x :: st) μ Q := by
  intro D b0 en p l e Rm s m args below meth cc H locs cells slots mc ms la C B Wd S L hk
  have hdg := C.2.2.2.2.1 pc _ hc
  exact lv_if_ge C.1.1 C.1.2.1 hdg ht (fun z => kt z D b0 en p l e Rm s m args below meth cc H locs cells slots mc ms la C B Wd S L hk) (fun z => kf z D b0 en p l e Rm s m args below meth cc H locs cells slots mc ms la C B Wd S L hk)
theorem R_icmp_ge {Tx : am_Tx} {d k : Nat} {c : am_C} {pc a b : Nat} {ls : List (Option Value)} {st : List Value} {μ : am_M} {Q : am_Res → Prop} {x y : Int32} {off : Int} {tgt : Nat} (hc : c.2 pc = some (.if_icmp .ge off, 3, a, b)) (ht : (pc : Int) + off = (tgt : Int)) (kt : y ≤ x → am_R Tx d k c tgt ls st μ Q) (kf : ¬ y ≤ x → am_R Tx d k c (pc + 3) ls st μ Q) : am_R Tx d k c pc ls (.int y :: .int x :: st) μ Q := by
  intro D b0 en p l e Rm s m args below meth cc H locs cells slots mc ms la C B Wd S L hk
  have hdg := C.2.2.2.2.1 pc _ hc
  exact lv_icmp_ge C.1.1 C.1.2.1 hdg ht (fun z => kt z D b0 en p l e Rm s m args below meth cc H locs cells slots mc ms la C B Wd S L hk) (fun z => kf z D b0 en p l e Rm s m args below meth cc H locs cells slots mc ms la C B Wd S L hk)
theorem R_if_gt {Tx : am_Tx} {d k : Nat} {c : am_C} {pc a b : Nat} {ls : List (Option Value)} {st : List Value} {μ : am_M} {Q : am_Res → Prop} {x : Int32} {off : Int} {tgt : Nat} (hc : c.2 pc = some (.ifCond .gt off, 3, a, b)) (ht : (pc : Int) + off = (tgt : Int)) (kt : 0 < x → am_R Tx d k c tgt ls st μ Q) (kf : ¬ 0 < x → am_R Tx d k c (pc + 3) ls st μ Q) : am_R Tx d k c pc ls (.int x :: st) μ Q := by
  intro D b0 en p l e Rm s m args below meth cc H locs cells slots mc ms la C B Wd S L hk
  have hdg := C.2.2.2.2.1 pc _ hc
  exact lv_if_gt C.1.1 C.1.2.1 hdg ht (fun z => kt z D b0 en p l e Rm s m args below meth cc H locs cells slots mc ms la C B Wd S L hk) (fun z => kf z D b0 en p l e Rm s m args below meth cc H locs cells slots mc ms la C B Wd S L hk)
theorem R_icmp_gt {Tx : am_Tx} {d k : Nat} {c : am_C} {pc a b : Nat} {ls : List (Option Value)} {st : List Value} {μ : am_M} {Q : am_Res → Prop} {x y : Int32} {off : Int} {tgt : Nat} (hc : c.2 pc = some (.if_icmp .gt off, 3, a, b)) (ht : (pc : Int) + off = (tgt : Int)) (kt : y < x → am_R Tx d k c tgt ls st μ Q) (kf : ¬ y < x → am_R Tx d k c (pc + 3) ls st μ Q) : am_R Tx d k c pc ls (.int y :: .int x :: st) μ Q := by
  intro D b0 en p l e Rm s m args below meth cc H locs cells slots mc ms la C B Wd S L hk
  have hdg := C.2.2.2.2.1 pc _ hc
  exact lv_icmp_gt C.1.1 C.1.2.1 hdg ht (fun z => kt z D b0 en p l e Rm s m args below meth cc H locs cells slots mc ms la C B Wd S L hk) (fun z => kf z D b0 en p l e Rm s m args below meth cc H locs cells slots mc ms la C B Wd S L hk)
theorem R_if_le {Tx : am_Tx} {d k : Nat} {c : am_C} {pc a b : Nat} {ls : List (Option Value)} {st : List Value} {μ : am_M} {Q : am_Res → Prop} {x : Int32} {off : Int} {tgt : Nat} (hc : c.2 pc = some (.ifCond .le off, 3, a, b)) (ht : (pc : Int) + off = (tgt : Int)) (kt : x ≤ 0 → am_R Tx d k c tgt ls st μ Q) (kf : ¬ x ≤ 0 → am_R Tx d k c (pc + 3) ls st μ Q) : am_R Tx d k c pc ls (.int x :: st) μ Q := by
  intro D b0 en p l e Rm s m args below meth cc H locs cells slots mc ms la C B Wd S L hk
  have hdg := C.2.2.2.2.1 pc _ hc
  exact lv_if_le C.1.1 C.1.2.1 hdg ht (fun z => kt z D b0 en p l e Rm s m args below meth cc H locs cells slots mc ms la C B Wd S L hk) (fun z => kf z D b0 en p l e Rm s m args below meth cc H locs cells slots mc ms la C B Wd S L hk)
theorem R_icmp_le {Tx : am_Tx} {d k : Nat} {c : am_C} {pc a b : Nat} {ls : List (Option Value)} {st : List Value} {μ : am_M} {Q : am_Res → Prop} {x y : Int32} {off : Int} {tgt : Nat} (hc : c.2 pc = some (.if_icmp .le off, 3, a, b)) (ht : (pc : Int) + off = (tgt : Int)) (kt : x ≤ y → am_R Tx d k c tgt ls st μ Q) (kf : ¬ x ≤ y → am_R Tx d k c (pc + 3) ls st μ Q) : am_R Tx d k c pc ls (.int y :: .int x :: st) μ Q := by
  intro D b0 en p l e Rm s m args below meth cc H locs cells slots mc ms la C B Wd S L hk
  have hdg := C.2.2.2.2.1 pc _ hc
  exact lv_icmp_le C.1.1 C.1.2.1 hdg ht (fun z => kt z D b0 en p l e Rm s m args below meth cc H locs cells slots mc ms la C B Wd S L hk) (fun z => kf z D b0 en p l e Rm s m args below meth cc H locs cells slots mc ms la C B Wd S L hk)
theorem R_l_eq {Tx : am_Tx} {d k : Nat} {c : am_C} {pc a b : Nat} {ls : List (Option Value)} {st : List Value} {μ : am_M} {Q : am_Res → Prop} {a2 b2 : Nat} {x y : Int64} {off : Int} {tgt : Nat} (hc : c.2 pc = some (.lcmp, 1, a, b)) (hc2 : c.2 (pc + 1) = some (.ifCond .eq off, 3, a2, b2)) (ht : ((pc + 1 : Nat) : Int) + off = (tgt : Int)) (kt : x = y → am_R Tx d k c tgt ls st μ Q) (kf : ¬ x = y → am_R Tx d k c (pc + 4) ls st μ Q) : am_R Tx d k c pc ls (.long y :: .long x :: st) μ Q :=
  R_lcmp hc (R_if_eq hc2 ht (fun z => kt ((lg_cmp_eq x y).mp z)) (fun z => kf (fun w => z ((lg_cmp_eq x y).mpr w))))
theorem R_l_ne {Tx : am_Tx} {d k : Nat} {c : am_C} {pc a b : Nat} {ls : List (Option Value)} {st : List Value} {μ : am_M} {Q : am_Res → Prop} {a2 b2 : Nat} {x y : Int64} {off : Int} {tgt : Nat} (hc : c.2 pc = some (.lcmp, 1, a, b)) (hc2 : c.2 (pc + 1) = some (.ifCond .ne off, 3, a2, b2)) (ht : ((pc + 1 : Nat) : Int) + off = (tgt : Int)) (kt : ¬ x = y → am_R Tx d k c tgt ls st μ Q) (kf : x = y → am_R Tx d k c (pc + 4) ls st μ Q) : am_R Tx d k c pc ls (.long y :: .long x :: st) μ Q :=
  R_lcmp hc (R_if_ne hc2 ht (fun z => kt (fun w => z ((lg_cmp_eq x y).mpr w))) (fun z => kf ((lg_cmp_eq x y).mp z)))
theorem R_l_lt {Tx : am_Tx} {d k : Nat} {c : am_C} {pc a b : Nat} {ls : List (Option Value)} {st : List Value} {μ : am_M} {Q : am_Res → Prop} {a2 b2 : Nat} {x y : Int64} {off : Int} {tgt : Nat} (hc : c.2 pc = some (.lcmp, 1, a, b)) (hc2 : c.2 (pc + 1) = some (.ifCond .lt off, 3, a2, b2)) (ht : ((pc + 1 : Nat) : Int) + off = (tgt : Int)) (kt : x < y → am_R Tx d k c tgt ls st μ Q) (kf : ¬ x < y → am_R Tx d k c (pc + 4) ls st μ Q) : am_R Tx d k c pc ls (.long y :: .long x :: st) μ Q :=
  R_lcmp hc (R_if_lt hc2 ht (fun z => kt ((lg_cmp_lt x y).mp z)) (fun z => kf (fun w => z ((lg_cmp_lt x y).mpr w))))
theorem R_l_ge {Tx : am_Tx} {d k : Nat} {c : am_C} {pc a b : Nat} {ls : List (Option Value)} {st : List Value} {μ : am_M} {Q : am_Res → Prop} {a2 b2 : Nat} {x y : Int64} {off : Int} {tgt : Nat} (hc : c.2 pc = some (.lcmp, 1, a, b)) (hc2 : c.2 (pc + 1) = some (.ifCond .ge off, 3, a2, b2)) (ht : ((pc + 1 : Nat) : Int) + off = (tgt : Int)) (kt : y ≤ x → am_R Tx d k c tgt ls st μ Q) (kf : ¬ y ≤ x → am_R Tx d k c (pc + 4) ls st μ Q) : am_R Tx d k c pc ls (.long y :: .long x :: st) μ Q :=
  R_lcmp hc (R_if_ge hc2 ht (fun z => kt ((lg_cmp_ge x y).mp z)) (fun z => kf (fun w => z ((lg_cmp_ge x y).mpr w))))
theorem R_l_gt {Tx : am_Tx} {d k : Nat} {c : am_C} {pc a b : Nat} {ls : List (Option Value)} {st : List Value} {μ : am_M} {Q : am_Res → Prop} {a2 b2 : Nat} {x y : Int64} {off : Int} {tgt : Nat} (hc : c.2 pc = some (.lcmp, 1, a, b)) (hc2 : c.2 (pc + 1) = some (.ifCond .gt off, 3, a2, b2)) (ht : ((pc + 1 : Nat) : Int) + off = (tgt : Int)) (kt : y < x → am_R Tx d k c tgt ls st μ Q) (kf : ¬ y < x → am_R Tx d k c (pc + 4) ls st μ Q) : am_R Tx d k c pc ls (.long y :: .long x :: st) μ Q :=
  R_lcmp hc (R_if_gt hc2 ht (fun z => kt ((lg_cmp_gt x y).mp z)) (fun z => kf (fun w => z ((lg_cmp_gt x y).mpr w))))
theorem R_l_le {Tx : am_Tx} {d k : Nat} {c : am_C} {pc a b : Nat} {ls : List (Option Value)} {st : List Value} {μ : am_M} {Q : am_Res → Prop} {a2 b2 : Nat} {x y : Int64} {off : Int} {tgt : Nat} (hc : c.2 pc = some (.lcmp, 1, a, b)) (hc2 : c.2 (pc + 1) = some (.ifCond .le off, 3, a2, b2)) (ht : ((pc + 1 : Nat) : Int) + off = (tgt : Int)) (kt : x ≤ y → am_R Tx d k c tgt ls st μ Q) (kf : ¬ x ≤ y → am_R Tx d k c (pc + 4) ls st μ Q) : am_R Tx d k c pc ls (.long y :: .long x :: st) μ Q :=
  R_lcmp hc (R_if_le hc2 ht (fun z => kt ((lg_cmp_le x y).mp z)) (fun z => kf (fun w => z ((lg_cmp_le x y).mpr w))))
theorem R_goto {Tx : am_Tx} {d k : Nat} {c : am_C} {pc a b : Nat} {ls : List (Option Value)} {st : List Value} {μ : am_M} {Q : am_Res → Prop} {off : Int} {tgt : Nat} (hc : c.2 pc = some (.goto off, 3, a, b)) (ht : (pc : Int) + off = (tgt : Int)) (h : am_R Tx d k c tgt ls st μ Q) : am_R Tx d k c pc ls st μ Q := by
  intro D b0 en p l e Rm s m args below meth cc H locs cells slots mc ms la C B Wd S L hk
  have hdg := C.2.2.2.2.1 pc _ hc
  exact lv_goto C.1.1 C.1.2.1 hdg ht (h D b0 en p l e Rm s m args below meth cc H locs cells slots mc ms la C B Wd S L hk)
theorem R_ifnull {Tx : am_Tx} {d k : Nat} {c : am_C} {pc a b : Nat} {ls : List (Option Value)} {st : List Value} {μ : am_M} {Q : am_Res → Prop} {x : Nat} {off : Int} (hc : c.2 pc = some (.ifnull off, 3, a, b)) (h : am_R Tx d k c (pc + 3) ls st μ Q) : am_R Tx d k c pc ls (.ref x :: st) μ Q := by
  intro D b0 en p l e Rm s m args below meth cc H locs cells slots mc ms la C B Wd S L hk
  have hdg := C.2.2.2.2.1 pc _ hc
  exact lv_ifnull C.1.1 C.1.2.1 hdg (h D b0 en p l e Rm s m args below meth cc H locs cells slots mc ms la C B Wd S L hk)
theorem R_ifnullN {Tx : am_Tx} {d k : Nat} {c : am_C} {pc a b : Nat} {ls : List (Option Value)} {st : List Value} {μ : am_M} {Q : am_Res → Prop} {off : Int} {tgt : Nat} (hc : c.2 pc = some (.ifnull off, 3, a, b)) (ht : (pc : Int) + off = (tgt : Int)) (h : am_R Tx d k c tgt ls st μ Q) : am_R Tx d k c pc ls (.null :: st) μ Q := by
  intro D b0 en p l e Rm s m args below meth cc H locs cells slots mc ms la C B Wd S L hk
  have hdg := C.2.2.2.2.1 pc _ hc
  exact lv_ifnullN C.1.1 C.1.2.1 hdg ht (h D b0 en p l e Rm s m args below meth cc H locs cells slots mc ms la C B Wd S L hk)
theorem R_tswIn {Tx : am_Tx} {d k : Nat} {c : am_C} {pc a b : Nat} {ls : List (Option Value)} {st : List Value} {μ : am_M} {Q : am_Res → Prop} {x : Int32} {dflt lo hi off : Int} {offs : Array Int} {n tgt : Nat} (hc : c.2 pc = some (.tableswitch dflt lo hi offs, n, a, b)) (h1 : ¬ x.toInt < lo) (h2 : ¬ hi < x.toInt) (ho : offs[(x.toInt - lo).toNat]? = some off) (ht : (pc : Int) + off = (tgt : Int)) (h : am_R Tx d k c tgt ls st μ Q) : am_R Tx d k c pc ls (.int x :: st) μ Q := by
  intro D b0 en p l e Rm s m args below meth cc H locs cells slots mc ms la C B Wd S L hk
  have hdg := C.2.2.2.2.1 pc _ hc
  exact lv_tableIn C.1.1 C.1.2.1 hdg h1 h2 ho ht (h D b0 en p l e Rm s m args below meth cc H locs cells slots mc ms la C B Wd S L hk)
theorem R_tswOut {Tx : am_Tx} {d k : Nat} {c : am_C} {pc a b : Nat} {ls : List (Option Value)} {st : List Value} {μ : am_M} {Q : am_Res → Prop} {x : Int32} {dflt lo hi : Int} {offs : Array Int} {n tgt : Nat} (hc : c.2 pc = some (.tableswitch dflt lo hi offs, n, a, b)) (h1 : x.toInt < lo ∨ hi < x.toInt) (ht : (pc : Int) + dflt = (tgt : Int)) (h : am_R Tx d k c tgt ls st μ Q) : am_R Tx d k c pc ls (.int x :: st) μ Q := by
  intro D b0 en p l e Rm s m args below meth cc H locs cells slots mc ms la C B Wd S L hk
  have hdg := C.2.2.2.2.1 pc _ hc
  exact lv_tableOut C.1.1 C.1.2.1 hdg h1 ht (h D b0 en p l e Rm s m args below meth cc H locs cells slots mc ms la C B Wd S L hk)
theorem R_ldc2 {Tx : am_Tx} {d k : Nat} {c : am_C} {pc a b : Nat} {ls : List (Option Value)} {st : List Value} {μ : am_M} {Q : am_Res → Prop} {idx : Nat} {v : Int64} (hc : c.2 pc = some (.ldc2_w idx, 3, a, b)) (hv : Int64.ofNat a = v) (h : am_R Tx d k c (pc + 3) ls (.long v :: st) μ Q) : am_R Tx d k c pc ls st μ Q := by
  intro D b0 en p l e Rm s m args below meth cc H locs cells slots mc ms la C B Wd S L hk
  have hdg := C.2.2.2.2.1 pc _ hc
  have hw := C.2.1.2.1 _ (am_Wmem (C.2.2.2.2.2 pc _ hc _ List.mem_cons_self) rfl)
  subst hv
  exact lv_ldc2 C.1.1 C.1.2.1 C.2.1.1 hw hdg (h D b0 en p l e Rm s m args below meth cc H locs cells slots mc ms la C B Wd S L hk)
theorem R_ldcw {Tx : am_Tx} {d k : Nat} {c : am_C} {pc a b : Nat} {ls : List (Option Value)} {st : List Value} {μ : am_M} {Q : am_Res → Prop} {idx : Nat} {v : Int32} (hc : c.2 pc = some (.ldc_w idx, 3, a, 0)) (hv : Int32.ofNat a = v) (h : am_R Tx d k c (pc + 3) ls (.int v :: st) μ Q) : am_R Tx d k c pc ls st μ Q := by
  intro D b0 en p l e Rm s m args below meth cc H locs cells slots mc ms la C B Wd S L hk
  have hdg := C.2.2.2.2.1 pc _ hc
  have hw := C.2.1.2.1 _ (am_Wmem (C.2.2.2.2.2 pc _ hc _ List.mem_cons_self) rfl)
  subst hv
  exact lv_ldcw C.1.1 C.1.2.1 C.2.1.1 hw hdg (h D b0 en p l e Rm s m args below meth cc H locs cells slots mc ms la C B Wd S L hk)

theorem R_ireturn {Tx : am_Tx} {d k : Nat} {c : am_C} {pc a b : Nat} {ls : List (Option Value)} {st : List Value} {μ : am_M} {Q : am_Res → Prop} {x : Int32} (hc : c.2 pc = some (.ireturn, 1, a, b)) (hr : c.1.2.2.2.1 = some .int) (hq : Q (.inl (some (.int x)), μ)) : am_R Tx d k c pc ls ([.int x]) μ Q := by
  intro D b0 en p l e Rm s m args below meth cc H locs cells slots mc ms la C B Wd S L hk
  have hdg := C.2.2.2.2.1 pc _ hc
  obtain ⟨hk1, hk2, -, -⟩ := hk
  exact vx_ret (W.widen (by omega : cells ≤ mc) (by omega : slots ≤ ms) (W.iret C.1.1 C.1.2.1 (C.1.2.2.2.trans hr) (fun t ht hW => ⟨(some (.int x)), μ, en, hq, am_ext.rf, Nat.le_refl _, rfl, by rw [ht]; exact Wd.moved hW.alike, S.F ht⟩) S.2.2 hdg C.2.1.2.2.1))
theorem R_zreturn {Tx : am_Tx} {d k : Nat} {c : am_C} {pc a b : Nat} {ls : List (Option Value)} {st : List Value} {μ : am_M} {Q : am_Res → Prop} {x : Int32} (hc : c.2 pc = some (.ireturn, 1, a, b)) (hr : c.1.2.2.2.1 = some .boolean) (hn : narrow .boolean (.int x) = .int x) (hq : Q (.inl (some (.int x)), μ)) : am_R Tx d k c pc ls ([.int x]) μ Q := by
  intro D b0 en p l e Rm s m args below meth cc H locs cells slots mc ms la C B Wd S L hk
  have hdg := C.2.2.2.2.1 pc _ hc
  obtain ⟨hk1, hk2, -, -⟩ := hk
  exact vx_ret (W.widen (by omega : cells ≤ mc) (by omega : slots ≤ ms) (W.zret C.1.1 C.1.2.1 (C.1.2.2.2.trans hr) hn (fun t ht hW => ⟨(some (.int x)), μ, en, hq, am_ext.rf, Nat.le_refl _, rfl, by rw [ht]; exact Wd.moved hW.alike, S.F ht⟩) S.2.2 hdg C.2.1.2.2.1))
theorem R_lreturn {Tx : am_Tx} {d k : Nat} {c : am_C} {pc a b : Nat} {ls : List (Option Value)} {st : List Value} {μ : am_M} {Q : am_Res → Prop} {x : Int64} (hc : c.2 pc = some (.lreturn, 1, a, b)) (hr : c.1.2.2.2.1 = some .long) (hq : Q (.inl (some (.long x)), μ)) : am_R Tx d k c pc ls ([.long x]) μ Q := by
  intro D b0 en p l e Rm s m args below meth cc H locs cells slots mc ms la C B Wd S L hk
  have hdg := C.2.2.2.2.1 pc _ hc
  obtain ⟨hk1, hk2, -, -⟩ := hk
  exact vx_ret (W.widen (by omega : cells ≤ mc) (by omega : slots ≤ ms) (W.lret C.1.1 C.1.2.1 (C.1.2.2.2.trans hr) (fun t ht hW => ⟨(some (.long x)), μ, en, hq, am_ext.rf, Nat.le_refl _, rfl, by rw [ht]; exact Wd.moved hW.alike, S.F ht⟩) S.2.2 hdg C.2.1.2.2.1))
theorem R_return {Tx : am_Tx} {d k : Nat} {c : am_C} {pc a b : Nat} {ls : List (Option Value)} {st : List Value} {μ : am_M} {Q : am_Res → Prop} (hc : c.2 pc = some (.return_, 1, a, b)) (hr : c.1.2.2.2.1 = none) (hq : Q (.inl none, μ)) : am_R Tx d k c pc ls ([]) μ Q := by
  intro D b0 en p l e Rm s m args below meth cc H locs cells slots mc ms la C B Wd S L hk
  have hdg := C.2.2.2.2.1 pc _ hc
  obtain ⟨hk1, hk2, -, -⟩ := hk
  exact vx_ret (W.widen (by omega : cells ≤ mc) (by omega : slots ≤ ms) (W.vret C.1.1 C.1.2.1 (C.1.2.2.2.trans hr) (fun t ht hW => ⟨none, μ, en, hq, am_ext.rf, Nat.le_refl _, rfl, by rw [ht]; exact Wd.moved hW.alike, S.F ht⟩) S.2.2 hdg C.2.1.2.2.1))
theorem R_areturn {Tx : am_Tx} {d k : Nat} {c : am_C} {pc a b : Nat} {ls : List (Option Value)} {st : List Value} {μ : am_M} {Q : am_Res → Prop} {x : Nat} {nm : String} (hc : c.2 pc = some (.areturn, 1, a, b)) (hr : c.1.2.2.2.1 = some (.object nm)) (hq : Q (.inl (some (.ref x)), μ)) : am_R Tx d k c pc ls ([.ref x]) μ Q := by
  intro D b0 en p l e Rm s m args below meth cc H locs cells slots mc ms la C B Wd S L hk
  have hdg := C.2.2.2.2.1 pc _ hc
  obtain ⟨hk1, hk2, -, -⟩ := hk
  exact vx_ret (W.widen (by omega : cells ≤ mc) (by omega : slots ≤ ms) (W.aret C.1.1 C.1.2.1 (C.1.2.2.2.trans hr) (Or.inl ⟨_, rfl⟩) (Or.inr ⟨_, rfl⟩) (fun t ht hW => ⟨(some (.ref x)), μ, en, hq, am_ext.rf, Nat.le_refl _, rfl, by rw [ht]; exact Wd.moved hW.alike, S.F ht⟩) S.2.2 hdg C.2.1.2.2.1))
theorem R_areturnN {Tx : am_Tx} {d k : Nat} {c : am_C} {pc a b : Nat} {ls : List (Option Value)} {st : List Value} {μ : am_M} {Q : am_Res → Prop} {nm : String} (hc : c.2 pc = some (.areturn, 1, a, b)) (hr : c.1.2.2.2.1 = some (.object nm)) (hq : Q (.inl (some .null), μ)) : am_R Tx d k c pc ls ([.null]) μ Q := by
  intro D b0 en p l e Rm s m args below meth cc H locs cells slots mc ms la C B Wd S L hk
  have hdg := C.2.2.2.2.1 pc _ hc
  obtain ⟨hk1, hk2, -, -⟩ := hk
  exact vx_ret (W.widen (by omega : cells ≤ mc) (by omega : slots ≤ ms) (W.aret C.1.1 C.1.2.1 (C.1.2.2.2.trans hr) (Or.inl ⟨_, rfl⟩) (Or.inl rfl) (fun t ht hW => ⟨(some .null), μ, en, hq, am_ext.rf, Nat.le_refl _, rfl, by rw [ht]; exact Wd.moved hW.alike, S.F ht⟩) S.2.2 hdg C.2.1.2.2.1))
