/-! ===== how a method's table is checked ===== -/
def am_code (n : Nat) (f : Nat → Option am_I) : Nat → Option am_I := fun q => cond (Nat.ble n q) none (f q)
def am_yok (a n : Nat) : Bool := decide ((am_sig a).1.cls ≠ "java/lang/invoke/MethodHandle") && (decide ((am_sig a).1.cls ≠ "java/lang/invoke/VarHandle") && (decide ((parseMethodDescriptor (am_sig a).1.desc).map (fun d => d.parameters.length) = some n) && Nat.ble (am_sig a).2.2.1 40))
def am_invb (e : am_I) : Bool := match e.1 with
  | .invokevirtual _ => am_yok e.2.2.1 e.2.2.2
  | .invokestatic _ => am_yok e.2.2.1 e.2.2.2
  | .invokespecial _ => am_yok e.2.2.1 e.2.2.2
  | _ => true
theorem am_inv_of {e : am_I} (h : am_invb e = true) : am_inv e := by
  have key : ∀ a n, am_yok a n = true → ((am_sig a).1.cls ≠ "java/lang/invoke/MethodHandle" ∧ (am_sig a).1.cls ≠ "java/lang/invoke/VarHandle" ∧ (parseMethodDescriptor (am_sig a).1.desc).map (fun d => d.parameters.length) = some n) ∧ (am_sig a).2.2.1 ≤ 40 := by
    intro a n h
    simp only [am_yok, Bool.and_eq_true, decide_eq_true_eq] at h
    exact ⟨⟨h.1, h.2.1, h.2.2.1⟩, Nat.le_of_ble_eq_true h.2.2.2⟩
  unfold am_invb at h
  unfold am_inv
  split at h
  · rename_i heq; rw [heq]; exact key _ _ h
  · rename_i heq; rw [heq]; exact key _ _ h
  · rename_i heq; rw [heq]; exact key _ _ h
  · rename_i h1 h2 h3
    split
    · rename_i heq; exact absurd heq (h1 _)
    · rename_i heq; exact absurd heq (h2 _)
    · rename_i heq; exact absurd heq (h3 _)
    · trivial
def am_chk (b : ByteArray) (n : Nat) (f : Nat → Option am_I) : Bool := (List.range n).all (fun pc => match f pc with
  | none => true
  | some e => decide (decode b pc = .ok (e.1, e.2.1)) && am_invb e)
def am_conds (own : String) (n : Nat) (f : Nat → Option am_I) : List Cond := (List.range n).flatMap (fun pc => match f pc with
  | none => []
  | some e => am_need own e)
theorem am_code_lt {n : Nat} {f : Nat → Option am_I} {pc : Nat} {e : am_I} (h : am_code n f pc = some e) : pc < n ∧ f pc = some e := by
  unfold am_code at h
  cases hb : Nat.ble n pc with
  | true => rw [hb] at h; cases h
  | false =>
    rw [hb] at h
    refine ⟨?_, h⟩
    rcases Nat.lt_or_ge pc n with q | q
    · exact q
    · rw [Nat.ble_eq_true_of_le q] at hb; cases hb
theorem am_MF_of {s : am_S} {n : Nat} {f : Nat → Option am_I} (pl : List Nat) (p0 : Nat) (h1 : am_chk s.2.1 n f = true) (h2 : am_conds s.1.cls n f = pl.filterMap (fun i => lw_tbl[i]?)) (h3 : lw_tbl[p0]? = some (am_cw s)) (h4 : plainFor s.1 = true) : am_MF (s, am_code n f) := by
  refine ⟨fun pc e h => ?_, fun pc e h w hw => ?_, am_Wmem (List.mem_of_getElem? h3) ?_, h4, fun pc e h => ?_⟩
  · obtain ⟨q1, q2⟩ := am_code_lt h
    have h9 := List.all_eq_true.mp h1 pc (List.mem_range.mpr q1)
    rw [q2] at h9
    simp only [Bool.and_eq_true, decide_eq_true_eq] at h9
    exact h9.1
  · obtain ⟨q1, q2⟩ := am_code_lt h
    have h9 : w ∈ am_conds s.1.cls n f := List.mem_flatMap.mpr ⟨pc, List.mem_range.mpr q1, by rw [q2]; exact hw⟩
    rw [h2] at h9
    obtain ⟨i, -, hi⟩ := List.mem_filterMap.mp h9
    exact List.mem_of_getElem? hi
  · unfold am_cw
    split <;> rfl
  · obtain ⟨q1, q2⟩ := am_code_lt h
    have h9 := List.all_eq_true.mp h1 pc (List.mem_range.mpr q1)
    rw [q2] at h9
    simp only [Bool.and_eq_true] at h9
    exact am_inv_of h9.2
