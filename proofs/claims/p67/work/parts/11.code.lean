/-! ===== how a method's table is checked ===== -/
def am_code (n : Nat) (f : Nat → Option am_I) : Nat → Option am_I := fun q => cond (Nat.ble n q) none (f q)
def am_chk (b : ByteArray) (n : Nat) (f : Nat → Option am_I) : Bool := (List.range n).all (fun pc => match f pc with
  | none => true
  | some e => decide (decode b pc = .ok (e.1, e.2.1)))
def am_conds (own : String) (n : Nat) (f : Nat → Option am_I) : List Cond := (List.range n).flatMap (fun pc => match f pc with
  | none => []
  | some e => am_need own e)
theorem am_code_lt {n : Nat} {f : Nat → Option am_I} {pc : Nat} {e : am_I} (h : am_code n f pc = some e) : pc < n ∧ f pc = some e := by
  unfold am_code at h
  cases hb : Nat.ble n pc with
  | true => rw [hb] at h; cases h
  | false =>
    rw [hb] at h
    refine ⟨?_, h⟩
    rcases Nat.lt_or_ge pc n with q | q
    · exact q
    · rw [Nat.ble_eq_true_of_le q] at hb; cases hb
theorem am_MF0_of {s : am_S} {n : Nat} {f : Nat → Option am_I} (pl : List Nat) (h1 : am_chk s.2.1 n f = true) (h2 : am_conds s.1.cls n f = pl.filterMap (fun i => pw_tbl[i]?)) : am_MF0 (s, am_code n f) := by
  refine ⟨fun pc e h => ?_, fun pc e h w hw => ?_⟩
  · obtain ⟨q1, q2⟩ := am_code_lt h
    have h9 := List.all_eq_true.mp h1 pc (List.mem_range.mpr q1)
    rw [q2] at h9
    exact of_decide_eq_true h9
  · obtain ⟨q1, q2⟩ := am_code_lt h
    have h9 : w ∈ am_conds s.1.cls n f := List.mem_flatMap.mpr ⟨pc, List.mem_range.mpr q1, by rw [q2]; exact hw⟩
    rw [h2] at h9
    obtain ⟨i, -, hi⟩ := List.mem_filterMap.mp h9
    exact List.mem_of_getElem? hi
theorem am_MF_of {s : am_S} {n : Nat} {f : Nat → Option am_I} (pl : List Nat) (p0 : Nat) (h1 : am_chk s.2.1 n f = true) (h2 : am_conds s.1.cls n f = pl.filterMap (fun i => pw_tbl[i]?)) (h3 : pw_tbl[p0]? = some (am_cw s)) (h4 : plainFor s.1 = true) : am_MF (s, am_code n f) := by
  refine ⟨am_MF0_of pl h1 h2, am_Wmem (List.mem_of_getElem? h3) ?_, h4⟩
  unfold am_cw
  split <;> rfl
