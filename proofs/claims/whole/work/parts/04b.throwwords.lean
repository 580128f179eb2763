/-- words that hold at each state, though they aren't of the good ones -/
def am_nw (w : Cond) : Bool := match w with
  | .methodLinkNest .. => true
  | .declares _ => true
  | .castable .. => true
  | _ => false
/-- an exception's class, by number: its name, its superclasses up to Throwable's -/
def am_X (k : Nat) : String × List String := match k with
  | 0 => ("java/lang/IllegalStateException", ["java/lang/RuntimeException", "java/lang/Exception"])
  | 1 => ("java/lang/IllegalArgumentException", ["java/lang/RuntimeException", "java/lang/Exception"])
  | 2 => ("java/lang/IndexOutOfBoundsException", ["java/lang/RuntimeException", "java/lang/Exception"])
  | _ => ("java/util/NoSuchElementException", ["java/lang/RuntimeException", "java/lang/Exception"])
/-! ===== throws, calls, handlers ===== -/
def am_tws (ic x : Nat) : List Cond := vx_atS "RankDesk" ic (am_X x).1 (am_X x).2
def am_twOk (ic x : Nat) : Prop := (am_tws ic x).all (fun w => decide (w ∈ lw_tbl) && (goodWord w || am_nw w)) = true ∧ (am_tws ic x).all vx_ot = true
set_option maxRecDepth 100000 in
theorem am_tw0 : am_twOk 90 0 := ⟨by decide +kernel, by decide +kernel⟩
set_option maxRecDepth 100000 in
theorem am_tw1 : am_twOk 267 1 := ⟨by decide +kernel, by decide +kernel⟩
set_option maxRecDepth 100000 in
theorem am_tw2 : am_twOk 455 2 := ⟨by decide +kernel, by decide +kernel⟩
