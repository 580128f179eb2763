/-! ===== relations ===== -/
def r0G (f : am_Gr) (w R C n : Nat) : am_Gr := fun i j => if i = 0 ∧ j < n ∧ R.testBit j = true then sgL R j (mnF f (wo R j) w C) else 0
