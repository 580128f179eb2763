/-- a modulus: 0 or a prime -/
def mdL : List Nat := 0 :: prL
theorem md_dom {n : Nat} (h : n ∈ mdL) : zdom n ∧ n ≤ 97 := by
  rcases List.mem_cons.mp h with rfl | h
  · exact ⟨zdom_0, by omega⟩
  · exact ⟨zdom_p h, (prL_le n h).2⟩
