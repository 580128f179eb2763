/-! ===== a NoSuchElementException thrown ===== -/
theorem am_tw3 : True := trivial
theorem R_throwWN {Tx : am_Tx} {d k : Nat} {c : am_C} {pc : Nat} {ls : List (Option Value)} {μ : am_M} {Q : am_Res → Prop} {ik is ic i a3 b3 a4 b4 a6 b6 a9 b9 : Nat} {text : String}
    (d0 : c.2 pc = some (.new ik, 3, 3, 1)) (d3 : c.2 (pc + 3) = some (.dup, 1, a3, b3)) (d4 : c.2 (pc + 4) = some (.ldc_w is, 3, a4, b4)) (d7 : c.2 (pc + 7) = some (.invokespecial ic, 3, a6, b6)) (d10 : c.2 (pc + 10) = some (.athrow, 1, a9, b9))
    (hT : ("RankDesk", is, text, i) ∈ Tx) (htw : True) (hown : c.1.1.cls = "RankDesk") (hh : c.1.2.2.2.2 = none) (hk0 : 1 ≤ k) (hx : Q (.inr (am_X 3).1, μ)) : am_R Tx d k c pc ls [] μ Q := by
  sorry
