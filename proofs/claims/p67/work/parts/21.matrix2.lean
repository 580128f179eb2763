theorem setM_h {σ : am_G} {k h h2 w : Nat} {f : Nat → Nat → Int64} : sI (setM σ k h w f) k 0 (nI h2) = setM σ k h2 w f := by
  refine Prod.ext ?_ rfl
  funext a b
  simp only [setM, sI, am_up]
  by_cases ha : a = k
  · simp only [if_pos ha]
    by_cases hb : b = 0
    · simp only [if_pos hb]
    · simp only [if_neg hb]
  · simp only [if_neg ha]
