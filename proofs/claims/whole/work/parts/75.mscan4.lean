/-! ===== the model's scan, whole ===== -/
theorem m255 {y : Int32} : ¬ y &&& 255 = -1 := by
  intro h
  have h2 := congrArg (fun z : Int32 => z.toBitVec.getLsbD 8) h
  have h3 : (y &&& 255).toBitVec.getLsbD 8 = false := by
    show (y.toBitVec &&& 255#32).getLsbD 8 = false
    rw [BitVec.getLsbD_and]
    simp
  have h4 : (-1 : Int32).toBitVec.getLsbD 8 = true := by decide
  exact absurd (h3.symm.trans (h2.trans h4)) (by decide)
theorem xM_m1 {σ : am_G} {n k : Nat} {B : List Int32} (h : xM σ n B) : ibA B k = -1 ↔ ¬ k < n := by
  constructor
  · intro e hk
    rw [← xM_at h hk] at e
    exact m255 e
  · intro hk
    exact ibA_o h.1 hk
def tmM (σ : am_G) (B : List Int32) (t : am_T) : Prop := σ.1 120 14 = nI t.2.1 ∧ σ.1 120 15 = nI t.1 ∧ σ.1 120 16 = nI t.2.2.1 ∧ (t.2.2.1 = 2 → σ.1 120 17 = nI t.2.2.2) ∧ (t.2.2.1 = 3 → σ.1 120 17 = ibA B t.1)
