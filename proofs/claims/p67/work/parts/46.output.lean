/-! ===== the output of the class ===== -/
/-- what stands in the output -/
def oC (σ : am_G) (L : List Int32) : Prop := σ.1 14 0 = nI L.length ∧ L.length ≤ 1000 ∧ ∀ i x, L[i]? = some x → σ.1 15 i = x
theorem oC.fr {P : Nat → Nat → Prop} {σ σ1 : am_G} (q : smP P σ σ1) {L : List Int32} (h : oC σ L) (hp : ∀ b, ¬ P 14 b ∧ ¬ P 15 b) : oC σ1 L :=
  ⟨(q.i (hp 0).1).trans h.1, h.2.1, fun i x e => (q.i (hp i).2).trans (h.2.2 i x e)⟩
