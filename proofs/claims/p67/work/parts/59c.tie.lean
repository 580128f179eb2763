/-! ===== the tie: one abstract desk, told by the class and by the model ===== -/
/-- the desk, what can be undone, the two slots, the input, the output, the error's code and position -/
abbrev Dk : Type := am_Sn × Nat × (Nat → am_Sn) × Option am_Sn × Option am_Sn × Nat × List Int32 × List Int32 × Int32 × Int32
/-- a slot of the class: p its place, j its flag -/
def slC (σ : am_G) (p j : Nat) : Option am_Sn → Prop
  | none => σ.1 119 j = 0
  | some D => σ.1 119 j = 1 ∧ cS σ p D
def TC (σ : am_G) (d : Dk) : Prop := cS σ 26 d.1 ∧ cH σ d.2.1 d.2.2.1 ∧ (slC σ 99 0 d.2.2.2.1 ∧ slC σ 109 1 d.2.2.2.2.1) ∧ iC σ d.2.2.2.2.2.1 d.2.2.2.2.2.2.1 ∧ oC σ d.2.2.2.2.2.2.2.1 ∧ σ.1 13 1 = d.2.2.2.2.2.2.2.2.1 ∧ σ.1 13 2 = d.2.2.2.2.2.2.2.2.2
theorem slC.fr {P : Nat → Nat → Prop} {σ σ1 : am_G} (q : smP P σ σ1) {p j : Nat} {o : Option am_Sn} (h : slC σ p j o) (h1 : ¬ P 119 j) (hp : ∀ a b, p ≤ a → a < p + 10 → ¬ P a b) : slC σ1 p j o := by
  cases o with
  | none => exact (q.i h1).trans h
  | some D => exact ⟨(q.i h1).trans h.1, h.2.fr q hp⟩
/-- what does not touch the places of the class keeps its side -/
theorem TC.fr {P : Nat → Nat → Prop} {σ σ1 : am_G} (q : smP P σ σ1) {d : Dk} (h : TC σ d) (hp : ∀ a b, a < 120 → ¬ P a b) : TC σ1 d := by
  obtain ⟨h1, h2, ⟨h3, h4⟩, h5, h6, h7, h8⟩ := h
  exact ⟨h1.fr q (fun a b _ _ => hp a b (by omega)), h2.fr q (fun a b _ _ => hp a b (by omega)), ⟨h3.fr q (hp _ _ (by omega)) (fun a b _ _ => hp a b (by omega)), h4.fr q (hp _ _ (by omega)) (fun a b _ _ => hp a b (by omega))⟩, h5.fr q (fun b => ⟨hp _ _ (by omega), hp _ _ (by omega)⟩), h6.fr q (fun b => ⟨hp _ _ (by omega), hp _ _ (by omega)⟩), (q.i (hp _ _ (by omega))).trans h7, (q.i (hp _ _ (by omega))).trans h8⟩
/-- the class's answers -/
theorem TC.q {σ σ1 : am_G} (q : smP (plc 17 26) σ σ1) {d : Dk} (h : TC σ d) : TC σ1 d := by
  obtain ⟨h1, h2, ⟨h3, h4⟩, h5, h6, h7, h8⟩ := h
  have n : ∀ a b : Nat, (a < 17 ∨ 26 ≤ a) → ¬ plc 17 26 a b := fun a b h => plc_n h
  exact ⟨h1.fr q (fun a b _ _ => n a b (by omega)), h2.fr q (fun a b _ _ => n a b (by omega)), ⟨h3.fr q (n _ _ (by omega)) (fun a b _ _ => n a b (by omega)), h4.fr q (n _ _ (by omega)) (fun a b _ _ => n a b (by omega))⟩, h5.fr q (fun b => ⟨n _ _ (by omega), n _ _ (by omega)⟩), h6.fr q (fun b => ⟨n _ _ (by omega), n _ _ (by omega)⟩), (q.i (n _ _ (by omega))).trans h7, (q.i (n _ _ (by omega))).trans h8⟩
/-- the class's changes -/
theorem TC.c {σ σ1 : am_G} (q : smP (plc 17 99) σ σ1) {D D2 : am_Sn} {n n2 : Nat} {Hs H2 : Nat → am_Sn} {k0 k1 : Option am_Sn} {nb : Nat} {B O : List Int32} {ec ep : Int32} (h : TC σ ⟨D, n, Hs, k0, k1, nb, B, O, ec, ep⟩) (hD : cS σ1 26 D2) (hH : cH σ1 n2 H2) : TC σ1 ⟨D2, n2, H2, k0, k1, nb, B, O, ec, ep⟩ := by
  obtain ⟨h1, h2, ⟨h3, h4⟩, h5, h6, h7, h8⟩ := h
  have n : ∀ a b : Nat, (a < 17 ∨ 99 ≤ a) → ¬ plc 17 99 a b := fun a b h => plc_n h
  exact ⟨hD, hH, ⟨h3.fr q (n _ _ (by omega)) (fun a b _ _ => n a b (by omega)), h4.fr q (n _ _ (by omega)) (fun a b _ _ => n a b (by omega))⟩, h5.fr q (fun b => ⟨n _ _ (by omega), n _ _ (by omega)⟩), h6.fr q (fun b => ⟨n _ _ (by omega), n _ _ (by omega)⟩), (q.i (n _ _ (by omega))).trans h7, (q.i (n _ _ (by omega))).trans h8⟩
/-- the class's output -/
theorem TC.o {σ σ1 : am_G} (q : smP (plc 14 26) σ σ1) {D : am_Sn} {n : Nat} {Hs : Nat → am_Sn} {k0 k1 : Option am_Sn} {nb : Nat} {B O O2 : List Int32} {ec ep : Int32} (h : TC σ ⟨D, n, Hs, k0, k1, nb, B, O, ec, ep⟩) (hO : oC σ1 O2) : TC σ1 ⟨D, n, Hs, k0, k1, nb, B, O2, ec, ep⟩ := by
  obtain ⟨h1, h2, ⟨h3, h4⟩, h5, h6, h7, h8⟩ := h
  have n : ∀ a b : Nat, (a < 14 ∨ 26 ≤ a) → ¬ plc 14 26 a b := fun a b h => plc_n h
  exact ⟨h1.fr q (fun a b _ _ => n a b (by omega)), h2.fr q (fun a b _ _ => n a b (by omega)), ⟨h3.fr q (n _ _ (by omega)) (fun a b _ _ => n a b (by omega)), h4.fr q (n _ _ (by omega)) (fun a b _ _ => n a b (by omega))⟩, h5.fr q (fun b => ⟨n _ _ (by omega), n _ _ (by omega)⟩), hO, (q.i (n _ _ (by omega))).trans h7, (q.i (n _ _ (by omega))).trans h8⟩
/-- the class's input -/
theorem TC.i {σ σ1 : am_G} (q : smP pI σ σ1) {D : am_Sn} {n : Nat} {Hs : Nat → am_Sn} {k0 k1 : Option am_Sn} {nb nb2 : Nat} {B B2 O : List Int32} {ec ep : Int32} (h : TC σ ⟨D, n, Hs, k0, k1, nb, B, O, ec, ep⟩) (hI : iC σ1 nb2 B2) : TC σ1 ⟨D, n, Hs, k0, k1, nb2, B2, O, ec, ep⟩ := by
  obtain ⟨h1, h2, ⟨h3, h4⟩, h5, h6, h7, h8⟩ := h
  have n : ∀ a b : Nat, 3 ≤ a → ¬ pI a b := fun a b h z => by rcases z with z | z <;> omega
  exact ⟨h1.fr q (fun a b _ _ => n a b (by omega)), h2.fr q (fun a b _ _ => n a b (by omega)), ⟨h3.fr q (n _ _ (by omega)) (fun a b _ _ => n a b (by omega)), h4.fr q (n _ _ (by omega)) (fun a b _ _ => n a b (by omega))⟩, hI, h6.fr q (fun b => ⟨n _ _ (by omega), n _ _ (by omega)⟩), (q.i (n _ _ (by omega))).trans h7, (q.i (n _ _ (by omega))).trans h8⟩
