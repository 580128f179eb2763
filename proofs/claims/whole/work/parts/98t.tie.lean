/-! ===== the tie: one abstract desk, told by the class and by the model ===== -/
/-- the desk, what can be undone, the two slots, the input, the output, the error's code and position -/
abbrev Dk : Type := am_Sn × Nat × (Nat → am_Sn) × Option am_Sn × Option am_Sn × Nat × List Int32 × List Int32 × Int32 × Int32
/-- a slot of the class: p its place, j its flag -/
def slC (σ : am_G) (p j : Nat) : Option am_Sn → Prop
  | none => σ.1 119 j = 0
  | some D => σ.1 119 j = 1 ∧ cS σ p D
/-- a slot of the model -/
def slN (σ : am_G) (j : Nat) : Option am_Sn → Prop
  | none => σ.1 129 j = 0
  | some D => slM σ j D
def TC (σ : am_G) (d : Dk) : Prop := cS σ 26 d.1 ∧ cH σ d.2.1 d.2.2.1 ∧ (slC σ 99 0 d.2.2.2.1 ∧ slC σ 109 1 d.2.2.2.2.1) ∧ iC σ d.2.2.2.2.2.1 d.2.2.2.2.2.2.1 ∧ oC σ d.2.2.2.2.2.2.2.1 ∧ σ.1 13 1 = d.2.2.2.2.2.2.2.2.1 ∧ σ.1 13 2 = d.2.2.2.2.2.2.2.2.2
def TM (σ : am_G) (d : Dk) : Prop := nVD σ d.1 ∧ mH σ d.2.1 d.2.2.1 ∧ (slN σ 0 d.2.2.2.1 ∧ slN σ 1 d.2.2.2.2.1) ∧ iM σ d.2.2.2.2.2.1 d.2.2.2.2.2.2.1 ∧ oM σ d.2.2.2.2.2.2.2.1 ∧ σ.1 120 18 = d.2.2.2.2.2.2.2.2.1 ∧ σ.1 120 19 = d.2.2.2.2.2.2.2.2.2
def pLw (a _b : Nat) : Prop := a < 120 ∨ a = 132
def pMo (a _b : Nat) : Prop := 120 ≤ a ∧ a < 132
theorem slC.fr {P : Nat → Nat → Prop} {σ σ1 : am_G} (q : smP P σ σ1) {p j : Nat} {o : Option am_Sn} (h : slC σ p j o) (h1 : ¬ P 119 j) (hp : ∀ a b, p ≤ a → a < p + 10 → ¬ P a b) : slC σ1 p j o := by
  cases o with
  | none => exact (q.i h1).trans h
  | some D => exact ⟨(q.i h1).trans h.1, h.2.fr q hp⟩
theorem slN.fr {P : Nat → Nat → Prop} {σ σ1 : am_G} (q : smP P σ σ1) {j : Nat} {o : Option am_Sn} (h : slN σ j o) (h1 : ¬ P 129 j) (hp : ∀ k, k < 98 → ¬ P 128 (98 * j + k)) : slN σ1 j o := by
  cases o with
  | none => exact (q.i h1).trans h
  | some D => exact slM.fr q h h1 hp
theorem nVD.fr {P : Nat → Nat → Prop} {σ σ1 : am_G} (q : smP P σ σ1) {D : am_Sn} (h : nVD σ D) (h1 : ∀ b, ¬ P 121 b) (h4 : ¬ P 120 4) : nVD σ1 D := nV.fr q h h1 h4
/-- what does not touch the places of the class keeps its side -/
theorem TC.fr {P : Nat → Nat → Prop} {σ σ1 : am_G} (q : smP P σ σ1) {d : Dk} (h : TC σ d) (hp : ∀ a b, a < 120 → ¬ P a b) : TC σ1 d := by
  obtain ⟨h1, h2, ⟨h3, h4⟩, h5, h6, h7, h8⟩ := h
  exact ⟨h1.fr q (fun a b _ _ => hp a b (by omega)), h2.fr q (fun a b _ _ => hp a b (by omega)), ⟨h3.fr q (hp _ _ (by omega)) (fun a b _ _ => hp a b (by omega)), h4.fr q (hp _ _ (by omega)) (fun a b _ _ => hp a b (by omega))⟩, h5.fr q (fun b => ⟨hp _ _ (by omega), hp _ _ (by omega)⟩), h6.fr q (fun b => ⟨hp _ _ (by omega), hp _ _ (by omega)⟩), (q.i (hp _ _ (by omega))).trans h7, (q.i (hp _ _ (by omega))).trans h8⟩
theorem TM.fr {P : Nat → Nat → Prop} {σ σ1 : am_G} (q : smP P σ σ1) {d : Dk} (h : TM σ d) (hp : ∀ a b, 120 ≤ a → a < 132 → ¬ P a b) : TM σ1 d := by
  obtain ⟨h1, h2, ⟨h3, h4⟩, h5, h6, h7, h8⟩ := h
  exact ⟨h1.fr q (fun b => hp _ b (by omega) (by omega)) (hp _ _ (by omega) (by omega)), h2.fr q (hp _ _ (by omega) (by omega)) (fun b => hp _ _ (by omega) (by omega)), ⟨h3.fr q (hp _ _ (by omega) (by omega)) (fun _ _ => hp _ _ (by omega) (by omega)), h4.fr q (hp _ _ (by omega) (by omega)) (fun _ _ => hp _ _ (by omega) (by omega))⟩, h5.fr q ⟨hp _ _ (by omega) (by omega), fun b => hp _ _ (by omega) (by omega)⟩, h6.fr q ⟨hp _ _ (by omega) (by omega), fun b => hp _ _ (by omega) (by omega)⟩, (q.i (hp _ _ (by omega) (by omega))).trans h7, (q.i (hp _ _ (by omega) (by omega))).trans h8⟩
/-- the class's answers -/
theorem TC.q {σ σ1 : am_G} (q : smP (plc 17 26) σ σ1) {d : Dk} (h : TC σ d) : TC σ1 d := by
  obtain ⟨h1, h2, ⟨h3, h4⟩, h5, h6, h7, h8⟩ := h
  have n : ∀ a b : Nat, (a < 17 ∨ 26 ≤ a) → ¬ plc 17 26 a b := fun a b h => plc_n h
  exact ⟨h1.fr q (fun a b _ _ => n a b (by omega)), h2.fr q (fun a b _ _ => n a b (by omega)), ⟨h3.fr q (n _ _ (by omega)) (fun a b _ _ => n a b (by omega)), h4.fr q (n _ _ (by omega)) (fun a b _ _ => n a b (by omega))⟩, h5.fr q (fun b => ⟨n _ _ (by omega), n _ _ (by omega)⟩), h6.fr q (fun b => ⟨n _ _ (by omega), n _ _ (by omega)⟩), (q.i (n _ _ (by omega))).trans h7, (q.i (n _ _ (by omega))).trans h8⟩
/-- the class's changes -/
theorem TC.c {σ σ1 : am_G} (q : smP (plc 17 99) σ σ1) {D D2 : am_Sn} {n n2 : Nat} {Hs H2 : Nat → am_Sn} {k0 k1 : Option am_Sn} {nb : Nat} {B O : List Int32} {ec ep : Int32} (h : TC σ ⟨D, n, Hs, k0, k1, nb, B, O, ec, ep⟩) (hD : cS σ1 26 D2) (hH : cH σ1 n2 H2) : TC σ1 ⟨D2, n2, H2, k0, k1, nb, B, O, ec, ep⟩ := by
  obtain ⟨h1, h2, ⟨h3, h4⟩, h5, h6, h7, h8⟩ := h
  have n : ∀ a b : Nat, (a < 17 ∨ 99 ≤ a) → ¬ plc 17 99 a b := fun a b h => plc_n h
  exact ⟨hD, hH, ⟨h3.fr q (n _ _ (by omega)) (fun a b _ _ => n a b (by omega)), h4.fr q (n _ _ (by omega)) (fun a b _ _ => n a b (by omega))⟩, h5.fr q (fun b => ⟨n _ _ (by omega), n _ _ (by omega)⟩), h6.fr q (fun b => ⟨n _ _ (by omega), n _ _ (by omega)⟩), (q.i (n _ _ (by omega))).trans h7, (q.i (n _ _ (by omega))).trans h8⟩
/-- the class's output -/
theorem TC.o {σ σ1 : am_G} (q : smP (plc 14 26) σ σ1) {D : am_Sn} {n : Nat} {Hs : Nat → am_Sn} {k0 k1 : Option am_Sn} {nb : Nat} {B O O2 : List Int32} {ec ep : Int32} (h : TC σ ⟨D, n, Hs, k0, k1, nb, B, O, ec, ep⟩) (hO : oC σ1 O2) : TC σ1 ⟨D, n, Hs, k0, k1, nb, B, O2, ec, ep⟩ := by
  obtain ⟨h1, h2, ⟨h3, h4⟩, h5, h6, h7, h8⟩ := h
  have n : ∀ a b : Nat, (a < 14 ∨ 26 ≤ a) → ¬ plc 14 26 a b := fun a b h => plc_n h
  exact ⟨h1.fr q (fun a b _ _ => n a b (by omega)), h2.fr q (fun a b _ _ => n a b (by omega)), ⟨h3.fr q (n _ _ (by omega)) (fun a b _ _ => n a b (by omega)), h4.fr q (n _ _ (by omega)) (fun a b _ _ => n a b (by omega))⟩, h5.fr q (fun b => ⟨n _ _ (by omega), n _ _ (by omega)⟩), hO, (q.i (n _ _ (by omega))).trans h7, (q.i (n _ _ (by omega))).trans h8⟩
/-- the class's input -/
theorem TC.i {σ σ1 : am_G} (q : smP pI σ σ1) {D : am_Sn} {n : Nat} {Hs : Nat → am_Sn} {k0 k1 : Option am_Sn} {nb nb2 : Nat} {B B2 O : List Int32} {ec ep : Int32} (h : TC σ ⟨D, n, Hs, k0, k1, nb, B, O, ec, ep⟩) (hI : iC σ1 nb2 B2) : TC σ1 ⟨D, n, Hs, k0, k1, nb2, B2, O, ec, ep⟩ := by
  obtain ⟨h1, h2, ⟨h3, h4⟩, h5, h6, h7, h8⟩ := h
  have n : ∀ a b : Nat, 3 ≤ a → ¬ pI a b := fun a b h z => by rcases z with z | z <;> omega
  exact ⟨h1.fr q (fun a b _ _ => n a b (by omega)), h2.fr q (fun a b _ _ => n a b (by omega)), ⟨h3.fr q (n _ _ (by omega)) (fun a b _ _ => n a b (by omega)), h4.fr q (n _ _ (by omega)) (fun a b _ _ => n a b (by omega))⟩, hI, h6.fr q (fun b => ⟨n _ _ (by omega), n _ _ (by omega)⟩), (q.i (n _ _ (by omega))).trans h7, (q.i (n _ _ (by omega))).trans h8⟩
/-- the model's answers -/
theorem TM.q {σ σ1 : am_G} (q : smP pQ σ σ1) {d : Dk} (h : TM σ d) : TM σ1 d := by
  obtain ⟨h1, h2, ⟨h3, h4⟩, h5, h6, h7, h8⟩ := h
  exact ⟨h1.fr q (fun b z => by unfold pQ at z; omega) (fun z => by unfold pQ at z; omega), h2.fr q (fun z => by unfold pQ at z; omega) (fun b z => by unfold pQ at z; omega), ⟨h3.fr q (fun z => by unfold pQ at z; omega) (fun _ _ z => by unfold pQ at z; omega), h4.fr q (fun z => by unfold pQ at z; omega) (fun _ _ z => by unfold pQ at z; omega)⟩, h5.fr q ⟨fun z => by unfold pQ at z; omega, fun b z => by unfold pQ at z; omega⟩, h6.fr q ⟨fun z => by unfold pQ at z; omega, fun b z => by unfold pQ at z; omega⟩, (q.i (fun z => by unfold pQ at z; omega)).trans h7, (q.i (fun z => by unfold pQ at z; omega)).trans h8⟩
theorem TM.c {σ σ1 : am_G} (q : smP pC σ σ1) {D D2 : am_Sn} {n n2 : Nat} {Hs H2 : Nat → am_Sn} {k0 k1 : Option am_Sn} {nb : Nat} {B O : List Int32} {ec ep : Int32} (h : TM σ ⟨D, n, Hs, k0, k1, nb, B, O, ec, ep⟩) (hD : nVD σ1 D2) (hH : mH σ1 n2 H2) : TM σ1 ⟨D2, n2, H2, k0, k1, nb, B, O, ec, ep⟩ := by
  obtain ⟨h1, h2, ⟨h3, h4⟩, h5, h6, h7, h8⟩ := h
  exact ⟨hD, hH, ⟨h3.fr q (fun z => by unfold pC pQ at z; omega) (fun _ _ z => by unfold pC pQ at z; omega), h4.fr q (fun z => by unfold pC pQ at z; omega) (fun _ _ z => by unfold pC pQ at z; omega)⟩, h5.fr q ⟨fun z => by unfold pC pQ at z; omega, fun b z => by unfold pC pQ at z; omega⟩, h6.fr q ⟨fun z => by unfold pC pQ at z; omega, fun b z => by unfold pC pQ at z; omega⟩, (q.i (fun z => by unfold pC pQ at z; omega)).trans h7, (q.i (fun z => by unfold pC pQ at z; omega)).trans h8⟩
theorem TM.o {σ σ1 : am_G} {P : Nat → Nat → Prop} (q : smP P σ σ1) (hP : ∀ a b, P a b → (a = 120 ∧ (b < 12 ∧ b ≠ 4 ∨ b = 27)) ∨ a = 123 ∨ a = 124 ∨ a = 125 ∨ a = 131) {D : am_Sn} {n : Nat} {Hs : Nat → am_Sn} {k0 k1 : Option am_Sn} {nb : Nat} {B O O2 : List Int32} {ec ep : Int32} (h : TM σ ⟨D, n, Hs, k0, k1, nb, B, O, ec, ep⟩) (hO : oM σ1 O2) : TM σ1 ⟨D, n, Hs, k0, k1, nb, B, O2, ec, ep⟩ := by
  obtain ⟨h1, h2, ⟨h3, h4⟩, h5, h6, h7, h8⟩ := h
  exact ⟨h1.fr q (fun b z => by have := hP _ _ z; omega) (fun z => by have := hP _ _ z; omega), h2.fr q (fun z => by have := hP _ _ z; omega) (fun b z => by have := hP _ _ z; omega), ⟨h3.fr q (fun z => by have := hP _ _ z; omega) (fun _ _ z => by have := hP _ _ z; omega), h4.fr q (fun z => by have := hP _ _ z; omega) (fun _ _ z => by have := hP _ _ z; omega)⟩, h5.fr q ⟨fun z => by have := hP _ _ z; omega, fun b z => by have := hP _ _ z; omega⟩, hO, (q.i (fun z => by have := hP _ _ z; omega)).trans h7, (q.i (fun z => by have := hP _ _ z; omega)).trans h8⟩
theorem TM.i {σ σ1 : am_G} {P : Nat → Nat → Prop} (q : smP P σ σ1) (hP : ∀ a b, P a b → (a = 120 ∧ (b = 0 ∨ b = 12)) ∨ a = 126) {D : am_Sn} {n : Nat} {Hs : Nat → am_Sn} {k0 k1 : Option am_Sn} {nb nb2 : Nat} {B B2 O : List Int32} {ec ep : Int32} (h : TM σ ⟨D, n, Hs, k0, k1, nb, B, O, ec, ep⟩) (hI : iM σ1 nb2 B2) : TM σ1 ⟨D, n, Hs, k0, k1, nb2, B2, O, ec, ep⟩ := by
  obtain ⟨h1, h2, ⟨h3, h4⟩, h5, h6, h7, h8⟩ := h
  exact ⟨h1.fr q (fun b z => by have := hP _ _ z; omega) (fun z => by have := hP _ _ z; omega), h2.fr q (fun z => by have := hP _ _ z; omega) (fun b z => by have := hP _ _ z; omega), ⟨h3.fr q (fun z => by have := hP _ _ z; omega) (fun _ _ z => by have := hP _ _ z; omega), h4.fr q (fun z => by have := hP _ _ z; omega) (fun _ _ z => by have := hP _ _ z; omega)⟩, hI, h6.fr q ⟨fun z => by have := hP _ _ z; omega, fun b z => by have := hP _ _ z; omega⟩, (q.i (fun z => by have := hP _ _ z; omega)).trans h7, (q.i (fun z => by have := hP _ _ z; omega)).trans h8⟩
theorem pQ_mo : ∀ a b, pQ a b → pMo a b := fun a b h => by unfold pQ at h; unfold pMo; omega
theorem pC_mo : ∀ a b, pC a b → pMo a b := fun a b h => by unfold pC pQ at h; unfold pMo; omega
theorem lw_of {lo hi : Nat} (h : hi ≤ 120) {σ σ1 : am_G} (q : smP (plc lo hi) σ σ1) : smP pLw σ σ1 := q.mono fun a b hh => Or.inl (Nat.lt_of_lt_of_le hh.2 h)
/-- one call of the law: the class's, then the model's -/
def OpC {β : Type} (V : β → Value) (g : β → Int64) (cL : am_C) (aL : List Value) (cM : am_C) (aM : List Value) (σ : am_G) : Prop :=
  ∃ k : Int32, am_Call am_TX 9 1 cL aL (mm σ) (am_Ok (some (.int k)) (fun σ1 => smP pLw σ σ1 ∧ ∃ (b : β) (d2 : Dk), TC σ1 d2 ∧ (k = 0 → σ1.2.1 132 0 = g b) ∧
    am_Call am_TX 18 0 cM aM (mm σ1) (am_Ok (some (V b)) (fun σ2 => smP pMo σ1 σ2 ∧ TM σ2 d2 ∧ σ2.1 120 0 = k))))
section OPC
variable {β : Type} {V : β → Value} {g : β → Int64} {b : β} {cL cM : am_C} {aL aM : List Value} {σ : am_G} {k : Int32} {d2 : Nat}
theorem sL_lw {σ σ1 : am_G} {x : Int64} (q : smP pLw σ σ1) : smP pLw σ (sL σ1 132 0 x) := q.trans (smP_sL (Or.inr rfl))
theorem TC.out {σ : am_G} {x : Int64} {d : Dk} (h : TC σ d) : TC (sL σ 132 0 x) d := h.fr (smP_sL (p := fun a _ => a = 132) rfl) (fun a b h1 h2 => by have h3 : a = 132 := h2; omega)
theorem TM.out {σ : am_G} {x : Int64} {d : Dk} (h : TM σ d) : TM (sL σ 132 0 x) d := h.fr (smP_sL (p := fun a _ => a = 132) rfl) (fun a b _ h1 h2 => by have h3 : a = 132 := h2; omega)
theorem TM.lw {σ σ1 : am_G} {d : Dk} (h : TM σ d) (q : smP pLw σ σ1) : TM σ1 d := h.fr q (fun a b h1 h2 h3 => by unfold pLw at h3; omega)
/-- an answer -/
theorem ansI {d : Dk} (T : TC σ d) (M : TM σ d) (hL : am_Call am_TX 9 0 cL aL (mm σ) (am_Ok (some (.int 0)) (fun σ2 => ∃ σ1, smP (plc 17 26) σ σ1 ∧ σ2 = sL σ1 132 0 (g b))))
    (hM : ∀ σ1, nVD σ1 d.1 → am_Call am_TX d2 0 cM aM (mm σ1) (am_Ok (some (V b)) (fun σ2 => smP pQ σ1 σ2 ∧ σ2.1 120 0 = 0))) (hd : d2 ≤ 18) : OpC V g cL aL cM aM σ := by
  refine ⟨0, (hL.room (Nat.le_refl _) (Nat.zero_le _)).mono (am_Ok.mono ?_)⟩
  rintro _ ⟨σ1, q, rfl⟩
  have q2 : smP pLw σ (sL σ1 132 0 (g b)) := sL_lw (lw_of (by decide) q)
  have M2 := M.lw q2
  refine ⟨q2, b, d, (T.q q).out, fun _ => ?_, ((hM _ M2.1).room hd (Nat.le_refl _)).mono (am_Ok.mono fun σ2 h => ⟨h.1.mono pQ_mo, M2.q h.1, h.2⟩)⟩
  show am_up σ1.2.1 132 0 (g b) 132 0 = g b
  simp [am_up]
/-- a refusal -/
theorem ansX {d : Dk} (T : TC σ d) (M : TM σ d) (hL : am_Call am_TX 9 1 cL aL (mm σ) (am_Ok (some (.int k)) (fun σ1 => smP (plc 17 26) σ σ1)))
    (hM : ∀ σ1, nVD σ1 d.1 → am_Call am_TX d2 0 cM aM (mm σ1) (am_Ok (some (V b)) (fun σ2 => smP pQ σ1 σ2 ∧ σ2.1 120 0 = k))) (hk : k ≠ 0) (hd : d2 ≤ 18) : OpC V g cL aL cM aM σ := by
  refine ⟨k, hL.mono (am_Ok.mono ?_)⟩
  intro σ1 q
  have q2 : smP pLw σ σ1 := lw_of (by decide) q
  have M2 := M.lw q2
  exact ⟨q2, b, d, T.q q, fun h => absurd h hk, ((hM _ M2.1).room hd (Nat.le_refl _)).mono (am_Ok.mono fun σ2 h => ⟨h.1.mono pQ_mo, M2.q h.1, h.2⟩)⟩
/-- a change -/
theorem chgI {D D2 : am_Sn} {n n2 : Nat} {Hs H2 : Nat → am_Sn} {k0 k1 : Option am_Sn} {nb : Nat} {B O : List Int32} {ec ep : Int32} (T : TC σ ⟨D, n, Hs, k0, k1, nb, B, O, ec, ep⟩) (M : TM σ ⟨D, n, Hs, k0, k1, nb, B, O, ec, ep⟩)
    (hL : am_Call am_TX 9 0 cL aL (mm σ) (am_Ok (some (.int 0)) (fun σ2 => ∃ σ1, (smP (plc 17 99) σ σ1 ∧ cS σ1 26 D2 ∧ cH σ1 n2 H2) ∧ σ2 = sL σ1 132 0 (g b))))
    (hM : ∀ σ1, nVD σ1 D → mH σ1 n Hs → TM σ1 ⟨D, n, Hs, k0, k1, nb, B, O, ec, ep⟩ → am_Call am_TX d2 0 cM aM (mm σ1) (am_Ok (some (V b)) (fun σ2 => smP pC σ1 σ2 ∧ σ2.1 120 0 = 0 ∧ nVD σ2 D2 ∧ mH σ2 n2 H2))) (hd : d2 ≤ 18) : OpC V g cL aL cM aM σ := by
  refine ⟨0, (hL.room (Nat.le_refl _) (Nat.zero_le _)).mono (am_Ok.mono ?_)⟩
  rintro _ ⟨σ1, ⟨q, qD, qH⟩, rfl⟩
  have q2 : smP pLw σ (sL σ1 132 0 (g b)) := sL_lw (lw_of (by decide) q)
  have M2 := M.lw q2
  refine ⟨q2, b, ⟨D2, n2, H2, k0, k1, nb, B, O, ec, ep⟩, (T.c q qD qH).out, fun _ => ?_, ((hM _ M2.1 M2.2.1 M2).room hd (Nat.le_refl _)).mono (am_Ok.mono fun σ2 h => ⟨h.1.mono pC_mo, M2.c h.1 h.2.2.1 h.2.2.2, h.2.1⟩)⟩
  show am_up σ1.2.1 132 0 (g b) 132 0 = g b
  simp [am_up]
/-- a text is written -/
theorem outI {D : am_Sn} {n : Nat} {Hs : Nat → am_Sn} {k0 k1 : Option am_Sn} {nb : Nat} {B O O2 : List Int32} {ec ep : Int32} {P : Nat → Nat → Prop} (hP : ∀ a b, P a b → (a = 120 ∧ (b < 12 ∧ b ≠ 4 ∨ b = 27)) ∨ a = 123 ∨ a = 124 ∨ a = 125 ∨ a = 131) (T : TC σ ⟨D, n, Hs, k0, k1, nb, B, O, ec, ep⟩) (M : TM σ ⟨D, n, Hs, k0, k1, nb, B, O, ec, ep⟩)
    (hL : am_Call am_TX 9 0 cL aL (mm σ) (am_Ok (some (.int 0)) (fun σ2 => ∃ σ1, (smP (plc 14 26) σ σ1 ∧ oC σ1 O2) ∧ σ2 = sL σ1 132 0 (g b))))
    (hM : ∀ σ1, nVD σ1 D → am_Call am_TX d2 0 cM aM (mm σ1) (am_Ok (some (V b)) (fun σ2 => smP P σ1 σ2 ∧ σ2.1 120 0 = 0 ∧ oM σ2 O2))) (hd : d2 ≤ 18) : OpC V g cL aL cM aM σ := by
  refine ⟨0, (hL.room (Nat.le_refl _) (Nat.zero_le _)).mono (am_Ok.mono ?_)⟩
  rintro _ ⟨σ1, ⟨q, qO⟩, rfl⟩
  have q2 : smP pLw σ (sL σ1 132 0 (g b)) := sL_lw (lw_of (by decide) q)
  have M2 := M.lw q2
  refine ⟨q2, b, ⟨D, n, Hs, k0, k1, nb, B, O2, ec, ep⟩, (T.o q qO).out, fun _ => ?_, ((hM _ M2.1).room hd (Nat.le_refl _)).mono (am_Ok.mono fun σ2 h => ⟨h.1.mono (fun a b z => by have := hP a b z; unfold pMo; omega), M2.o h.1 hP h.2.2, h.2.1⟩)⟩
  show am_up σ1.2.1 132 0 (g b) 132 0 = g b
  simp [am_up]
end OPC
/-- ranges -/
theorem ix_lt {x : Int32} {h : Nat} (hh : h ≤ 6) (hx : 0 ≤ x ∧ x < nI h) : ∃ r, r < h ∧ x = nI r := by
  obtain ⟨r, hr, rfl⟩ := nI_of (Int32.not_lt.mpr hx.1)
  refine ⟨r, ?_, rfl⟩
  rcases Nat.lt_or_ge r h with q | q
  · exact q
  · exact absurd hx.2 (nI_nlt q hr)
theorem ix_le {x : Int32} {h : Nat} (hh : h < 2 ^ 31) (hx : 0 ≤ x ∧ x ≤ nI h) : ∃ r, r ≤ h ∧ x = nI r := by
  obtain ⟨r, hr, rfl⟩ := nI_of (Int32.not_lt.mpr hx.1)
  refine ⟨r, ?_, rfl⟩
  rcases Nat.lt_or_ge h r with q | q
  · exact absurd hx.2 (nI_ge q hr)
  · exact q
theorem ix_rg {x : Int32} {lo hi : Nat} (hl : lo < 2 ^ 31) (hh : hi < 2 ^ 31) (hx : nI lo ≤ x ∧ x ≤ nI hi) : ∃ r, (lo ≤ r ∧ r ≤ hi) ∧ x = nI r := by
  have h0 : (0 : Int32) ≤ x := Int32.le_trans (nI_pos' hl) hx.1
  obtain ⟨r, hr, rfl⟩ := ix_le hh ⟨h0, hx.2⟩
  refine ⟨r, ⟨?_, hr⟩, rfl⟩
  rcases Nat.lt_or_ge r lo with q | q
  · exact absurd hx.1 (nI_ge q hl)
  · exact q
theorem msk_m1 (i : Nat) (hi : i < 32) : ((-1 : Int32).toBitVec).getLsbD i = true := by
  have h : ∀ i : Nat, i < 32 → ((-1 : Int32).toBitVec).getLsbD i = true := by decide +kernel
  exact h i hi
theorem msk_tn : ∀ h : Nat, h < 7 → (nI (2 ^ h - 1)).toBitVec.toNat = 2 ^ h - 1 := by decide +kernel
theorem msk_of {x : Int32} {h : Nat} (hh : h ≤ 6) (hx : x &&& (nI (2 ^ h - 1) ^^^ (-1)) = 0) : ∃ S, S < 2 ^ h ∧ x = nI S := by
  have hb : x.toBitVec &&& ((nI (2 ^ h - 1)).toBitVec ^^^ (-1 : Int32).toBitVec) = (0 : Int32).toBitVec := congrArg Int32.toBitVec hx
  have e : x = x &&& nI (2 ^ h - 1) := by
    apply Int32.toBitVec_inj.mp
    show x.toBitVec = x.toBitVec &&& (nI (2 ^ h - 1)).toBitVec
    apply BitVec.eq_of_getLsbD_eq
    intro i hi
    have h1 := congrArg (fun z : BitVec 32 => z.getLsbD i) hb
    have h0 : ((0 : Int32).toBitVec).getLsbD i = false := by
      have h : ∀ i : Nat, i < 32 → ((0 : Int32).toBitVec).getLsbD i = false := by decide +kernel
      exact h i hi
    simp only [BitVec.getLsbD_and, BitVec.getLsbD_xor, msk_m1 i hi, h0] at h1
    rw [BitVec.getLsbD_and]
    revert h1
    cases x.toBitVec.getLsbD i <;> cases (nI (2 ^ h - 1)).toBitVec.getLsbD i <;> decide
  obtain ⟨j, hj, e2⟩ := pk_andE x h (msk_tn h (by omega))
  exact ⟨j, hj, e.trans e2⟩
