/-! ===== changes of the class's desk ===== -/
/-- a snapshot: height, width, entries, vector, relations, primes' number, the other ints -/
abbrev am_Sn : Type := Nat × Nat × am_Gr × am_Gr × Nat × am_Gr × Nat × (Nat → Int32)
def cS (σ : am_G) (s : Nat) (D : am_Sn) : Prop := vS σ s D.1 D.2.1 D.2.2.1 D.2.2.2.1 D.2.2.2.2.1 D.2.2.2.2.2.1 D.2.2.2.2.2.2.1 D.2.2.2.2.2.2.2
/-- what can be undone: n snapshots, the latest first, in a ring -/
def cH (σ : am_G) (n : Nat) (Hs : Nat → am_Sn) : Prop := ∃ t, t < 6 ∧ σ.1 37 1 = nI t ∧ σ.1 37 0 = nI n ∧ n ≤ 6 ∧ ∀ i, i < n → cS σ (39 + 10 * ((t + 5 - i) % 6)) (Hs i)
def hC (D : am_Sn) (Hs : Nat → am_Sn) : Nat → am_Sn := fun i => match i with
  | 0 => D
  | i + 1 => Hs i
theorem cS.fr {P : Nat → Nat → Prop} {σ σ1 : am_G} (q : smP P σ σ1) {s : Nat} {D : am_Sn} (h : cS σ s D) (hp : ∀ a b, s ≤ a → a < s + 10 → ¬ P a b) : cS σ1 s D := q.vS h hp
theorem cH.fr {P : Nat → Nat → Prop} {σ σ1 : am_G} (q : smP P σ σ1) {n : Nat} {Hs : Nat → am_Sn} (h : cH σ n Hs) (hp : ∀ a b, 37 ≤ a → a < 99 → ¬ P a b) : cH σ1 n Hs := by
  obtain ⟨t, a, b, c, d, e⟩ := h
  exact ⟨t, a, (q.i (hp _ _ (by omega) (by omega))).trans b, (q.i (hp _ _ (by omega) (by omega))).trans c, d, fun i hi => (e i hi).fr q (fun x y h1 h2 => hp x y (by omega) (by omega))⟩
theorem sp_pushV {σ : am_G} {n : Nat} {Hs : Nat → am_Sn} {D : am_Sn} (hv : cS σ 26 D) (hH : cH σ n Hs) : am_Call am_TX 3 0 c_History_push [.ref 37, .ref 26] (mm σ) (am_Ok none (fun σ1 => smP (plc 37 99) σ σ1 ∧ cH σ1 (nxZ n) (hC D Hs))) := by
  obtain ⟨t, ht, h1, h2, h3, h4⟩ := hH
  refine (sp_push (t := t) (z := n) hv isState_26 (Or.inl (by omega)) h1 ht h2 h3).mono (am_Ok.mono fun τ e => ?_)
  subst e
  have f1 : smP (plc (39 + 10 * t) (39 + 10 * t + 10)) σ (putS σ (39 + 10 * t) D.1 D.2.1 D.2.2.1 D.2.2.2.1 D.2.2.2.2.1 D.2.2.2.2.2.1 D.2.2.2.2.2.2.1 D.2.2.2.2.2.2.2) := putS_fr (fun a b _ _ => by unfold plc; omega)
  have f2 : ∀ {τ : am_G} {x y : Int32}, smP (plc 37 38) τ (sI (sI τ 37 1 x) 37 0 y) := (smP_sI (p := plc 37 38) (k := 37) (j := 1) (by unfold plc; omega)).trans (smP_sI (p := plc 37 38) (k := 37) (j := 0) (by unfold plc; omega))
  refine ⟨(f1.mono (fun a b => by unfold plc; omega)).trans (f2.mono (fun a b => by unfold plc; omega)), nxT t, ?_, ?_, sI_s, ?_, fun i hi => ?_⟩
  · unfold nxT; split <;> omega
  · rw [sI_o (Or.inr (by decide))]; exact sI_s
  · unfold nxZ; omega
  · refine cS.fr f2 ?_ (fun a b _ _ => by unfold plc; omega)
    have hz : i < min (n + 1) 6 := hi
    match i, hz with
    | 0, _ =>
      rw [show (nxT t + 5 - 0) % 6 = t by unfold nxT; split <;> omega]
      exact vS_putS hv.1.1.2 hv.1.2.1.2 hv.2.2.1.1.2 hv.2.2.2.1.2
    | i + 1, hz =>
      have e1 : (nxT t + 5 - (i + 1)) % 6 = (t + 5 - i) % 6 := by unfold nxT; split <;> omega
      have e2 : (t + 5 - i) % 6 ≠ t := by omega
      rw [e1]
      exact (h4 i (by omega)).fr f1 (fun a b _ _ => by unfold plc; omega)
/-- the ints: 0, 1 the counts, 2, 3 the claim, 4 .. 7 the guess -/
def uJ (I : Nat → Int32) (k : Nat) (x : Int32) : Nat → Int32 := fun j => if j = k then x else I j
