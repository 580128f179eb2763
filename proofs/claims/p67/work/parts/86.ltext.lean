/-! ===== the law's text as it is built ===== -/
def rwT (e : Nat → Int) : Nat → List Int32
  | 0 => []
  | c + 1 => (rwT e c ++ (if c = 0 then [] else [44])) ++ dgI (e c)
def tRow : List Int32 := [114, 111, 119, 32]
def tPrm : List Int32 := [112, 114, 105, 109, 101, 32]
def tMat : List Int32 := [109, 97, 116, 114, 105, 120, 32]
def rsT (A : List Int32) (ev : Nat → Nat → Int) (w : Nat) : Nat → List Int32
  | 0 => A
  | r + 1 => ((rsT A ev w r ++ tRow) ++ rwT (ev r) w) ++ [59]
def hdT (h w : Nat) : List Int32 := (((tMat ++ dgP h) ++ [32]) ++ dgP w) ++ [59]
def psL (p : Nat → Nat) : Nat → List Nat
  | 0 => []
  | k + 1 => if p k ∈ psL p k then psL p k else psL p k ++ [p k]
theorem rw_tl {e : Nat → Int} {w : Nat} {Z : List Int32} : ∀ u j, j + (u + 1) = w → rwT e j ++ ((if j = 0 then [] else [44]) ++ rwTl e w Z (u + 1) j) = rwT e w ++ ([59] ++ Z)
  | 0, j, h => by
    obtain rfl : w = j + 1 := by omega
    show rwT e j ++ ((if j = 0 then [] else [44]) ++ (dgI (e j) ++ ([if j = j + 1 - 1 then 59 else 44] ++ Z))) = ((rwT e j ++ (if j = 0 then [] else [44])) ++ dgI (e j)) ++ ([59] ++ Z)
    rw [if_pos (show j = j + 1 - 1 by omega)]
    simp only [List.append_assoc]
  | u + 1, j, h => by
    have ih := rw_tl (e := e) (w := w) (Z := Z) u (j + 1) (by omega)
    rw [← ih]
    show rwT e j ++ ((if j = 0 then [] else [44]) ++ (dgI (e j) ++ ([if j = w - 1 then 59 else 44] ++ rwTl e w Z (u + 1) (j + 1)))) = ((rwT e j ++ (if j = 0 then [] else [44])) ++ dgI (e j)) ++ ((if j + 1 = 0 then [] else [44]) ++ rwTl e w Z (u + 1) (j + 1))
    rw [if_neg (show ¬ j = w - 1 by omega), if_neg (show ¬ j + 1 = 0 by omega)]
    simp only [List.append_assoc]
theorem rs_tl {A : List Int32} {ev : Nat → Nat → Int} {w h : Nat} {Y : List Int32} (hw : 0 < w) : ∀ u r, r + u = h → rsT A ev w r ++ rwsTl ev w Y u r = rsT A ev w h ++ Y
  | 0, r, hr => by
    obtain rfl : r = h := by omega
    rfl
  | u + 1, r, hr => by
    have ih := rs_tl (A := A) (ev := ev) (h := h) (Y := Y) hw u (r + 1) (by omega)
    rw [← ih]
    have h1 := rw_tl (e := ev r) (w := w) (Z := rwsTl ev w Y u (r + 1)) (w - 1) 0 (by omega)
    rw [show w - 1 + 1 = w by omega] at h1
    have h1 : rwTl (ev r) w (rwsTl ev w Y u (r + 1)) w 0 = rwT (ev r) w ++ ([59] ++ rwsTl ev w Y u (r + 1)) := h1
    show rsT A ev w r ++ (wRo ++ ([32] ++ rwTl (ev r) w (rwsTl ev w Y u (r + 1)) w 0)) = (((rsT A ev w r ++ tRow) ++ rwT (ev r) w) ++ [59]) ++ rwsTl ev w Y u (r + 1)
    rw [h1, show tRow = wRo ++ [32] from rfl]
    simp only [List.append_assoc]
theorem tx_eq {ev : Nat → Nat → Int} {h w : Nat} {Y : List Int32} (hw : 0 < w) : rsT (hdT h w) ev w h ++ Y = wM ++ ([32] ++ (dgP h ++ ([32] ++ (dgP w ++ ([59] ++ rwsTl ev w Y h 0))))) := by
  rw [← rs_tl (A := hdT h w) (ev := ev) (Y := Y) hw h 0 (by omega)]
  show hdT h w ++ rwsTl ev w Y h 0 = _
  unfold hdT
  rw [show tMat = wM ++ [32] from rfl]
  simp only [List.append_assoc]
theorem psT_s {p : Nat} : ∀ l : List Nat, psT (l ++ [p]) = psT l ++ ((tPrm ++ dgP p) ++ [59])
  | [] => by
    show wPr ++ ([32] ++ (dgP p ++ ([59] ++ []))) = (tPrm ++ dgP p) ++ [59]
    rw [show tPrm = wPr ++ [32] from rfl]
    simp only [List.append_assoc, List.append_nil]
  | q :: l => by
    show wPr ++ ([32] ++ (dgP q ++ ([59] ++ psT (l ++ [p])))) = (wPr ++ ([32] ++ (dgP q ++ ([59] ++ psT l)))) ++ ((tPrm ++ dgP p) ++ [59])
    rw [psT_s l]
    simp only [List.append_assoc]
theorem psL_le {p : Nat → Nat} : ∀ k, (psL p k).length ≤ k
  | 0 => Nat.le_refl 0
  | k + 1 => by
    have := @psL_le p k
    simp only [psL]
    split
    · omega
    · rw [List.length_append, show [p k].length = 1 from rfl]; omega
theorem psL_nd {p : Nat → Nat} : ∀ k, (psL p k).Nodup
  | 0 => List.nodup_nil
  | k + 1 => by
    have ih := @psL_nd p k
    simp only [psL]
    split
    · exact ih
    · rw [List.nodup_append]
      refine ⟨ih, List.nodup_cons.mpr ⟨fun h => absurd h List.not_mem_nil, List.nodup_nil⟩, fun a ha b hb e => ?_⟩
      rw [List.mem_singleton] at hb
      rw [e, hb] at ha
      exact absurd ha (by assumption)
theorem psL_pr {p : Nat → Nat} (hp : ∀ k, p k ∈ prL) : ∀ k, ∀ q ∈ psL p k, q ∈ prL
  | 0 => fun q h => absurd h List.not_mem_nil
  | k + 1 => by
    have ih := @psL_pr p hp k
    simp only [psL]
    split
    · exact ih
    · intro q hq
      rcases List.mem_append.mp hq with z | z
      · exact ih q z
      · rw [List.mem_singleton.mp z]; exact hp k
/-! lengths -/
theorem dgP_le {u : Nat} : (dgP u).length ≤ 2 := by rw [dgP_l]; split <;> omega
theorem dgI_le {z : Int} : (dgI z).length ≤ 3 := by
  unfold dgI
  rw [dgZ_l]
  have : ∀ b : Bool, cond b 1 0 ≤ 1 := by decide
  have := this (decide (z < 0))
  split <;> omega
theorem rwT_le {e : Nat → Int} : ∀ c, (rwT e c).length ≤ 4 * c
  | 0 => Nat.le_refl 0
  | c + 1 => by
    have h1 := @rwT_le e c
    have h2 := @dgI_le (e c)
    show ((rwT e c ++ (if c = 0 then [] else [44])) ++ dgI (e c)).length ≤ _
    rw [List.length_append, List.length_append]
    have h3 : (if c = 0 then [] else [44] : List Int32).length ≤ 1 := by split <;> decide
    omega
theorem rsT_le {A : List Int32} {ev : Nat → Nat → Int} {w : Nat} (hw : w ≤ 6) : ∀ r, (rsT A ev w r).length ≤ A.length + 29 * r
  | 0 => by show A.length ≤ _; omega
  | r + 1 => by
    have h1 := @rsT_le A ev w hw r
    have h2 := @rwT_le (ev r) w
    show (((rsT A ev w r ++ tRow) ++ rwT (ev r) w) ++ [59]).length ≤ _
    rw [List.length_append, List.length_append, List.length_append, show tRow.length = 4 from rfl, show [(59 : Int32)].length = 1 from rfl]
    omega
theorem hdT_le {h w : Nat} : (hdT h w).length ≤ 13 := by
  unfold hdT
  have h1 := @dgP_le h
  have h2 := @dgP_le w
  rw [List.length_append, List.length_append, List.length_append, List.length_append, show tMat.length = 7 from rfl, show [(32 : Int32)].length = 1 from rfl, show [(59 : Int32)].length = 1 from rfl]
  omega
theorem psT_le : ∀ l : List Nat, (psT l).length ≤ 9 * l.length
  | [] => Nat.le_refl 0
  | p :: l => by
    have h1 := psT_le l
    have h2 := @dgP_le p
    show (wPr ++ ([32] ++ (dgP p ++ ([59] ++ psT l)))).length ≤ 9 * (l.length + 1)
    rw [List.length_append, List.length_append, List.length_append, List.length_append, show wPr.length = 5 from rfl, show [(32 : Int32)].length = 1 from rfl, show [(59 : Int32)].length = 1 from rfl]
    omega
/-! letters -/
def lts (T : List Int32) : Prop := ∀ x ∈ T, ∃ n, n < 128 ∧ x = nI n
theorem lts_a {A B : List Int32} (h1 : lts A) (h2 : lts B) : lts (A ++ B) := fun x hx => (List.mem_append.mp hx).elim (h1 x) (h2 x)
theorem lts_n : lts [] := fun x hx => absurd hx List.not_mem_nil
theorem lts_c {x : Int32} {l : List Int32} (h : ∃ n, n < 128 ∧ x = nI n) (hl : lts l) : lts (x :: l) := fun y hy => (List.mem_cons.mp hy).elim (fun e => e ▸ h) (hl y)
theorem lts_P {u : Nat} (hu : u < 100) : lts (dgP u) := by
  unfold dgP
  split
  · exact lts_c ⟨48 + u, by omega, rfl⟩ lts_n
  · exact lts_c ⟨48 + u / 10, by omega, rfl⟩ (lts_c ⟨48 + u % 10, by omega, rfl⟩ lts_n)
theorem lts_I {z : Int} (hz : z.natAbs < 100) : lts (dgI z) := by
  unfold dgI dgZ
  cases decide (z < 0)
  · exact lts_P hz
  · exact lts_c ⟨45, by decide, rfl⟩ (lts_P hz)
theorem lts_w {e : Nat → Int} (he : ∀ j, (e j).natAbs < 100) : ∀ c, lts (rwT e c)
  | 0 => lts_n
  | c + 1 => by
    refine lts_a (lts_a (lts_w he c) ?_) (lts_I (he c))
    split
    · exact lts_n
    · exact lts_c ⟨44, by decide, rfl⟩ lts_n
theorem lts_of {T : List Int32} (h : ∀ j, j < T.length → (T.getD j 0).toNatClampNeg < 128 ∧ T.getD j 0 = nI (T.getD j 0).toNatClampNeg) : lts T := by
  intro x hx
  obtain ⟨i, hi, rfl⟩ := List.getElem_of_mem hx
  have := h i hi
  rw [List.getD_eq_getElem?_getD, List.getElem?_eq_getElem hi] at this
  exact ⟨_, this.1, this.2⟩
theorem lts_r {A : List Int32} {ev : Nat → Nat → Int} {w : Nat} (hA : lts A) (he : ∀ r j, (ev r j).natAbs < 100) : ∀ r, lts (rsT A ev w r)
  | 0 => hA
  | r + 1 => lts_a (lts_a (lts_a (lts_r hA he r) (lts_of (by decide +kernel))) (lts_w (he r) w)) (lts_c ⟨59, by decide, rfl⟩ lts_n)
theorem lts_h {h w : Nat} (hh : h < 100) (hw : w < 100) : lts (hdT h w) := lts_a (lts_a (lts_a (lts_a (lts_of (by decide +kernel)) (lts_P hh)) (lts_c ⟨32, by decide, rfl⟩ lts_n)) (lts_P hw)) (lts_c ⟨59, by decide, rfl⟩ lts_n)
theorem lts_p : ∀ l : List Nat, (∀ p ∈ l, p < 100) → lts (psT l)
  | [], _ => lts_n
  | p :: l, h => lts_a (lts_of (by decide +kernel)) (lts_a (lts_c ⟨32, by decide, rfl⟩ lts_n) (lts_a (lts_P (h p List.mem_cons_self)) (lts_a (lts_c ⟨59, by decide, rfl⟩ lts_n) (lts_p l (fun q hq => h q (List.mem_cons_of_mem _ hq))))))
theorem ltr_lts {T : List Int32} (h : lts T) : ltr T := by
  intro j hj
  obtain ⟨n, h1, h2⟩ := h _ (List.getElem_mem hj)
  refine ⟨n, h1, ?_⟩
  rw [List.getD_eq_getElem?_getD, List.getElem?_eq_getElem hj]
  exact h2
theorem asc_n : ∀ n : Nat, n < 128 → ((nI n &&& 255).toUInt32 % 65536).toInt32 = nI n ∧ narrow .char (.int (nI n)) = .int (nI n) := by decide +kernel
theorem asc_ltr {T : List Int32} (h : ltr T) : ∀ j, j < T.length → asc (T.getD j 0) := by
  intro j hj
  obtain ⟨n, h1, h2⟩ := h j hj
  rw [h2]
  exact asc_n n h1
/-! an entry's int -/
theorem iZ_nZ : ∀ u : Nat, u ≤ 20 → iZ u = nZ false u ∧ iZ (-(u : Int)) = nZ true u := by decide +kernel
theorem iZ_dg {z : Int} (hz : -20 ≤ z ∧ z ≤ 20) : iZ z = nZ (decide (z < 0)) z.natAbs := by
  by_cases h : z < 0
  · rw [decide_eq_true h, ← (iZ_nZ z.natAbs (by omega)).2]
    congr 1
    omega
  · rw [decide_eq_false h, ← (iZ_nZ z.natAbs (by omega)).1]
    congr 1
    omega
theorem iZ_64 {z : Int} (hz : -20 ≤ z ∧ z ≤ 20) : (Int64.ofInt z).toInt32 = iZ z := by
  rw [← Int32.toInt_inj, Int64.toInt_toInt32, Int64.toInt_ofInt_of_le (by omega) (by omega), iZ_t (by omega), Int.bmod_eq_of_le (by omega) (by omega)]
