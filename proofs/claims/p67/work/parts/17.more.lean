/-! ===== less known of the locals; the same memory otherwise written; matrices ===== -/
def am_lsub : List (Option Value) → List (Option Value) → Prop
  | [], _ => True
  | none :: a, [] => am_lsub a []
  | none :: a, _ :: b => am_lsub a b
  | some _ :: _, [] => False
  | some v :: a, w :: b => w = some v ∧ am_lsub a b
theorem am_lsub_prs {ad : Nat → Nat} : ∀ (a b : List (Option Value)) (i : Nat), am_lsub a b → ∀ q ∈ am_prs ad i a, q ∈ am_prs ad i b
  | [], b, i, _, q, hq => nomatch hq
  | none :: a, [], i, h, q, hq => nomatch am_lsub_prs (ad := ad) a [] (i + 1) h q hq
  | none :: a, none :: b, i, h, q, hq => am_lsub_prs (ad := ad) a b (i + 1) h q hq
  | none :: a, some w :: b, i, h, q, hq => List.mem_cons_of_mem _ (am_lsub_prs (ad := ad) a b (i + 1) h q hq)
  | some v :: a, w :: b, i, h, q, hq => by
    obtain ⟨h1, h2⟩ := h
    subst h1
    rcases List.mem_cons.mp hq with h | h
    · exact List.mem_cons.mpr (Or.inl h)
    · exact List.mem_cons_of_mem _ (am_lsub_prs (ad := ad) a b (i + 1) h2 q h)
theorem am_R.weak {Tx : am_Tx} {d k : Nat} {c : am_C} {pc : Nat} {ls ls' : List (Option Value)} {st : List Value} {μ : am_M} {Q : am_Res → Prop} (h : am_R Tx d k c pc ls' st μ Q) (hs : am_lsub ls' ls) : am_R Tx d k c pc ls st μ Q := by
  intro D b0 en p l e Rm s m args below meth cc H locs cells slots mc ms la C B Wd S L hk
  exact h D b0 en p l e Rm s m args below meth cc H locs cells slots mc ms la C B Wd S (am_lv_sub L (am_lsub_prs _ _ 0 hs)) hk
theorem am_R.mem {Tx : am_Tx} {d k : Nat} {c : am_C} {pc : Nat} {ls : List (Option Value)} {st : List Value} {σ σ' : am_G} {Q : am_Res → Prop} (e : σ = σ') (h : am_R Tx d k c pc ls st (mm σ') Q) : am_R Tx d k c pc ls st (mm σ) Q := by rw [e]; exact h
theorem R_gIN {Tx : am_Tx} {d k : Nat} {c : am_C} {pc idx ci j kp n : Nat} {ls : List (Option Value)} {st : List Value} {σ : am_G} {Q : am_Res → Prop} (hc : c.2 pc = some (.getfield idx, 3, ci, j)) (hS : Sh[kp]? = some (0, ci)) (hf : fdI ci j) (hv : σ.1 kp j = nI n) (h : am_R Tx d k c (pc + 3) ls (.int (nI n) :: st) (mm σ) Q) : am_R Tx d k c pc ls (.ref kp :: st) (mm σ) Q :=
  R_gI hc hS hf (by rw [hv]; exact h)
/-- a matrix of h rows, w columns, with the numbers f, is put at k -/
def setM (σ : am_G) (k h w : Nat) (f : Nat → Nat → Int64) : am_G :=
  (fun a b => if a = k then (if b = 0 then nI h else if b = 1 then nI w else σ.1 a b) else σ.1 a b, fun a b => if a = k + 1 then (if b < 36 then f (b / 6) (b % 6) else σ.2.1 a b) else σ.2.1 a b, σ.2.2)
/-- the matrix at k has h rows, w columns, and the numbers f -/
def vM (σ : am_G) (k h w : Nat) (f : Nat → Nat → Int64) : Prop := (σ.1 k 0 = nI h ∧ h ≤ 6) ∧ (σ.1 k 1 = nI w ∧ w ≤ 6) ∧ ∀ i j, i < 6 → j < 6 → σ.2.1 (k + 1) (i * 6 + j) = f i j
theorem vM.at {σ : am_G} {k h w i j : Nat} {f : Nat → Nat → Int64} (h0 : vM σ k h w f) (hi : i < 6) (hj : j < 6) : gL σ k i j = f i j := by
  unfold gL
  rw [if_pos ⟨hi, hj⟩]
  exact h0.2.2 i j hi hj
theorem vM_setM {σ : am_G} {k h w : Nat} {f : Nat → Nat → Int64} (hh : h ≤ 6) (hw : w ≤ 6) : vM (setM σ k h w f) k h w f := by
  refine ⟨⟨?_, hh⟩, ⟨?_, hw⟩, fun i j hi hj => ?_⟩
  · simp [setM]
  · simp [setM]
  · show (if k + 1 = k + 1 then (if i * 6 + j < 36 then f ((i * 6 + j) / 6) ((i * 6 + j) % 6) else _) else _) = _
    rw [if_pos rfl, if_pos (by omega), show (i * 6 + j) / 6 = i by omega, show (i * 6 + j) % 6 = j by omega]
/-- two matrix places that are apart -/
def matA (k k2 : Nat) : Prop := k ≠ k2 ∧ k + 1 ≠ k2 ∧ k ≠ k2 + 1
theorem vM.off {σ : am_G} {k h w k2 h2 w2 : Nat} {f f2 : Nat → Nat → Int64} (h0 : vM σ k2 h2 w2 f2) (ha : matA k k2) : vM (setM σ k h w f) k2 h2 w2 f2 := by
  obtain ⟨a1, a2, a3⟩ := ha
  obtain ⟨⟨b1, b2⟩, ⟨b3, b4⟩, b5⟩ := h0
  refine ⟨⟨?_, b2⟩, ⟨?_, b4⟩, fun i j hi hj => ?_⟩
  · show (if k2 = k then _ else _) = _
    rw [if_neg (by omega)]; exact b1
  · show (if k2 = k then _ else _) = _
    rw [if_neg (by omega)]; exact b3
  · show (if k2 + 1 = k + 1 then _ else _) = _
    rw [if_neg (by omega)]; exact b5 i j hi hj
theorem gL_setM {σ : am_G} {k h w i j : Nat} {f : Nat → Nat → Int64} : gL (setM σ k h w f) k i j = if i < 6 ∧ j < 6 then f i j else 0 := by
  unfold gL
  by_cases hij : i < 6 ∧ j < 6
  · rw [if_pos hij, if_pos hij]
    show (if k + 1 = k + 1 then (if i * 6 + j < 36 then f ((i * 6 + j) / 6) ((i * 6 + j) % 6) else _) else _) = _
    rw [if_pos rfl, if_pos (by omega), show (i * 6 + j) / 6 = i by omega, show (i * 6 + j) % 6 = j by omega]
  · rw [if_neg hij, if_neg hij]
theorem gL_off {σ : am_G} {k h w k2 i j : Nat} {f : Nat → Nat → Int64} (hk : k ≠ k2) : gL (setM σ k h w f) k2 i j = gL σ k2 i j := by
  unfold gL
  by_cases hij : i < 6 ∧ j < 6
  · rw [if_pos hij, if_pos hij]
    show (if k2 + 1 = k + 1 then _ else _) = _
    rw [if_neg (by omega)]
  · rw [if_neg hij, if_neg hij]
/-- one number of a grid -/
def up2 (f : Nat → Nat → Int64) (i j : Nat) (x : Int64) : Nat → Nat → Int64 := fun a b => if a = i ∧ b = j then x else f a b
theorem setM_put {σ : am_G} {k h w i j : Nat} {f : Nat → Nat → Int64} {x : Int64} (hi : i < 6) (hj : j < 6) : uL (setM σ k h w f) k i j x = setM σ k h w (up2 f i j x) := by
  unfold uL
  rw [if_pos ⟨hi, hj⟩]
  refine Prod.ext rfl (Prod.ext ?_ rfl)
  funext a b
  show (if a = k + 1 then (if b = i * 6 + j then x else (if a = k + 1 then (if b < 36 then f (b / 6) (b % 6) else σ.2.1 a b) else σ.2.1 a b)) else (if a = k + 1 then _ else σ.2.1 a b)) = (if a = k + 1 then (if b < 36 then up2 f i j x (b / 6) (b % 6) else σ.2.1 a b) else σ.2.1 a b)
  by_cases ha : a = k + 1
  · simp only [if_pos ha]
    by_cases hb : b = i * 6 + j
    · subst hb
      rw [if_pos rfl, if_pos (by omega)]
      unfold up2
      rw [if_pos ⟨by omega, by omega⟩]
    · rw [if_neg hb]
      by_cases h36 : b < 36
      · rw [if_pos h36, if_pos h36]
        unfold up2
        rw [if_neg (by omega)]
      · rw [if_neg h36, if_neg h36]
  · simp only [if_neg ha]
/-- a matrix is put where it is -/
theorem setM_self {σ : am_G} {k h w : Nat} {f : Nat → Nat → Int64} (h0 : vM σ k h w f) : setM σ k h w f = σ := by
  obtain ⟨⟨b1, b2⟩, ⟨b3, b4⟩, b5⟩ := h0
  refine Prod.ext ?_ (Prod.ext ?_ rfl)
  · funext a b
    show (if a = k then (if b = 0 then nI h else if b = 1 then nI w else σ.1 a b) else σ.1 a b) = σ.1 a b
    by_cases ha : a = k
    · subst ha
      rw [if_pos rfl]
      by_cases hb : b = 0
      · subst hb; rw [if_pos rfl, b1]
      · rw [if_neg hb]
        by_cases hb : b = 1
        · subst hb; rw [if_pos rfl, b3]
        · rw [if_neg hb]
    · rw [if_neg ha]
  · funext a b
    show (if a = k + 1 then (if b < 36 then f (b / 6) (b % 6) else σ.2.1 a b) else σ.2.1 a b) = σ.2.1 a b
    by_cases ha : a = k + 1
    · subst ha
      rw [if_pos rfl]
      by_cases hb : b < 36
      · rw [if_pos hb, ← b5 (b / 6) (b % 6) (by omega) (by omega), show b / 6 * 6 + b % 6 = b by omega]
      · rw [if_neg hb]
    · rw [if_neg ha]
theorem setM_setM {σ : am_G} {k h w h2 w2 : Nat} {f f2 : Nat → Nat → Int64} : setM (setM σ k h w f) k h2 w2 f2 = setM σ k h2 w2 f2 := by
  refine Prod.ext ?_ (Prod.ext ?_ rfl)
  · funext a b
    simp only [setM]
    by_cases ha : a = k
    · simp only [if_pos ha]
      by_cases hb : b = 0
      · simp only [if_pos hb]
      · simp only [if_neg hb]
        by_cases hb : b = 1
        · simp only [if_pos hb]
        · simp only [if_neg hb]
    · simp only [if_neg ha]
  · funext a b
    simp only [setM]
    by_cases ha : a = k + 1
    · simp only [if_pos ha]
      by_cases hb : b < 36
      · simp only [if_pos hb]
      · simp only [if_neg hb]
    · simp only [if_neg ha]
theorem setM_congr {σ : am_G} {k h w : Nat} {f f2 : Nat → Nat → Int64} (hf : ∀ i j, i < 6 → j < 6 → f i j = f2 i j) : setM σ k h w f = setM σ k h w f2 := by
  refine Prod.ext rfl (Prod.ext ?_ rfl)
  funext a b
  simp only [setM]
  by_cases ha : a = k + 1
  · simp only [if_pos ha]
    by_cases hb : b < 36
    · simp only [if_pos hb]; exact hf _ _ (by omega) (by omega)
    · simp only [if_neg hb]
  · simp only [if_neg ha]
