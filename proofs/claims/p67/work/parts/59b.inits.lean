/-! ===== the constructors ===== -/
def okL (n : Nat) : List Value → Prop
  | [] => True
  | v :: l => am_okv n v ∧ okL n l
def okO (n : Nat) : List (Option Value) → Prop
  | [] => True
  | some v :: l => am_okv n v ∧ okO n l
  | none :: l => okO n l
theorem okL.all {n : Nat} : ∀ {l : List Value}, okL n l → ∀ v ∈ l, am_okv n v
  | [], _, v, h => by cases h
  | w :: l, h0, v, h => by
    rcases List.mem_cons.mp h with h | h
    · rw [h]; exact h0.1
    · exact h0.2.all v h
theorem okO.all {n : Nat} : ∀ {l : List (Option Value)}, okO n l → ∀ v, some v ∈ l → am_okv n v
  | [], _, v, h => by cases h
  | some w :: l, h0, v, h => by
    rcases List.mem_cons.mp h with h | h
    · cases h; exact h0.1
    · exact okO.all (l := l) h0.2 v h
  | none :: l, h0, v, h => by
    rcases List.mem_cons.mp h with h | h
    · cases h
    · exact okO.all (l := l) h0 v h
theorem okL_n {n : Nat} : okL n [] := trivial
theorem okL_r {n k : Nat} {l : List Value} (h : k < n) (t : okL n l) : okL n (.ref k :: l) := ⟨Or.inl h, t⟩
theorem okL_i {n : Nat} {x : Int32} {l : List Value} (t : okL n l) : okL n (.int x :: l) := ⟨trivial, t⟩
theorem okO_n {n : Nat} : okO n [] := trivial
theorem okO_0 {n : Nat} {l : List (Option Value)} (t : okO n l) : okO n (none :: l) := t
theorem okO_r {n k : Nat} {l : List (Option Value)} (h : k < n) (t : okO n l) : okO n (some (.ref k) :: l) := ⟨Or.inl h, t⟩
theorem okO_i {n : Nat} {x : Int32} {l : List (Option Value)} (t : okO n l) : okO n (some (.int x) :: l) := ⟨trivial, t⟩
theorem gV_of {n : Nat} {ls : List (Option Value)} {st : List Value} (h1 : okO n ls) (h2 : okL n st) : gV n ls st := ⟨h1.all, h2.all⟩
theorem gOk.s {n : Nat} {I : List (Nat × Nat × Int32)} {L : List (Nat × Nat × Int64)} {P : List (Nat × Nat × Nat)} (h : gOk n I L P) {sh : Nat × Nat} (hs : Sh[n]? = some sh) : gOk (n + 1) I L P :=
  h.up (Nat.le_succ n) (by have h1 := (List.getElem?_eq_some_iff.mp hs).1; have h2 : n < 120 := h1; omega)
def gF (c : am_C) (ci j : Nat) : Prop := ((am_q ci).2.1 j).2.2.2 = false ∨ (((am_q ci).2.1 j).2.2.2 = true ∧ c.1.1.name = "<init>" ∧ ((am_q ci).2.1 j).1 = c.1.1.cls)
section GPUT
variable {Tx : am_Tx} {d k : Nat} {c : am_C} {pc idx a b ci j kp : Nat} {ls : List (Option Value)} {st : List Value} {Q : am_Res → Prop} {xs : Nat → Int32} {N : Int32} {n : Nat} {I : List (Nat × Nat × Int32)} {L : List (Nat × Nat × Int64)} {P : List (Nat × Nat × Nat)}
theorem G_pI {x : Int32} (hc : c.2 pc = some (.putfield idx, 3, ci, j)) (hci : ci < 13) (hS : Sh[kp]? = some (0, ci)) (hk : kp < n) (hj : j < am_nf ci) (ht : am_ty ci j = .int) (hf : gF c ci j)
    (h : am_R Tx d k c (pc + 3) ls st (mG xs N n ((kp, j, x) :: I) L P) Q) : am_R Tx d k c pc ls (.int x :: .ref kp :: st) (mG xs N n I L P) Q := by
  rcases hf with hf | ⟨hf, h1, h2⟩
  · exact R_putI (a := 0) (b := 0) hc hci (mG_sh hS hk) hj (by rw [ht]; exact fun _ _ _ => rfl) hf (by rw [ht]; rfl) (by rw [ht]; rfl) h
  · exact R_putIF (a := 0) (b := 0) hc hci (mG_sh hS hk) hj (by rw [ht]; exact fun _ _ _ => rfl) hf (by rw [ht]; rfl) (by rw [ht]; rfl) h1 h2 h
theorem G_pP {x : Nat} (hc : c.2 pc = some (.putfield idx, 3, ci, j)) (hci : ci < 13) (hS : Sh[kp]? = some (0, ci)) (hk : kp < n) (hj : j < am_nf ci) (ht : ∀ ad i q, am_fv ad (am_ty ci j) i q = va_rf (q.map ad)) (hn : ∀ z, narrow (am_ty ci j) (.ref z) = .ref z) (hfit : ∀ z, fits (am_ty ci j) (.ref z) = true) (hf : gF c ci j)
    (h : am_R Tx d k c (pc + 3) ls st (mG xs N n I L ((kp, j, x) :: P)) Q) : am_R Tx d k c pc ls (.ref x :: .ref kp :: st) (mG xs N n I L P) Q := by
  rcases hf with hf | ⟨hf, h1, h2⟩
  · exact R_putP (a := 0) (b := 0) hc hci (mG_sh hS hk) hj ht hf hn hfit h
  · exact R_putPF (a := 0) (b := 0) hc hci (mG_sh hS hk) hj ht hf hn hfit h1 h2 h
theorem G_gP {x : Nat} (hc : c.2 pc = some (.getfield idx, 3, ci, j)) (hci : ci < 13) (hS : Sh[kp]? = some (0, ci)) (hk : kp < n) (hj : j < am_nf ci) (ht : ∀ ad i q, am_fv ad (am_ty ci j) i q = va_rf (q.map ad)) (hp : giP P kp j = some x)
    (h : am_R Tx d k c (pc + 3) ls (.ref x :: st) (mG xs N n I L P) Q) : am_R Tx d k c pc ls (.ref kp :: st) (mG xs N n I L P) Q := R_getP (a := 0) (b := 0) hc hci (mG_sh hS hk) hj ht hp h
theorem G_aast {M x : Nat} {i : Int32} (hc : c.2 pc = some (.aastore, 1, a, b)) (hS : Sh[kp]? = some (5, M)) (hk : kp < n) (hx : Sh[x]? = some (0, ci)) (hxn : x < n) (hci : ci < 13) (hcl : (am_q ci).1 = "RankDesk$State") (hi : i = nI j) (hj : j < M) (hM : M < 2 ^ 31)
    (h : am_R Tx d k c (pc + 1) ls st (mG xs N n I L ((kp, j, x) :: P)) Q) : am_R Tx d k c pc ls (.ref x :: .int i :: .ref kp :: st) (mG xs N n I L P) Q := R_aast hc (mG_sh hS hk) (mG_sh hx hxn) hci hcl hi hj hM h
end GPUT
theorem ini_Guess_clear {xs : Nat → Int32} {N : Int32} {I : List (Nat × Nat × Int32)} {L : List (Nat × Nat × Int64)} {P : List (Nat × Nat × Nat)} {k n : Nat} (h0 : Sh[k]? = some (0, 1)) (hk : k < n) : am_Call am_TX 0 0 c_Guess_clear [.ref k] (mG xs N n I L P) (gOut xs N n ((k, 3, (-1)) :: (k, 2, (-1)) :: (k, 1, (-1)) :: (k, 0, (-1)) :: I) L P) := by
  refine ⟨mf_Guess_clear, Nat.le_of_ble_eq_true rfl, ?_⟩
  show am_R _ _ _ _ 0 [some (.ref k)] [] _ _
  refine R_aload_n rfl rfl ?_
  refine R_iconst (v := -1) rfl rfl ?_
  refine G_pI rfl (by decide) h0 hk (by decide) rfl (by first | exact Or.inl rfl | exact Or.inr ⟨rfl, rfl, rfl⟩) ?_
  refine R_aload_n rfl rfl ?_
  refine R_iconst (v := -1) rfl rfl ?_
  refine G_pI rfl (by decide) h0 hk (by decide) rfl (by first | exact Or.inl rfl | exact Or.inr ⟨rfl, rfl, rfl⟩) ?_
  refine R_aload_n rfl rfl ?_
  refine R_iconst (v := -1) rfl rfl ?_
  refine G_pI rfl (by decide) h0 hk (by decide) rfl (by first | exact Or.inl rfl | exact Or.inr ⟨rfl, rfl, rfl⟩) ?_
  refine R_aload_n rfl rfl ?_
  refine R_iconst (v := -1) rfl rfl ?_
  refine G_pI rfl (by decide) h0 hk (by decide) rfl (by first | exact Or.inl rfl | exact Or.inr ⟨rfl, rfl, rfl⟩) ?_
  exact R_return (st := []) rfl rfl rfl
theorem ink_Matrix {I : List (Nat × Nat × Int32)} {L : List (Nat × Nat × Int64)} {P : List (Nat × Nat × Nat)} {k : Nat} {a1 a2 : Int32} (hok : gOk (k + 1) I L P) (h0 : Sh[k]? = some (0, 4)) (h1 : Sh[k + 1]? = some (2, 36)) : gOk ((k + 1) + 1) ((k, 1, a2) :: (k, 0, a1) :: I) (L) ((k, 2, k + 1) :: P) := by
  have g0 := hok
  have g1 := gOk.cI g0 (k := k) (j := 0) (x := a1) (by omega)
  have g2 := gOk.cI g1 (k := k) (j := 1) (x := a2) (by omega)
  have g3 := gOk.s g2 (sh := (2, 36)) h1
  have g4 := gOk.cP g3 (k := k) (j := 2) (x := k + 1) (by omega) (by omega)
  exact g4
theorem ini_Matrix {xs : Nat → Int32} {N : Int32} {I : List (Nat × Nat × Int32)} {L : List (Nat × Nat × Int64)} {P : List (Nat × Nat × Nat)} {k : Nat} {a1 a2 : Int32} (hok : gOk (k + 1) I L P) (h0 : Sh[k]? = some (0, 4)) (h1 : Sh[k + 1]? = some (2, 36)) : am_Call am_TX 0 1 c_Matrix_init [.ref k, .int a1, .int a2] (mG xs N (k + 1) I L P) (gOut xs N ((k + 1) + 1) ((k, 1, a2) :: (k, 0, a1) :: I) (L) ((k, 2, k + 1) :: P)) := by
  refine ⟨mf_Matrix_init, Nat.le_of_ble_eq_true rfl, ?_⟩
  show am_R _ _ _ _ 0 [some (.ref k), some (.int a1), some (.int a2)] [] _ _
  have g0 := hok
  refine R_aload_n rfl rfl ?_
  refine R_objI rfl rfl (Nat.le_of_ble_eq_true rfl) ?_
  refine R_aload_n rfl rfl ?_
  refine R_iload_n rfl rfl ?_
  refine G_pI rfl (by decide) h0 (by omega) (by decide) rfl (by first | exact Or.inl rfl | exact Or.inr ⟨rfl, rfl, rfl⟩) ?_
  have g1 := gOk.cI g0 (k := k) (j := 0) (x := a1) (by omega)
  refine R_aload_n rfl rfl ?_
  refine R_iload_n rfl rfl ?_
  refine G_pI rfl (by decide) h0 (by omega) (by decide) rfl (by first | exact Or.inl rfl | exact Or.inr ⟨rfl, rfl, rfl⟩) ?_
  have g2 := gOk.cI g1 (k := k) (j := 1) (x := a2) (by omega)
  refine R_aload_n rfl rfl ?_
  refine R_bipush (v := 36) rfl (by decide) ?_
  refine G_newL (k := 0) (M := 36) rfl (by decide) (by decide) (by decide) h1 g2 (gV_of (okO_r (by omega) (okO_i (okO_i okO_n))) (okL_r (by omega) okL_n)) ?_
  have g3 := gOk.s g2 (sh := (2, 36)) h1
  refine G_pP rfl (by decide) h0 (by omega) (by decide) (fun _ _ _ => rfl) (fun _ => rfl) (fun _ => rfl) (by first | exact Or.inl rfl | exact Or.inr ⟨rfl, rfl, rfl⟩) ?_
  have g4 := gOk.cP g3 (k := k) (j := 2) (x := k + 1) (by omega) (by omega)
  exact R_return (st := []) rfl rfl rfl
theorem ink_Guess {I : List (Nat × Nat × Int32)} {L : List (Nat × Nat × Int64)} {P : List (Nat × Nat × Nat)} {k : Nat} (hok : gOk (k + 1) I L P) (h0 : Sh[k]? = some (0, 1)) : gOk (k + 1) ((k, 3, (-1)) :: (k, 2, (-1)) :: (k, 1, (-1)) :: (k, 0, (-1)) :: I) (L) (P) := by
  have g0 := hok
  have g1 := gOk.cI g0 (k := k) (j := 0) (x := -1) (by omega)
  have g2 := gOk.cI g1 (k := k) (j := 1) (x := -1) (by omega)
  have g3 := gOk.cI g2 (k := k) (j := 2) (x := -1) (by omega)
  have g4 := gOk.cI g3 (k := k) (j := 3) (x := -1) (by omega)
  exact g4
theorem ini_Guess {xs : Nat → Int32} {N : Int32} {I : List (Nat × Nat × Int32)} {L : List (Nat × Nat × Int64)} {P : List (Nat × Nat × Nat)} {k : Nat} (hok : gOk (k + 1) I L P) (h0 : Sh[k]? = some (0, 1)) : am_Call am_TX 1 0 c_Guess_init [.ref k] (mG xs N (k + 1) I L P) (gOut xs N (k + 1) ((k, 3, (-1)) :: (k, 2, (-1)) :: (k, 1, (-1)) :: (k, 0, (-1)) :: I) (L) (P)) := by
  refine ⟨mf_Guess_init, Nat.le_of_ble_eq_true rfl, ?_⟩
  show am_R _ _ _ _ 0 [some (.ref k)] [] _ _
  have g0 := hok
  refine R_aload_n rfl rfl ?_
  refine R_objI rfl rfl (Nat.le_of_ble_eq_true rfl) ?_
  refine R_aload_n rfl rfl ?_
  show am_R am_TX 1 (0 + 0) c_Guess_init 5 [some (.ref k)] [.ref k] (mG xs N (k + 1) I L P) _
  refine R_invV (mid := 6) (n := 0) (c' := c_Guess_clear) (b := k) (ci := 1) (kc := 0) (k := 0) (d := 1) (st := []) (as := []) rfl rfl iv_Guess_clear (ini_Guess_clear h0 (n := k + 1) (Nat.lt_succ_self k)) (by decide) rfl rfl (mG_sh h0 (Nat.lt_succ_self k)) (by decide) rfl rfl (Nat.le_of_ble_eq_true rfl) (fun r hr => by cases hr; rfl) (fun v1 μ1 hq => ?_) (fun E μ1 hq => by cases hq)
  cases hq
  show am_R _ _ _ _ _ _ [] _ _
  have g1 := gOk.cI g0 (k := k) (j := 0) (x := -1) (by omega)
  have g2 := gOk.cI g1 (k := k) (j := 1) (x := -1) (by omega)
  have g3 := gOk.cI g2 (k := k) (j := 2) (x := -1) (by omega)
  have g4 := gOk.cI g3 (k := k) (j := 3) (x := -1) (by omega)
  exact R_return (st := []) rfl rfl rfl
theorem ink_Certificate {I : List (Nat × Nat × Int32)} {L : List (Nat × Nat × Int64)} {P : List (Nat × Nat × Nat)} {k : Nat} (hok : gOk (k + 1) I L P) (h0 : Sh[k]? = some (0, 0)) (h1 : Sh[k + 1]? = some (0, 4)) (h2 : Sh[k + 2]? = some (2, 36)) (h3 : Sh[k + 3]? = some (0, 4)) (h4 : Sh[k + 4]? = some (2, 36)) : gOk (((k + 1) + 2) + 2) ((k, 3, (-1)) :: (k, 2, (-1)) :: (((k + 1) + 2), 1, 1) :: (((k + 1) + 2), 0, 0) :: ((k + 1), 1, 1) :: ((k + 1), 0, 1) :: I) (L) ((k, 1, (k + 1) + 2) :: (((k + 1) + 2), 2, ((k + 1) + 2) + 1) :: (k, 0, k + 1) :: ((k + 1), 2, (k + 1) + 1) :: P) := by
  have g0 := hok
  have g1 := gOk.s g0 (sh := (0, 4)) h1
  have e1 := ink_Matrix (k := k + 1) (a1 := 1) (a2 := 1) g1 h1 h2
  have g2 := e1
  have g3 := gOk.cP g2 (k := k) (j := 0) (x := k + 1) (by omega) (by omega)
  have g4 := gOk.s g3 (sh := (0, 4)) h3
  have e4 := ink_Matrix (k := (k + 1) + 2) (a1 := 0) (a2 := 1) g4 h3 h4
  have g5 := e4
  have g6 := gOk.cP g5 (k := k) (j := 1) (x := (k + 1) + 2) (by omega) (by omega)
  have g7 := gOk.cI g6 (k := k) (j := 2) (x := (-1)) (by omega)
  have g8 := gOk.cI g7 (k := k) (j := 3) (x := (-1)) (by omega)
  exact g8
theorem ini_Certificate {xs : Nat → Int32} {N : Int32} {I : List (Nat × Nat × Int32)} {L : List (Nat × Nat × Int64)} {P : List (Nat × Nat × Nat)} {k : Nat} (hok : gOk (k + 1) I L P) (h0 : Sh[k]? = some (0, 0)) (h1 : Sh[k + 1]? = some (0, 4)) (h2 : Sh[k + 2]? = some (2, 36)) (h3 : Sh[k + 3]? = some (0, 4)) (h4 : Sh[k + 4]? = some (2, 36)) : am_Call am_TX 1 4 c_Certificate_init [.ref k] (mG xs N (k + 1) I L P) (gOut xs N (((k + 1) + 2) + 2) ((k, 3, (-1)) :: (k, 2, (-1)) :: (((k + 1) + 2), 1, 1) :: (((k + 1) + 2), 0, 0) :: ((k + 1), 1, 1) :: ((k + 1), 0, 1) :: I) (L) ((k, 1, (k + 1) + 2) :: (((k + 1) + 2), 2, ((k + 1) + 2) + 1) :: (k, 0, k + 1) :: ((k + 1), 2, (k + 1) + 1) :: P)) := by
  refine ⟨mf_Certificate_init, Nat.le_of_ble_eq_true rfl, ?_⟩
  show am_R _ _ _ _ 0 [some (.ref k)] [] _ _
  have g0 := hok
  refine R_aload_n rfl rfl ?_
  refine R_objI rfl rfl (Nat.le_of_ble_eq_true rfl) ?_
  refine R_aload_n rfl rfl ?_
  refine G_new (k := 3) rfl (by decide) h1 g0 (gV_of (okO_r (by omega) okO_n) (okL_r (by omega) okL_n)) ?_
  have g1 := gOk.s g0 (sh := (0, 4)) h1
  refine R_dup rfl rfl ?_
  refine R_iconst (v := 1) rfl rfl ?_
  refine R_iconst (v := 1) rfl rfl ?_
  have e1 := ink_Matrix (k := k + 1) (a1 := 1) (a2 := 1) g1 h1 h2
  refine G_init (d := 1) (k := 2) (as := [.int 1, .int 1]) rfl rfl iv_Matrix_init (ini_Matrix (k := k + 1) (a1 := 1) (a2 := 1) g1 h1 h2) (by decide) rfl rfl rfl rfl rfl rfl (Nat.le_of_ble_eq_true rfl) g1 e1 (by omega) (gV_of (okO_r (by omega) okO_n) (okL_r (by omega) (okL_r (by omega) okL_n))) ?_
  have g2 := e1
  refine G_pP rfl (by decide) h0 (by omega) (by decide) (fun _ _ _ => rfl) (fun _ => rfl) (fun _ => rfl) (by first | exact Or.inl rfl | exact Or.inr ⟨rfl, rfl, rfl⟩) ?_
  have g3 := gOk.cP g2 (k := k) (j := 0) (x := k + 1) (by omega) (by omega)
  refine R_aload_n rfl rfl ?_
  refine G_new (k := 1) rfl (by decide) h3 g3 (gV_of (okO_r (by omega) okO_n) (okL_r (by omega) okL_n)) ?_
  have g4 := gOk.s g3 (sh := (0, 4)) h3
  refine R_dup rfl rfl ?_
  refine R_iconst (v := 0) rfl rfl ?_
  refine R_iconst (v := 1) rfl rfl ?_
  have e4 := ink_Matrix (k := (k + 1) + 2) (a1 := 0) (a2 := 1) g4 h3 h4
  refine G_init (d := 1) (k := 0) (as := [.int 0, .int 1]) rfl rfl iv_Matrix_init (ini_Matrix (k := (k + 1) + 2) (a1 := 0) (a2 := 1) g4 h3 h4) (by decide) rfl rfl rfl rfl rfl rfl (Nat.le_of_ble_eq_true rfl) g4 e4 (by omega) (gV_of (okO_r (by omega) okO_n) (okL_r (by omega) (okL_r (by omega) okL_n))) ?_
  have g5 := e4
  refine G_pP rfl (by decide) h0 (by omega) (by decide) (fun _ _ _ => rfl) (fun _ => rfl) (fun _ => rfl) (by first | exact Or.inl rfl | exact Or.inr ⟨rfl, rfl, rfl⟩) ?_
  have g6 := gOk.cP g5 (k := k) (j := 1) (x := (k + 1) + 2) (by omega) (by omega)
  refine R_aload_n rfl rfl ?_
  refine R_iconst (v := -1) rfl rfl ?_
  refine G_pI rfl (by decide) h0 (by omega) (by decide) rfl (by first | exact Or.inl rfl | exact Or.inr ⟨rfl, rfl, rfl⟩) ?_
  have g7 := gOk.cI g6 (k := k) (j := 2) (x := (-1)) (by omega)
  refine R_aload_n rfl rfl ?_
  refine R_iconst (v := -1) rfl rfl ?_
  refine G_pI rfl (by decide) h0 (by omega) (by decide) rfl (by first | exact Or.inl rfl | exact Or.inr ⟨rfl, rfl, rfl⟩) ?_
  have g8 := gOk.cI g7 (k := k) (j := 3) (x := (-1)) (by omega)
  exact R_return (st := []) rfl rfl rfl
theorem ink_State {I : List (Nat × Nat × Int32)} {L : List (Nat × Nat × Int64)} {P : List (Nat × Nat × Nat)} {k : Nat} (hok : gOk (k + 1) I L P) (hs : isState k) : gOk (((((k + 1) + 2) + 1) + 5) + 1) (((((k + 1) + 2) + 1), 3, (-1)) :: ((((k + 1) + 2) + 1), 2, (-1)) :: ((((((k + 1) + 2) + 1) + 1) + 2), 1, 1) :: ((((((k + 1) + 2) + 1) + 1) + 2), 0, 0) :: (((((k + 1) + 2) + 1) + 1), 1, 1) :: (((((k + 1) + 2) + 1) + 1), 0, 1) :: (((k + 1) + 2), 3, (-1)) :: (((k + 1) + 2), 2, (-1)) :: (((k + 1) + 2), 1, (-1)) :: (((k + 1) + 2), 0, (-1)) :: ((k + 1), 1, 1) :: ((k + 1), 0, 1) :: I) (L) ((k, 6, (((k + 1) + 2) + 1) + 5) :: (k, 2, ((k + 1) + 2) + 1) :: ((((k + 1) + 2) + 1), 1, ((((k + 1) + 2) + 1) + 1) + 2) :: ((((((k + 1) + 2) + 1) + 1) + 2), 2, (((((k + 1) + 2) + 1) + 1) + 2) + 1) :: ((((k + 1) + 2) + 1), 0, (((k + 1) + 2) + 1) + 1) :: (((((k + 1) + 2) + 1) + 1), 2, ((((k + 1) + 2) + 1) + 1) + 1) :: (k, 1, (k + 1) + 2) :: (k, 0, k + 1) :: ((k + 1), 2, (k + 1) + 1) :: P) := by
  have g0 := hok
  have g1 := gOk.s g0 (sh := (0, 4)) hs.2.1.1
  have e1 := ink_Matrix (k := k + 1) (a1 := 1) (a2 := 1) g1 hs.2.1.1 hs.2.1.2.1
  have g2 := e1
  have g3 := gOk.cP g2 (k := k) (j := 0) (x := k + 1) (by omega) (by omega)
  have g4 := gOk.s g3 (sh := (0, 1)) hs.2.2.1
  have e4 := ink_Guess (k := (k + 1) + 2) g4 hs.2.2.1
  have g5 := e4
  have g6 := gOk.cP g5 (k := k) (j := 1) (x := (k + 1) + 2) (by omega) (by omega)
  have g7 := gOk.s g6 (sh := (0, 0)) hs.2.2.2.1
  have e7 := ink_Certificate (k := ((k + 1) + 2) + 1) g7 hs.2.2.2.1 hs.2.2.2.2.1.1 hs.2.2.2.2.1.2.1 hs.2.2.2.2.2.1.1 hs.2.2.2.2.2.1.2.1
  have g8 := e7
  have g9 := gOk.cP g8 (k := k) (j := 2) (x := ((k + 1) + 2) + 1) (by omega) (by omega)
  have g10 := gOk.s g9 (sh := (1, 6)) hs.2.2.2.2.2.2.1
  have g11 := gOk.cP g10 (k := k) (j := 6) (x := (((k + 1) + 2) + 1) + 5) (by omega) (by omega)
  exact g11
theorem ini_State {xs : Nat → Int32} {N : Int32} {I : List (Nat × Nat × Int32)} {L : List (Nat × Nat × Int64)} {P : List (Nat × Nat × Nat)} {k : Nat} (hok : gOk (k + 1) I L P) (hs : isState k) : am_Call am_TX 2 9 c_State_init [.ref k] (mG xs N (k + 1) I L P) (gOut xs N (((((k + 1) + 2) + 1) + 5) + 1) (((((k + 1) + 2) + 1), 3, (-1)) :: ((((k + 1) + 2) + 1), 2, (-1)) :: ((((((k + 1) + 2) + 1) + 1) + 2), 1, 1) :: ((((((k + 1) + 2) + 1) + 1) + 2), 0, 0) :: (((((k + 1) + 2) + 1) + 1), 1, 1) :: (((((k + 1) + 2) + 1) + 1), 0, 1) :: (((k + 1) + 2), 3, (-1)) :: (((k + 1) + 2), 2, (-1)) :: (((k + 1) + 2), 1, (-1)) :: (((k + 1) + 2), 0, (-1)) :: ((k + 1), 1, 1) :: ((k + 1), 0, 1) :: I) (L) ((k, 6, (((k + 1) + 2) + 1) + 5) :: (k, 2, ((k + 1) + 2) + 1) :: ((((k + 1) + 2) + 1), 1, ((((k + 1) + 2) + 1) + 1) + 2) :: ((((((k + 1) + 2) + 1) + 1) + 2), 2, (((((k + 1) + 2) + 1) + 1) + 2) + 1) :: ((((k + 1) + 2) + 1), 0, (((k + 1) + 2) + 1) + 1) :: (((((k + 1) + 2) + 1) + 1), 2, ((((k + 1) + 2) + 1) + 1) + 1) :: (k, 1, (k + 1) + 2) :: (k, 0, k + 1) :: ((k + 1), 2, (k + 1) + 1) :: P)) := by
  refine ⟨mf_State_init, Nat.le_of_ble_eq_true rfl, ?_⟩
  show am_R _ _ _ _ 0 [some (.ref k)] [] _ _
  have g0 := hok
  refine R_aload_n rfl rfl ?_
  refine R_objI rfl rfl (Nat.le_of_ble_eq_true rfl) ?_
  refine R_aload_n rfl rfl ?_
  refine G_new (k := 8) rfl (by decide) hs.2.1.1 g0 (gV_of (okO_r (by omega) okO_n) (okL_r (by omega) okL_n)) ?_
  have g1 := gOk.s g0 (sh := (0, 4)) hs.2.1.1
  refine R_dup rfl rfl ?_
  refine R_iconst (v := 1) rfl rfl ?_
  refine R_iconst (v := 1) rfl rfl ?_
  have e1 := ink_Matrix (k := k + 1) (a1 := 1) (a2 := 1) g1 hs.2.1.1 hs.2.1.2.1
  refine G_init (d := 2) (k := 7) (as := [.int 1, .int 1]) rfl rfl iv_Matrix_init (ini_Matrix (k := k + 1) (a1 := 1) (a2 := 1) g1 hs.2.1.1 hs.2.1.2.1) (by decide) rfl rfl rfl rfl rfl rfl (Nat.le_of_ble_eq_true rfl) g1 e1 (by omega) (gV_of (okO_r (by omega) okO_n) (okL_r (by omega) (okL_r (by omega) okL_n))) ?_
  have g2 := e1
  refine G_pP rfl (by decide) hs.1 (by omega) (by decide) (fun _ _ _ => rfl) (fun _ => rfl) (fun _ => rfl) (by first | exact Or.inl rfl | exact Or.inr ⟨rfl, rfl, rfl⟩) ?_
  have g3 := gOk.cP g2 (k := k) (j := 0) (x := k + 1) (by omega) (by omega)
  refine R_aload_n rfl rfl ?_
  refine G_new (k := 6) rfl (by decide) hs.2.2.1 g3 (gV_of (okO_r (by omega) okO_n) (okL_r (by omega) okL_n)) ?_
  have g4 := gOk.s g3 (sh := (0, 1)) hs.2.2.1
  refine R_dup rfl rfl ?_
  have e4 := ink_Guess (k := (k + 1) + 2) g4 hs.2.2.1
  refine G_init (d := 2) (k := 6) (as := []) rfl rfl iv_Guess_init (ini_Guess (k := (k + 1) + 2) g4 hs.2.2.1) (by decide) rfl rfl rfl rfl rfl rfl (Nat.le_of_ble_eq_true rfl) g4 e4 (by omega) (gV_of (okO_r (by omega) okO_n) (okL_r (by omega) (okL_r (by omega) okL_n))) ?_
  have g5 := e4
  refine G_pP rfl (by decide) hs.1 (by omega) (by decide) (fun _ _ _ => rfl) (fun _ => rfl) (fun _ => rfl) (by first | exact Or.inl rfl | exact Or.inr ⟨rfl, rfl, rfl⟩) ?_
  have g6 := gOk.cP g5 (k := k) (j := 1) (x := (k + 1) + 2) (by omega) (by omega)
  refine R_aload_n rfl rfl ?_
  refine G_new (k := 5) rfl (by decide) hs.2.2.2.1 g6 (gV_of (okO_r (by omega) okO_n) (okL_r (by omega) okL_n)) ?_
  have g7 := gOk.s g6 (sh := (0, 0)) hs.2.2.2.1
  refine R_dup rfl rfl ?_
  have e7 := ink_Certificate (k := ((k + 1) + 2) + 1) g7 hs.2.2.2.1 hs.2.2.2.2.1.1 hs.2.2.2.2.1.2.1 hs.2.2.2.2.2.1.1 hs.2.2.2.2.2.1.2.1
  refine G_init (d := 2) (k := 1) (as := []) rfl rfl iv_Certificate_init (ini_Certificate (k := ((k + 1) + 2) + 1) g7 hs.2.2.2.1 hs.2.2.2.2.1.1 hs.2.2.2.2.1.2.1 hs.2.2.2.2.2.1.1 hs.2.2.2.2.2.1.2.1) (by decide) rfl rfl rfl rfl rfl rfl (Nat.le_of_ble_eq_true rfl) g7 e7 (by omega) (gV_of (okO_r (by omega) okO_n) (okL_r (by omega) (okL_r (by omega) okL_n))) ?_
  have g8 := e7
  refine G_pP rfl (by decide) hs.1 (by omega) (by decide) (fun _ _ _ => rfl) (fun _ => rfl) (fun _ => rfl) (by first | exact Or.inl rfl | exact Or.inr ⟨rfl, rfl, rfl⟩) ?_
  have g9 := gOk.cP g8 (k := k) (j := 2) (x := ((k + 1) + 2) + 1) (by omega) (by omega)
  refine R_aload_n rfl rfl ?_
  refine R_bipush (v := 6) rfl (by decide) ?_
  refine G_newI (k := 0) (ty := .int) (kd := 1) (M := 6) rfl rfl rfl (fun _ _ _ => rfl) (fun _ => rfl) rfl (by decide) (by decide) (by decide) (by decide) hs.2.2.2.2.2.2.1 g9 (gV_of (okO_r (by omega) okO_n) (okL_r (by omega) okL_n)) ?_
  have g10 := gOk.s g9 (sh := (1, 6)) hs.2.2.2.2.2.2.1
  refine G_pP rfl (by decide) hs.1 (by omega) (by decide) (fun _ _ _ => rfl) (fun _ => rfl) (fun _ => rfl) (by first | exact Or.inl rfl | exact Or.inr ⟨rfl, rfl, rfl⟩) ?_
  have g11 := gOk.cP g10 (k := k) (j := 6) (x := (((k + 1) + 2) + 1) + 5) (by omega) (by omega)
  exact R_return (st := []) rfl rfl rfl
theorem isS_3 : isState 3 := ⟨rfl, ⟨rfl, rfl, rfl⟩, rfl, rfl, ⟨rfl, rfl, rfl⟩, ⟨rfl, rfl, rfl⟩, rfl, rfl, rfl, rfl, rfl, rfl, rfl⟩
theorem isS_26 : isState 26 := ⟨rfl, ⟨rfl, rfl, rfl⟩, rfl, rfl, ⟨rfl, rfl, rfl⟩, ⟨rfl, rfl, rfl⟩, rfl, rfl, rfl, rfl, rfl, rfl, rfl⟩
theorem isS_39 : isState 39 := ⟨rfl, ⟨rfl, rfl, rfl⟩, rfl, rfl, ⟨rfl, rfl, rfl⟩, ⟨rfl, rfl, rfl⟩, rfl, rfl, rfl, rfl, rfl, rfl, rfl⟩
theorem isS_49 : isState 49 := ⟨rfl, ⟨rfl, rfl, rfl⟩, rfl, rfl, ⟨rfl, rfl, rfl⟩, ⟨rfl, rfl, rfl⟩, rfl, rfl, rfl, rfl, rfl, rfl, rfl⟩
theorem isS_59 : isState 59 := ⟨rfl, ⟨rfl, rfl, rfl⟩, rfl, rfl, ⟨rfl, rfl, rfl⟩, ⟨rfl, rfl, rfl⟩, rfl, rfl, rfl, rfl, rfl, rfl, rfl⟩
theorem isS_69 : isState 69 := ⟨rfl, ⟨rfl, rfl, rfl⟩, rfl, rfl, ⟨rfl, rfl, rfl⟩, ⟨rfl, rfl, rfl⟩, rfl, rfl, rfl, rfl, rfl, rfl, rfl⟩
theorem isS_79 : isState 79 := ⟨rfl, ⟨rfl, rfl, rfl⟩, rfl, rfl, ⟨rfl, rfl, rfl⟩, ⟨rfl, rfl, rfl⟩, rfl, rfl, rfl, rfl, rfl, rfl, rfl⟩
theorem isS_89 : isState 89 := ⟨rfl, ⟨rfl, rfl, rfl⟩, rfl, rfl, ⟨rfl, rfl, rfl⟩, ⟨rfl, rfl, rfl⟩, rfl, rfl, rfl, rfl, rfl, rfl, rfl⟩
theorem isS_99 : isState 99 := ⟨rfl, ⟨rfl, rfl, rfl⟩, rfl, rfl, ⟨rfl, rfl, rfl⟩, ⟨rfl, rfl, rfl⟩, rfl, rfl, rfl, rfl, rfl, rfl, rfl⟩
theorem isS_109 : isState 109 := ⟨rfl, ⟨rfl, rfl, rfl⟩, rfl, rfl, ⟨rfl, rfl, rfl⟩, ⟨rfl, rfl, rfl⟩, rfl, rfl, rfl, rfl, rfl, rfl, rfl⟩
theorem ink_Input {I : List (Nat × Nat × Int32)} {L : List (Nat × Nat × Int64)} {P : List (Nat × Nat × Nat)} (hok : gOk (2) I L P) : gOk (3) (I) (L) ((1, 1, 2) :: P) := by
  have g0 := hok
  have g1 := gOk.s g0 (sh := (1, 400)) rfl
  have g2 := gOk.cP g1 (k := 1) (j := 1) (x := 2) (by decide) (by decide)
  exact g2
theorem ini_Input {xs : Nat → Int32} {N : Int32} {I : List (Nat × Nat × Int32)} {L : List (Nat × Nat × Int64)} {P : List (Nat × Nat × Nat)} (hok : gOk (2) I L P) : am_Call am_TX 0 1 c_Input_init [.ref 1] (mG xs N (2) I L P) (gOut xs N (3) (I) (L) ((1, 1, 2) :: P)) := by
  refine ⟨mf_Input_init, Nat.le_of_ble_eq_true rfl, ?_⟩
  show am_R _ _ _ _ 0 [some (.ref 1)] [] _ _
  have g0 := hok
  refine R_aload_n rfl rfl ?_
  refine R_objI rfl rfl (Nat.le_of_ble_eq_true rfl) ?_
  refine R_aload_n rfl rfl ?_
  refine R_sipush (v := 400) rfl (by decide) ?_
  refine G_newI (k := 0) (ty := .int) (kd := 1) (M := 400) rfl rfl rfl (fun _ _ _ => rfl) (fun _ => rfl) rfl (by decide) (by decide) (by decide) (by decide) rfl g0 (gV_of (okO_r (by decide) okO_n) (okL_r (by decide) okL_n)) ?_
  have g1 := gOk.s g0 (sh := (1, 400)) rfl
  refine G_pP rfl (by decide) rfl (by decide) (by decide) (fun _ _ _ => rfl) (fun _ => rfl) (fun _ => rfl) (by first | exact Or.inl rfl | exact Or.inr ⟨rfl, rfl, rfl⟩) ?_
  have g2 := gOk.cP g1 (k := 1) (j := 1) (x := 2) (by decide) (by decide)
  exact R_return (st := []) rfl rfl rfl
theorem ink_Parser {I : List (Nat × Nat × Int32)} {L : List (Nat × Nat × Int64)} {P : List (Nat × Nat × Nat)} (hok : gOk (14) I L P) : gOk (14) ((13, 2, (-1)) :: I) (L) ((13, 4, 3) :: (13, 3, 1) :: P) := by
  have g0 := hok
  have g1 := gOk.cP g0 (k := 13) (j := 3) (x := 1) (by decide) (by decide)
  have g2 := gOk.cP g1 (k := 13) (j := 4) (x := 3) (by decide) (by decide)
  have g3 := gOk.cI g2 (k := 13) (j := 2) (x := (-1)) (by decide)
  exact g3
theorem ini_Parser {xs : Nat → Int32} {N : Int32} {I : List (Nat × Nat × Int32)} {L : List (Nat × Nat × Int64)} {P : List (Nat × Nat × Nat)} (hok : gOk (14) I L P) : am_Call am_TX 0 0 c_Parser_init [.ref 13, .ref 1, .ref 3] (mG xs N (14) I L P) (gOut xs N (14) ((13, 2, (-1)) :: I) (L) ((13, 4, 3) :: (13, 3, 1) :: P)) := by
  refine ⟨mf_Parser_init, Nat.le_of_ble_eq_true rfl, ?_⟩
  show am_R _ _ _ _ 0 [some (.ref 13), some (.ref 1), some (.ref 3)] [] _ _
  have g0 := hok
  refine R_aload_n rfl rfl ?_
  refine R_objI rfl rfl (Nat.le_of_ble_eq_true rfl) ?_
  refine R_aload_n rfl rfl ?_
  refine R_aload_n rfl rfl ?_
  refine G_pP rfl (by decide) rfl (by decide) (by decide) (fun _ _ _ => rfl) (fun _ => rfl) (fun _ => rfl) (by first | exact Or.inl rfl | exact Or.inr ⟨rfl, rfl, rfl⟩) ?_
  have g1 := gOk.cP g0 (k := 13) (j := 3) (x := 1) (by decide) (by decide)
  refine R_aload_n rfl rfl ?_
  refine R_aload_n rfl rfl ?_
  refine G_pP rfl (by decide) rfl (by decide) (by decide) (fun _ _ _ => rfl) (fun _ => rfl) (fun _ => rfl) (by first | exact Or.inl rfl | exact Or.inr ⟨rfl, rfl, rfl⟩) ?_
  have g2 := gOk.cP g1 (k := 13) (j := 4) (x := 3) (by decide) (by decide)
  refine R_aload_n rfl rfl ?_
  refine R_iconst (v := -1) rfl rfl ?_
  refine G_pI rfl (by decide) rfl (by decide) (by decide) rfl (by first | exact Or.inl rfl | exact Or.inr ⟨rfl, rfl, rfl⟩) ?_
  have g3 := gOk.cI g2 (k := 13) (j := 2) (x := (-1)) (by decide)
  exact R_return (st := []) rfl rfl rfl
theorem ink_Output {I : List (Nat × Nat × Int32)} {L : List (Nat × Nat × Int64)} {P : List (Nat × Nat × Nat)} (hok : gOk (15) I L P) : gOk (16) (I) (L) ((14, 1, 15) :: P) := by
  have g0 := hok
  have g1 := gOk.s g0 (sh := (1, 1000)) rfl
  have g2 := gOk.cP g1 (k := 14) (j := 1) (x := 15) (by decide) (by decide)
  exact g2
theorem ini_Output {xs : Nat → Int32} {N : Int32} {I : List (Nat × Nat × Int32)} {L : List (Nat × Nat × Int64)} {P : List (Nat × Nat × Nat)} (hok : gOk (15) I L P) : am_Call am_TX 0 1 c_Output_init [.ref 14] (mG xs N (15) I L P) (gOut xs N (16) (I) (L) ((14, 1, 15) :: P)) := by
  refine ⟨mf_Output_init, Nat.le_of_ble_eq_true rfl, ?_⟩
  show am_R _ _ _ _ 0 [some (.ref 14)] [] _ _
  have g0 := hok
  refine R_aload_n rfl rfl ?_
  refine R_objI rfl rfl (Nat.le_of_ble_eq_true rfl) ?_
  refine R_aload_n rfl rfl ?_
  refine R_sipush (v := 1000) rfl (by decide) ?_
  refine G_newI (k := 0) (ty := .int) (kd := 1) (M := 1000) rfl rfl rfl (fun _ _ _ => rfl) (fun _ => rfl) rfl (by decide) (by decide) (by decide) (by decide) rfl g0 (gV_of (okO_r (by decide) okO_n) (okL_r (by decide) okL_n)) ?_
  have g1 := gOk.s g0 (sh := (1, 1000)) rfl
  refine G_pP rfl (by decide) rfl (by decide) (by decide) (fun _ _ _ => rfl) (fun _ => rfl) (fun _ => rfl) (by first | exact Or.inl rfl | exact Or.inr ⟨rfl, rfl, rfl⟩) ?_
  have g2 := gOk.cP g1 (k := 14) (j := 1) (x := 15) (by decide) (by decide)
  exact R_return (st := []) rfl rfl rfl
theorem ink_Reckoner {I : List (Nat × Nat × Int32)} {L : List (Nat × Nat × Int64)} {P : List (Nat × Nat × Nat)} (hok : gOk (17) I L P) : gOk (24) ((21, 1, 1) :: (21, 0, 1) :: (19, 1, 1) :: (19, 0, 1) :: (17, 1, 1) :: (17, 0, 1) :: I) (L) ((16, 3, 23) :: (16, 2, 21) :: (21, 2, 22) :: (16, 1, 19) :: (19, 2, 20) :: (16, 0, 17) :: (17, 2, 18) :: P) := by
  have g0 := hok
  have g1 := gOk.s g0 (sh := (0, 4)) rfl
  have e1 := ink_Matrix (k := 17) (a1 := 1) (a2 := 1) g1 rfl rfl
  have g2 := e1
  have g3 := gOk.cP g2 (k := 16) (j := 0) (x := 17) (by decide) (by decide)
  have g4 := gOk.s g3 (sh := (0, 4)) rfl
  have e4 := ink_Matrix (k := 19) (a1 := 1) (a2 := 1) g4 rfl rfl
  have g5 := e4
  have g6 := gOk.cP g5 (k := 16) (j := 1) (x := 19) (by decide) (by decide)
  have g7 := gOk.s g6 (sh := (0, 4)) rfl
  have e7 := ink_Matrix (k := 21) (a1 := 1) (a2 := 1) g7 rfl rfl
  have g8 := e7
  have g9 := gOk.cP g8 (k := 16) (j := 2) (x := 21) (by decide) (by decide)
  have g10 := gOk.s g9 (sh := (2, 64)) rfl
  have g11 := gOk.cP g10 (k := 16) (j := 3) (x := 23) (by decide) (by decide)
  exact g11
theorem ini_Reckoner {xs : Nat → Int32} {N : Int32} {I : List (Nat × Nat × Int32)} {L : List (Nat × Nat × Int64)} {P : List (Nat × Nat × Nat)} (hok : gOk (17) I L P) : am_Call am_TX 1 7 c_Reckoner_init [.ref 16] (mG xs N (17) I L P) (gOut xs N (24) ((21, 1, 1) :: (21, 0, 1) :: (19, 1, 1) :: (19, 0, 1) :: (17, 1, 1) :: (17, 0, 1) :: I) (L) ((16, 3, 23) :: (16, 2, 21) :: (21, 2, 22) :: (16, 1, 19) :: (19, 2, 20) :: (16, 0, 17) :: (17, 2, 18) :: P)) := by
  refine ⟨mf_Reckoner_init, Nat.le_of_ble_eq_true rfl, ?_⟩
  show am_R _ _ _ _ 0 [some (.ref 16)] [] _ _
  have g0 := hok
  refine R_aload_n rfl rfl ?_
  refine R_objI rfl rfl (Nat.le_of_ble_eq_true rfl) ?_
  refine R_aload_n rfl rfl ?_
  refine G_new (k := 6) rfl (by decide) rfl g0 (gV_of (okO_r (by decide) okO_n) (okL_r (by decide) okL_n)) ?_
  have g1 := gOk.s g0 (sh := (0, 4)) rfl
  refine R_dup rfl rfl ?_
  refine R_iconst (v := 1) rfl rfl ?_
  refine R_iconst (v := 1) rfl rfl ?_
  have e1 := ink_Matrix (k := 17) (a1 := 1) (a2 := 1) g1 rfl rfl
  refine G_init (d := 1) (k := 5) (as := [.int 1, .int 1]) rfl rfl iv_Matrix_init (ini_Matrix (k := 17) (a1 := 1) (a2 := 1) g1 rfl rfl) (by decide) rfl rfl rfl rfl rfl rfl (Nat.le_of_ble_eq_true rfl) g1 e1 (by omega) (gV_of (okO_r (by decide) okO_n) (okL_r (by decide) (okL_r (by decide) okL_n))) ?_
  have g2 := e1
  refine G_pP rfl (by decide) rfl (by decide) (by decide) (fun _ _ _ => rfl) (fun _ => rfl) (fun _ => rfl) (by first | exact Or.inl rfl | exact Or.inr ⟨rfl, rfl, rfl⟩) ?_
  have g3 := gOk.cP g2 (k := 16) (j := 0) (x := 17) (by decide) (by decide)
  refine R_aload_n rfl rfl ?_
  refine G_new (k := 4) rfl (by decide) rfl g3 (gV_of (okO_r (by decide) okO_n) (okL_r (by decide) okL_n)) ?_
  have g4 := gOk.s g3 (sh := (0, 4)) rfl
  refine R_dup rfl rfl ?_
  refine R_iconst (v := 1) rfl rfl ?_
  refine R_iconst (v := 1) rfl rfl ?_
  have e4 := ink_Matrix (k := 19) (a1 := 1) (a2 := 1) g4 rfl rfl
  refine G_init (d := 1) (k := 3) (as := [.int 1, .int 1]) rfl rfl iv_Matrix_init (ini_Matrix (k := 19) (a1 := 1) (a2 := 1) g4 rfl rfl) (by decide) rfl rfl rfl rfl rfl rfl (Nat.le_of_ble_eq_true rfl) g4 e4 (by omega) (gV_of (okO_r (by decide) okO_n) (okL_r (by decide) (okL_r (by decide) okL_n))) ?_
  have g5 := e4
  refine G_pP rfl (by decide) rfl (by decide) (by decide) (fun _ _ _ => rfl) (fun _ => rfl) (fun _ => rfl) (by first | exact Or.inl rfl | exact Or.inr ⟨rfl, rfl, rfl⟩) ?_
  have g6 := gOk.cP g5 (k := 16) (j := 1) (x := 19) (by decide) (by decide)
  refine R_aload_n rfl rfl ?_
  refine G_new (k := 2) rfl (by decide) rfl g6 (gV_of (okO_r (by decide) okO_n) (okL_r (by decide) okL_n)) ?_
  have g7 := gOk.s g6 (sh := (0, 4)) rfl
  refine R_dup rfl rfl ?_
  refine R_iconst (v := 1) rfl rfl ?_
  refine R_iconst (v := 1) rfl rfl ?_
  have e7 := ink_Matrix (k := 21) (a1 := 1) (a2 := 1) g7 rfl rfl
  refine G_init (d := 1) (k := 1) (as := [.int 1, .int 1]) rfl rfl iv_Matrix_init (ini_Matrix (k := 21) (a1 := 1) (a2 := 1) g7 rfl rfl) (by decide) rfl rfl rfl rfl rfl rfl (Nat.le_of_ble_eq_true rfl) g7 e7 (by omega) (gV_of (okO_r (by decide) okO_n) (okL_r (by decide) (okL_r (by decide) okL_n))) ?_
  have g8 := e7
  refine G_pP rfl (by decide) rfl (by decide) (by decide) (fun _ _ _ => rfl) (fun _ => rfl) (fun _ => rfl) (by first | exact Or.inl rfl | exact Or.inr ⟨rfl, rfl, rfl⟩) ?_
  have g9 := gOk.cP g8 (k := 16) (j := 2) (x := 21) (by decide) (by decide)
  refine R_aload_n rfl rfl ?_
  refine R_bipush (v := 64) rfl (by decide) ?_
  refine G_newL (k := 0) (M := 64) rfl (by decide) (by decide) (by decide) rfl g9 (gV_of (okO_r (by decide) okO_n) (okL_r (by decide) okL_n)) ?_
  have g10 := gOk.s g9 (sh := (2, 64)) rfl
  refine G_pP rfl (by decide) rfl (by decide) (by decide) (fun _ _ _ => rfl) (fun _ => rfl) (fun _ => rfl) (by first | exact Or.inl rfl | exact Or.inr ⟨rfl, rfl, rfl⟩) ?_
  have g11 := gOk.cP g10 (k := 16) (j := 3) (x := 23) (by decide) (by decide)
  exact R_return (st := []) rfl rfl rfl
theorem ink_RowSets {I : List (Nat × Nat × Int32)} {L : List (Nat × Nat × Int64)} {P : List (Nat × Nat × Nat)} (hok : gOk (25) I L P) : gOk (26) (I) (L) ((24, 1, 25) :: (24, 0, 16) :: P) := by
  have g0 := hok
  have g1 := gOk.cP g0 (k := 24) (j := 0) (x := 16) (by decide) (by decide)
  have g2 := gOk.s g1 (sh := (4, 64)) rfl
  have g3 := gOk.cP g2 (k := 24) (j := 1) (x := 25) (by decide) (by decide)
  exact g3
theorem ini_RowSets {xs : Nat → Int32} {N : Int32} {I : List (Nat × Nat × Int32)} {L : List (Nat × Nat × Int64)} {P : List (Nat × Nat × Nat)} (hok : gOk (25) I L P) : am_Call am_TX 0 1 c_RowSets_init [.ref 24, .ref 16] (mG xs N (25) I L P) (gOut xs N (26) (I) (L) ((24, 1, 25) :: (24, 0, 16) :: P)) := by
  refine ⟨mf_RowSets_init, Nat.le_of_ble_eq_true rfl, ?_⟩
  show am_R _ _ _ _ 0 [some (.ref 24), some (.ref 16)] [] _ _
  have g0 := hok
  refine R_aload_n rfl rfl ?_
  refine R_objI rfl rfl (Nat.le_of_ble_eq_true rfl) ?_
  refine R_aload_n rfl rfl ?_
  refine R_aload_n rfl rfl ?_
  refine G_pP rfl (by decide) rfl (by decide) (by decide) (fun _ _ _ => rfl) (fun _ => rfl) (fun _ => rfl) (by first | exact Or.inl rfl | exact Or.inr ⟨rfl, rfl, rfl⟩) ?_
  have g1 := gOk.cP g0 (k := 24) (j := 0) (x := 16) (by decide) (by decide)
  refine R_aload_n rfl rfl ?_
  refine R_bipush (v := 64) rfl (by decide) ?_
  refine G_newI (k := 0) (ty := .boolean) (kd := 4) (M := 64) rfl rfl rfl (fun _ _ _ => rfl) (fun _ => rfl) rfl (by decide) (by decide) (by decide) (by decide) rfl g1 (gV_of (okO_r (by decide) (okO_r (by decide) okO_n)) (okL_r (by decide) okL_n)) ?_
  have g2 := gOk.s g1 (sh := (4, 64)) rfl
  refine G_pP rfl (by decide) rfl (by decide) (by decide) (fun _ _ _ => rfl) (fun _ => rfl) (fun _ => rfl) (by first | exact Or.inl rfl | exact Or.inr ⟨rfl, rfl, rfl⟩) ?_
  have g3 := gOk.cP g2 (k := 24) (j := 1) (x := 25) (by decide) (by decide)
  exact R_return (st := []) rfl rfl rfl
theorem ink_History {I : List (Nat × Nat × Int32)} {L : List (Nat × Nat × Int64)} {P : List (Nat × Nat × Nat)} (hok : gOk (38) I L P) : gOk (99) ((93, 3, (-1)) :: (93, 2, (-1)) :: (96, 1, 1) :: (96, 0, 0) :: (94, 1, 1) :: (94, 0, 1) :: (92, 3, (-1)) :: (92, 2, (-1)) :: (92, 1, (-1)) :: (92, 0, (-1)) :: (90, 1, 1) :: (90, 0, 1) :: (83, 3, (-1)) :: (83, 2, (-1)) :: (86, 1, 1) :: (86, 0, 0) :: (84, 1, 1) :: (84, 0, 1) :: (82, 3, (-1)) :: (82, 2, (-1)) :: (82, 1, (-1)) :: (82, 0, (-1)) :: (80, 1, 1) :: (80, 0, 1) :: (73, 3, (-1)) :: (73, 2, (-1)) :: (76, 1, 1) :: (76, 0, 0) :: (74, 1, 1) :: (74, 0, 1) :: (72, 3, (-1)) :: (72, 2, (-1)) :: (72, 1, (-1)) :: (72, 0, (-1)) :: (70, 1, 1) :: (70, 0, 1) :: (63, 3, (-1)) :: (63, 2, (-1)) :: (66, 1, 1) :: (66, 0, 0) :: (64, 1, 1) :: (64, 0, 1) :: (62, 3, (-1)) :: (62, 2, (-1)) :: (62, 1, (-1)) :: (62, 0, (-1)) :: (60, 1, 1) :: (60, 0, 1) :: (53, 3, (-1)) :: (53, 2, (-1)) :: (56, 1, 1) :: (56, 0, 0) :: (54, 1, 1) :: (54, 0, 1) :: (52, 3, (-1)) :: (52, 2, (-1)) :: (52, 1, (-1)) :: (52, 0, (-1)) :: (50, 1, 1) :: (50, 0, 1) :: (43, 3, (-1)) :: (43, 2, (-1)) :: (46, 1, 1) :: (46, 0, 0) :: (44, 1, 1) :: (44, 0, 1) :: (42, 3, (-1)) :: (42, 2, (-1)) :: (42, 1, (-1)) :: (42, 0, (-1)) :: (40, 1, 1) :: (40, 0, 1) :: I) (L) ((38, 5, 89) :: (89, 6, 98) :: (89, 2, 93) :: (93, 1, 96) :: (96, 2, 97) :: (93, 0, 94) :: (94, 2, 95) :: (89, 1, 92) :: (89, 0, 90) :: (90, 2, 91) :: (38, 4, 79) :: (79, 6, 88) :: (79, 2, 83) :: (83, 1, 86) :: (86, 2, 87) :: (83, 0, 84) :: (84, 2, 85) :: (79, 1, 82) :: (79, 0, 80) :: (80, 2, 81) :: (38, 3, 69) :: (69, 6, 78) :: (69, 2, 73) :: (73, 1, 76) :: (76, 2, 77) :: (73, 0, 74) :: (74, 2, 75) :: (69, 1, 72) :: (69, 0, 70) :: (70, 2, 71) :: (38, 2, 59) :: (59, 6, 68) :: (59, 2, 63) :: (63, 1, 66) :: (66, 2, 67) :: (63, 0, 64) :: (64, 2, 65) :: (59, 1, 62) :: (59, 0, 60) :: (60, 2, 61) :: (38, 1, 49) :: (49, 6, 58) :: (49, 2, 53) :: (53, 1, 56) :: (56, 2, 57) :: (53, 0, 54) :: (54, 2, 55) :: (49, 1, 52) :: (49, 0, 50) :: (50, 2, 51) :: (38, 0, 39) :: (39, 6, 48) :: (39, 2, 43) :: (43, 1, 46) :: (46, 2, 47) :: (43, 0, 44) :: (44, 2, 45) :: (39, 1, 42) :: (39, 0, 40) :: (40, 2, 41) :: (37, 2, 38) :: P) := by
  have g0 := hok
  have g1 := gOk.s g0 (sh := (5, 6)) rfl
  have g2 := gOk.cP g1 (k := 37) (j := 2) (x := 38) (by decide) (by decide)
  have g3 := gOk.s g2 (sh := (0, 9)) rfl
  have e3 := ink_State (k := 39) g3 isS_39
  have g4 := e3
  have g5 := gOk.cP g4 (k := 38) (j := 0) (x := 39) (by decide) (by decide)
  have g6 := gOk.s g5 (sh := (0, 9)) rfl
  have e6 := ink_State (k := 49) g6 isS_49
  have g7 := e6
  have g8 := gOk.cP g7 (k := 38) (j := 1) (x := 49) (by decide) (by decide)
  have g9 := gOk.s g8 (sh := (0, 9)) rfl
  have e9 := ink_State (k := 59) g9 isS_59
  have g10 := e9
  have g11 := gOk.cP g10 (k := 38) (j := 2) (x := 59) (by decide) (by decide)
  have g12 := gOk.s g11 (sh := (0, 9)) rfl
  have e12 := ink_State (k := 69) g12 isS_69
  have g13 := e12
  have g14 := gOk.cP g13 (k := 38) (j := 3) (x := 69) (by decide) (by decide)
  have g15 := gOk.s g14 (sh := (0, 9)) rfl
  have e15 := ink_State (k := 79) g15 isS_79
  have g16 := e15
  have g17 := gOk.cP g16 (k := 38) (j := 4) (x := 79) (by decide) (by decide)
  have g18 := gOk.s g17 (sh := (0, 9)) rfl
  have e18 := ink_State (k := 89) g18 isS_89
  have g19 := e18
  have g20 := gOk.cP g19 (k := 38) (j := 5) (x := 89) (by decide) (by decide)
  exact g20
theorem ini_History {xs : Nat → Int32} {N : Int32} {I : List (Nat × Nat × Int32)} {L : List (Nat × Nat × Int64)} {P : List (Nat × Nat × Nat)} (hok : gOk (38) I L P) : am_Call am_TX 3 61 c_History_init [.ref 37] (mG xs N (38) I L P) (gOut xs N (99) ((93, 3, (-1)) :: (93, 2, (-1)) :: (96, 1, 1) :: (96, 0, 0) :: (94, 1, 1) :: (94, 0, 1) :: (92, 3, (-1)) :: (92, 2, (-1)) :: (92, 1, (-1)) :: (92, 0, (-1)) :: (90, 1, 1) :: (90, 0, 1) :: (83, 3, (-1)) :: (83, 2, (-1)) :: (86, 1, 1) :: (86, 0, 0) :: (84, 1, 1) :: (84, 0, 1) :: (82, 3, (-1)) :: (82, 2, (-1)) :: (82, 1, (-1)) :: (82, 0, (-1)) :: (80, 1, 1) :: (80, 0, 1) :: (73, 3, (-1)) :: (73, 2, (-1)) :: (76, 1, 1) :: (76, 0, 0) :: (74, 1, 1) :: (74, 0, 1) :: (72, 3, (-1)) :: (72, 2, (-1)) :: (72, 1, (-1)) :: (72, 0, (-1)) :: (70, 1, 1) :: (70, 0, 1) :: (63, 3, (-1)) :: (63, 2, (-1)) :: (66, 1, 1) :: (66, 0, 0) :: (64, 1, 1) :: (64, 0, 1) :: (62, 3, (-1)) :: (62, 2, (-1)) :: (62, 1, (-1)) :: (62, 0, (-1)) :: (60, 1, 1) :: (60, 0, 1) :: (53, 3, (-1)) :: (53, 2, (-1)) :: (56, 1, 1) :: (56, 0, 0) :: (54, 1, 1) :: (54, 0, 1) :: (52, 3, (-1)) :: (52, 2, (-1)) :: (52, 1, (-1)) :: (52, 0, (-1)) :: (50, 1, 1) :: (50, 0, 1) :: (43, 3, (-1)) :: (43, 2, (-1)) :: (46, 1, 1) :: (46, 0, 0) :: (44, 1, 1) :: (44, 0, 1) :: (42, 3, (-1)) :: (42, 2, (-1)) :: (42, 1, (-1)) :: (42, 0, (-1)) :: (40, 1, 1) :: (40, 0, 1) :: I) (L) ((38, 5, 89) :: (89, 6, 98) :: (89, 2, 93) :: (93, 1, 96) :: (96, 2, 97) :: (93, 0, 94) :: (94, 2, 95) :: (89, 1, 92) :: (89, 0, 90) :: (90, 2, 91) :: (38, 4, 79) :: (79, 6, 88) :: (79, 2, 83) :: (83, 1, 86) :: (86, 2, 87) :: (83, 0, 84) :: (84, 2, 85) :: (79, 1, 82) :: (79, 0, 80) :: (80, 2, 81) :: (38, 3, 69) :: (69, 6, 78) :: (69, 2, 73) :: (73, 1, 76) :: (76, 2, 77) :: (73, 0, 74) :: (74, 2, 75) :: (69, 1, 72) :: (69, 0, 70) :: (70, 2, 71) :: (38, 2, 59) :: (59, 6, 68) :: (59, 2, 63) :: (63, 1, 66) :: (66, 2, 67) :: (63, 0, 64) :: (64, 2, 65) :: (59, 1, 62) :: (59, 0, 60) :: (60, 2, 61) :: (38, 1, 49) :: (49, 6, 58) :: (49, 2, 53) :: (53, 1, 56) :: (56, 2, 57) :: (53, 0, 54) :: (54, 2, 55) :: (49, 1, 52) :: (49, 0, 50) :: (50, 2, 51) :: (38, 0, 39) :: (39, 6, 48) :: (39, 2, 43) :: (43, 1, 46) :: (46, 2, 47) :: (43, 0, 44) :: (44, 2, 45) :: (39, 1, 42) :: (39, 0, 40) :: (40, 2, 41) :: (37, 2, 38) :: P)) := by
  refine ⟨mf_History_init, Nat.le_of_ble_eq_true rfl, ?_⟩
  show am_R _ _ _ _ 0 [some (.ref 37), none] [] _ _
  have g0 := hok
  refine R_aload_n rfl rfl ?_
  refine R_objI rfl rfl (Nat.le_of_ble_eq_true rfl) ?_
  refine R_aload_n rfl rfl ?_
  refine R_bipush (v := 6) rfl (by decide) ?_
  refine G_newS (k := 60) (M := 6) rfl rfl (by decide) (by decide) (by decide) rfl g0 (gV_of (okO_r (by decide) (okO_0 okO_n)) (okL_r (by decide) okL_n)) ?_
  have g1 := gOk.s g0 (sh := (5, 6)) rfl
  refine G_pP rfl (by decide) rfl (by decide) (by decide) (fun _ _ _ => rfl) (fun _ => rfl) (fun _ => rfl) (by first | exact Or.inl rfl | exact Or.inr ⟨rfl, rfl, rfl⟩) ?_
  have g2 := gOk.cP g1 (k := 37) (j := 2) (x := 38) (by decide) (by decide)
  refine R_iconst (v := 0) rfl rfl ?_
  refine R_istore_n rfl (by decide) ?_
  refine R_iload_n rfl rfl ?_
  refine R_aload_n rfl rfl ?_
  refine G_gP (x := 38) rfl (by decide) rfl (by decide) (by decide) (fun _ _ _ => rfl) rfl ?_
  refine R_alen (ty := .int) (v := 6) rfl (mG_sh (rfl : Sh[38]? = _) (by decide)) (by decide) rfl ?_
  refine R_icmp_ge rfl rfl (fun hz => absurd hz (by decide)) (fun _ => ?_)
  refine R_aload_n rfl rfl ?_
  refine G_gP (x := 38) rfl (by decide) rfl (by decide) (by decide) (fun _ _ _ => rfl) rfl ?_
  refine R_iload_n rfl rfl ?_
  refine G_new (k := 59) rfl (by decide) rfl g2 (gV_of (okO_r (by decide) (okO_i okO_n)) (okL_i (okL_r (by decide) okL_n))) ?_
  have g3 := gOk.s g2 (sh := (0, 9)) rfl
  refine R_dup rfl rfl ?_
  have e3 := ink_State (k := 39) g3 isS_39
  refine G_init (d := 3) (k := 50) (as := []) rfl rfl iv_State_init (ini_State (k := 39) g3 isS_39) (by decide) rfl rfl rfl rfl rfl rfl (Nat.le_of_ble_eq_true rfl) g3 e3 (by omega) (gV_of (okO_r (by decide) (okO_i okO_n)) (okL_r (by decide) (okL_i (okL_r (by decide) okL_n)))) ?_
  have g4 := e3
  refine G_aast (j := 0) (ci := 9) rfl rfl (by decide) rfl (by decide) (by decide) rfl rfl (by decide) (by decide) ?_
  have g5 := gOk.cP g4 (k := 38) (j := 0) (x := 39) (by decide) (by decide)
  refine R_iinc rfl rfl (by decide) ?_
  rw [show (0 + Int32.ofInt 1 : Int32) = 1 from rfl]
  refine R_goto rfl rfl ?_
  refine R_iload_n rfl rfl ?_
  refine R_aload_n rfl rfl ?_
  refine G_gP (x := 38) rfl (by decide) rfl (by decide) (by decide) (fun _ _ _ => rfl) rfl ?_
  refine R_alen (ty := .int) (v := 6) rfl (mG_sh (rfl : Sh[38]? = _) (by decide)) (by decide) rfl ?_
  refine R_icmp_ge rfl rfl (fun hz => absurd hz (by decide)) (fun _ => ?_)
  refine R_aload_n rfl rfl ?_
  refine G_gP (x := 38) rfl (by decide) rfl (by decide) (by decide) (fun _ _ _ => rfl) rfl ?_
  refine R_iload_n rfl rfl ?_
  refine G_new (k := 49) rfl (by decide) rfl g5 (gV_of (okO_r (by decide) (okO_i okO_n)) (okL_i (okL_r (by decide) okL_n))) ?_
  have g6 := gOk.s g5 (sh := (0, 9)) rfl
  refine R_dup rfl rfl ?_
  have e6 := ink_State (k := 49) g6 isS_49
  refine G_init (d := 3) (k := 40) (as := []) rfl rfl iv_State_init (ini_State (k := 49) g6 isS_49) (by decide) rfl rfl rfl rfl rfl rfl (Nat.le_of_ble_eq_true rfl) g6 e6 (by omega) (gV_of (okO_r (by decide) (okO_i okO_n)) (okL_r (by decide) (okL_i (okL_r (by decide) okL_n)))) ?_
  have g7 := e6
  refine G_aast (j := 1) (ci := 9) rfl rfl (by decide) rfl (by decide) (by decide) rfl rfl (by decide) (by decide) ?_
  have g8 := gOk.cP g7 (k := 38) (j := 1) (x := 49) (by decide) (by decide)
  refine R_iinc rfl rfl (by decide) ?_
  rw [show (1 + Int32.ofInt 1 : Int32) = 2 from rfl]
  refine R_goto rfl rfl ?_
  refine R_iload_n rfl rfl ?_
  refine R_aload_n rfl rfl ?_
  refine G_gP (x := 38) rfl (by decide) rfl (by decide) (by decide) (fun _ _ _ => rfl) rfl ?_
  refine R_alen (ty := .int) (v := 6) rfl (mG_sh (rfl : Sh[38]? = _) (by decide)) (by decide) rfl ?_
  refine R_icmp_ge rfl rfl (fun hz => absurd hz (by decide)) (fun _ => ?_)
  refine R_aload_n rfl rfl ?_
  refine G_gP (x := 38) rfl (by decide) rfl (by decide) (by decide) (fun _ _ _ => rfl) rfl ?_
  refine R_iload_n rfl rfl ?_
  refine G_new (k := 39) rfl (by decide) rfl g8 (gV_of (okO_r (by decide) (okO_i okO_n)) (okL_i (okL_r (by decide) okL_n))) ?_
  have g9 := gOk.s g8 (sh := (0, 9)) rfl
  refine R_dup rfl rfl ?_
  have e9 := ink_State (k := 59) g9 isS_59
  refine G_init (d := 3) (k := 30) (as := []) rfl rfl iv_State_init (ini_State (k := 59) g9 isS_59) (by decide) rfl rfl rfl rfl rfl rfl (Nat.le_of_ble_eq_true rfl) g9 e9 (by omega) (gV_of (okO_r (by decide) (okO_i okO_n)) (okL_r (by decide) (okL_i (okL_r (by decide) okL_n)))) ?_
  have g10 := e9
  refine G_aast (j := 2) (ci := 9) rfl rfl (by decide) rfl (by decide) (by decide) rfl rfl (by decide) (by decide) ?_
  have g11 := gOk.cP g10 (k := 38) (j := 2) (x := 59) (by decide) (by decide)
  refine R_iinc rfl rfl (by decide) ?_
  rw [show (2 + Int32.ofInt 1 : Int32) = 3 from rfl]
  refine R_goto rfl rfl ?_
  refine R_iload_n rfl rfl ?_
  refine R_aload_n rfl rfl ?_
  refine G_gP (x := 38) rfl (by decide) rfl (by decide) (by decide) (fun _ _ _ => rfl) rfl ?_
  refine R_alen (ty := .int) (v := 6) rfl (mG_sh (rfl : Sh[38]? = _) (by decide)) (by decide) rfl ?_
  refine R_icmp_ge rfl rfl (fun hz => absurd hz (by decide)) (fun _ => ?_)
  refine R_aload_n rfl rfl ?_
  refine G_gP (x := 38) rfl (by decide) rfl (by decide) (by decide) (fun _ _ _ => rfl) rfl ?_
  refine R_iload_n rfl rfl ?_
  refine G_new (k := 29) rfl (by decide) rfl g11 (gV_of (okO_r (by decide) (okO_i okO_n)) (okL_i (okL_r (by decide) okL_n))) ?_
  have g12 := gOk.s g11 (sh := (0, 9)) rfl
  refine R_dup rfl rfl ?_
  have e12 := ink_State (k := 69) g12 isS_69
  refine G_init (d := 3) (k := 20) (as := []) rfl rfl iv_State_init (ini_State (k := 69) g12 isS_69) (by decide) rfl rfl rfl rfl rfl rfl (Nat.le_of_ble_eq_true rfl) g12 e12 (by omega) (gV_of (okO_r (by decide) (okO_i okO_n)) (okL_r (by decide) (okL_i (okL_r (by decide) okL_n)))) ?_
  have g13 := e12
  refine G_aast (j := 3) (ci := 9) rfl rfl (by decide) rfl (by decide) (by decide) rfl rfl (by decide) (by decide) ?_
  have g14 := gOk.cP g13 (k := 38) (j := 3) (x := 69) (by decide) (by decide)
  refine R_iinc rfl rfl (by decide) ?_
  rw [show (3 + Int32.ofInt 1 : Int32) = 4 from rfl]
  refine R_goto rfl rfl ?_
  refine R_iload_n rfl rfl ?_
  refine R_aload_n rfl rfl ?_
  refine G_gP (x := 38) rfl (by decide) rfl (by decide) (by decide) (fun _ _ _ => rfl) rfl ?_
  refine R_alen (ty := .int) (v := 6) rfl (mG_sh (rfl : Sh[38]? = _) (by decide)) (by decide) rfl ?_
  refine R_icmp_ge rfl rfl (fun hz => absurd hz (by decide)) (fun _ => ?_)
  refine R_aload_n rfl rfl ?_
  refine G_gP (x := 38) rfl (by decide) rfl (by decide) (by decide) (fun _ _ _ => rfl) rfl ?_
  refine R_iload_n rfl rfl ?_
  refine G_new (k := 19) rfl (by decide) rfl g14 (gV_of (okO_r (by decide) (okO_i okO_n)) (okL_i (okL_r (by decide) okL_n))) ?_
  have g15 := gOk.s g14 (sh := (0, 9)) rfl
  refine R_dup rfl rfl ?_
  have e15 := ink_State (k := 79) g15 isS_79
  refine G_init (d := 3) (k := 10) (as := []) rfl rfl iv_State_init (ini_State (k := 79) g15 isS_79) (by decide) rfl rfl rfl rfl rfl rfl (Nat.le_of_ble_eq_true rfl) g15 e15 (by omega) (gV_of (okO_r (by decide) (okO_i okO_n)) (okL_r (by decide) (okL_i (okL_r (by decide) okL_n)))) ?_
  have g16 := e15
  refine G_aast (j := 4) (ci := 9) rfl rfl (by decide) rfl (by decide) (by decide) rfl rfl (by decide) (by decide) ?_
  have g17 := gOk.cP g16 (k := 38) (j := 4) (x := 79) (by decide) (by decide)
  refine R_iinc rfl rfl (by decide) ?_
  rw [show (4 + Int32.ofInt 1 : Int32) = 5 from rfl]
  refine R_goto rfl rfl ?_
  refine R_iload_n rfl rfl ?_
  refine R_aload_n rfl rfl ?_
  refine G_gP (x := 38) rfl (by decide) rfl (by decide) (by decide) (fun _ _ _ => rfl) rfl ?_
  refine R_alen (ty := .int) (v := 6) rfl (mG_sh (rfl : Sh[38]? = _) (by decide)) (by decide) rfl ?_
  refine R_icmp_ge rfl rfl (fun hz => absurd hz (by decide)) (fun _ => ?_)
  refine R_aload_n rfl rfl ?_
  refine G_gP (x := 38) rfl (by decide) rfl (by decide) (by decide) (fun _ _ _ => rfl) rfl ?_
  refine R_iload_n rfl rfl ?_
  refine G_new (k := 9) rfl (by decide) rfl g17 (gV_of (okO_r (by decide) (okO_i okO_n)) (okL_i (okL_r (by decide) okL_n))) ?_
  have g18 := gOk.s g17 (sh := (0, 9)) rfl
  refine R_dup rfl rfl ?_
  have e18 := ink_State (k := 89) g18 isS_89
  refine G_init (d := 3) (k := 0) (as := []) rfl rfl iv_State_init (ini_State (k := 89) g18 isS_89) (by decide) rfl rfl rfl rfl rfl rfl (Nat.le_of_ble_eq_true rfl) g18 e18 (by omega) (gV_of (okO_r (by decide) (okO_i okO_n)) (okL_r (by decide) (okL_i (okL_r (by decide) okL_n)))) ?_
  have g19 := e18
  refine G_aast (j := 5) (ci := 9) rfl rfl (by decide) rfl (by decide) (by decide) rfl rfl (by decide) (by decide) ?_
  have g20 := gOk.cP g19 (k := 38) (j := 5) (x := 89) (by decide) (by decide)
  refine R_iinc rfl rfl (by decide) ?_
  rw [show (5 + Int32.ofInt 1 : Int32) = 6 from rfl]
  refine R_goto rfl rfl ?_
  refine R_iload_n rfl rfl ?_
  refine R_aload_n rfl rfl ?_
  refine G_gP (x := 38) rfl (by decide) rfl (by decide) (by decide) (fun _ _ _ => rfl) rfl ?_
  refine R_alen (ty := .int) (v := 6) rfl (mG_sh (rfl : Sh[38]? = _) (by decide)) (by decide) rfl ?_
  refine R_icmp_ge rfl rfl (fun _ => ?_) (fun hz => absurd (by decide) hz)
  exact R_return (st := []) rfl rfl rfl
theorem ini_D {xs : Nat → Int32} {N : Int32} {I : List (Nat × Nat × Int32)} {L : List (Nat × Nat × Int64)} {P : List (Nat × Nat × Nat)} (hok : gOk (1) I L P) : am_Call am_TX 4 119 c_D_init [.ref 0] (mG xs N (1) I L P) (gOut xs N (120) ((113, 3, (-1)) :: (113, 2, (-1)) :: (116, 1, 1) :: (116, 0, 0) :: (114, 1, 1) :: (114, 0, 1) :: (112, 3, (-1)) :: (112, 2, (-1)) :: (112, 1, (-1)) :: (112, 0, (-1)) :: (110, 1, 1) :: (110, 0, 1) :: (103, 3, (-1)) :: (103, 2, (-1)) :: (106, 1, 1) :: (106, 0, 0) :: (104, 1, 1) :: (104, 0, 1) :: (102, 3, (-1)) :: (102, 2, (-1)) :: (102, 1, (-1)) :: (102, 0, (-1)) :: (100, 1, 1) :: (100, 0, 1) :: (93, 3, (-1)) :: (93, 2, (-1)) :: (96, 1, 1) :: (96, 0, 0) :: (94, 1, 1) :: (94, 0, 1) :: (92, 3, (-1)) :: (92, 2, (-1)) :: (92, 1, (-1)) :: (92, 0, (-1)) :: (90, 1, 1) :: (90, 0, 1) :: (83, 3, (-1)) :: (83, 2, (-1)) :: (86, 1, 1) :: (86, 0, 0) :: (84, 1, 1) :: (84, 0, 1) :: (82, 3, (-1)) :: (82, 2, (-1)) :: (82, 1, (-1)) :: (82, 0, (-1)) :: (80, 1, 1) :: (80, 0, 1) :: (73, 3, (-1)) :: (73, 2, (-1)) :: (76, 1, 1) :: (76, 0, 0) :: (74, 1, 1) :: (74, 0, 1) :: (72, 3, (-1)) :: (72, 2, (-1)) :: (72, 1, (-1)) :: (72, 0, (-1)) :: (70, 1, 1) :: (70, 0, 1) :: (63, 3, (-1)) :: (63, 2, (-1)) :: (66, 1, 1) :: (66, 0, 0) :: (64, 1, 1) :: (64, 0, 1) :: (62, 3, (-1)) :: (62, 2, (-1)) :: (62, 1, (-1)) :: (62, 0, (-1)) :: (60, 1, 1) :: (60, 0, 1) :: (53, 3, (-1)) :: (53, 2, (-1)) :: (56, 1, 1) :: (56, 0, 0) :: (54, 1, 1) :: (54, 0, 1) :: (52, 3, (-1)) :: (52, 2, (-1)) :: (52, 1, (-1)) :: (52, 0, (-1)) :: (50, 1, 1) :: (50, 0, 1) :: (43, 3, (-1)) :: (43, 2, (-1)) :: (46, 1, 1) :: (46, 0, 0) :: (44, 1, 1) :: (44, 0, 1) :: (42, 3, (-1)) :: (42, 2, (-1)) :: (42, 1, (-1)) :: (42, 0, (-1)) :: (40, 1, 1) :: (40, 0, 1) :: (36, 3, (-1)) :: (36, 2, (-1)) :: (36, 1, (-1)) :: (36, 0, (-1)) :: (30, 3, (-1)) :: (30, 2, (-1)) :: (33, 1, 1) :: (33, 0, 0) :: (31, 1, 1) :: (31, 0, 1) :: (29, 3, (-1)) :: (29, 2, (-1)) :: (29, 1, (-1)) :: (29, 0, (-1)) :: (27, 1, 1) :: (27, 0, 1) :: (21, 1, 1) :: (21, 0, 1) :: (19, 1, 1) :: (19, 0, 1) :: (17, 1, 1) :: (17, 0, 1) :: (13, 2, (-1)) :: (7, 3, (-1)) :: (7, 2, (-1)) :: (10, 1, 1) :: (10, 0, 0) :: (8, 1, 1) :: (8, 0, 1) :: (6, 3, (-1)) :: (6, 2, (-1)) :: (6, 1, (-1)) :: (6, 0, (-1)) :: (4, 1, 1) :: (4, 0, 1) :: I) (L) ((0, 11, 119) :: (0, 10, 109) :: (109, 6, 118) :: (109, 2, 113) :: (113, 1, 116) :: (116, 2, 117) :: (113, 0, 114) :: (114, 2, 115) :: (109, 1, 112) :: (109, 0, 110) :: (110, 2, 111) :: (0, 9, 99) :: (99, 6, 108) :: (99, 2, 103) :: (103, 1, 106) :: (106, 2, 107) :: (103, 0, 104) :: (104, 2, 105) :: (99, 1, 102) :: (99, 0, 100) :: (100, 2, 101) :: (0, 8, 37) :: (38, 5, 89) :: (89, 6, 98) :: (89, 2, 93) :: (93, 1, 96) :: (96, 2, 97) :: (93, 0, 94) :: (94, 2, 95) :: (89, 1, 92) :: (89, 0, 90) :: (90, 2, 91) :: (38, 4, 79) :: (79, 6, 88) :: (79, 2, 83) :: (83, 1, 86) :: (86, 2, 87) :: (83, 0, 84) :: (84, 2, 85) :: (79, 1, 82) :: (79, 0, 80) :: (80, 2, 81) :: (38, 3, 69) :: (69, 6, 78) :: (69, 2, 73) :: (73, 1, 76) :: (76, 2, 77) :: (73, 0, 74) :: (74, 2, 75) :: (69, 1, 72) :: (69, 0, 70) :: (70, 2, 71) :: (38, 2, 59) :: (59, 6, 68) :: (59, 2, 63) :: (63, 1, 66) :: (66, 2, 67) :: (63, 0, 64) :: (64, 2, 65) :: (59, 1, 62) :: (59, 0, 60) :: (60, 2, 61) :: (38, 1, 49) :: (49, 6, 58) :: (49, 2, 53) :: (53, 1, 56) :: (56, 2, 57) :: (53, 0, 54) :: (54, 2, 55) :: (49, 1, 52) :: (49, 0, 50) :: (50, 2, 51) :: (38, 0, 39) :: (39, 6, 48) :: (39, 2, 43) :: (43, 1, 46) :: (46, 2, 47) :: (43, 0, 44) :: (44, 2, 45) :: (39, 1, 42) :: (39, 0, 40) :: (40, 2, 41) :: (37, 2, 38) :: (0, 7, 36) :: (0, 6, 26) :: (26, 6, 35) :: (26, 2, 30) :: (30, 1, 33) :: (33, 2, 34) :: (30, 0, 31) :: (31, 2, 32) :: (26, 1, 29) :: (26, 0, 27) :: (27, 2, 28) :: (0, 5, 24) :: (24, 1, 25) :: (24, 0, 16) :: (0, 4, 16) :: (16, 3, 23) :: (16, 2, 21) :: (21, 2, 22) :: (16, 1, 19) :: (19, 2, 20) :: (16, 0, 17) :: (17, 2, 18) :: (0, 3, 14) :: (14, 1, 15) :: (0, 2, 13) :: (13, 4, 3) :: (13, 3, 1) :: (0, 1, 3) :: (3, 6, 12) :: (3, 2, 7) :: (7, 1, 10) :: (10, 2, 11) :: (7, 0, 8) :: (8, 2, 9) :: (3, 1, 6) :: (3, 0, 4) :: (4, 2, 5) :: (0, 0, 1) :: (1, 1, 2) :: P)) := by
  refine ⟨mf_D_init, Nat.le_of_ble_eq_true rfl, ?_⟩
  show am_R _ _ _ _ 0 [some (.ref 0)] [] _ _
  have g0 := hok
  refine R_aload_n rfl rfl ?_
  refine R_objI rfl rfl (Nat.le_of_ble_eq_true rfl) ?_
  refine R_aload_n rfl rfl ?_
  refine G_new (k := 118) rfl (by decide) rfl g0 (gV_of (okO_r (by decide) okO_n) (okL_r (by decide) okL_n)) ?_
  have g1 := gOk.s g0 (sh := (0, 3)) rfl
  refine R_dup rfl rfl ?_
  have e1 := ink_Input g1 
  refine G_init (d := 4) (k := 117) (as := []) rfl rfl iv_Input_init (ini_Input g1 ) (by decide) rfl rfl rfl rfl rfl rfl (Nat.le_of_ble_eq_true rfl) g1 e1 (by omega) (gV_of (okO_r (by decide) okO_n) (okL_r (by decide) (okL_r (by decide) okL_n))) ?_
  have g2 := e1
  refine G_pP rfl (by decide) rfl (by decide) (by decide) (fun _ _ _ => rfl) (fun _ => rfl) (fun _ => rfl) (by first | exact Or.inl rfl | exact Or.inr ⟨rfl, rfl, rfl⟩) ?_
  have g3 := gOk.cP g2 (k := 0) (j := 0) (x := 1) (by decide) (by decide)
  refine R_aload_n rfl rfl ?_
  refine G_new (k := 116) rfl (by decide) rfl g3 (gV_of (okO_r (by decide) okO_n) (okL_r (by decide) okL_n)) ?_
  have g4 := gOk.s g3 (sh := (0, 9)) rfl
  refine R_dup rfl rfl ?_
  have e4 := ink_State (k := 3) g4 isS_3
  refine G_init (d := 4) (k := 107) (as := []) rfl rfl iv_State_init (ini_State (k := 3) g4 isS_3) (by decide) rfl rfl rfl rfl rfl rfl (Nat.le_of_ble_eq_true rfl) g4 e4 (by omega) (gV_of (okO_r (by decide) okO_n) (okL_r (by decide) (okL_r (by decide) okL_n))) ?_
  have g5 := e4
  refine G_pP rfl (by decide) rfl (by decide) (by decide) (fun _ _ _ => rfl) (fun _ => rfl) (fun _ => rfl) (by first | exact Or.inl rfl | exact Or.inr ⟨rfl, rfl, rfl⟩) ?_
  have g6 := gOk.cP g5 (k := 0) (j := 1) (x := 3) (by decide) (by decide)
  refine R_aload_n rfl rfl ?_
  refine G_new (k := 106) rfl (by decide) rfl g6 (gV_of (okO_r (by decide) okO_n) (okL_r (by decide) okL_n)) ?_
  have g7 := gOk.s g6 (sh := (0, 6)) rfl
  refine R_dup rfl rfl ?_
  refine R_aload_n rfl rfl ?_
  refine G_gP (x := 1) rfl (by decide) rfl (by decide) (by decide) (fun _ _ _ => rfl) rfl ?_
  refine R_aload_n rfl rfl ?_
  refine G_gP (x := 3) rfl (by decide) rfl (by decide) (by decide) (fun _ _ _ => rfl) rfl ?_
  have e7 := ink_Parser g7 
  refine G_init (d := 4) (k := 106) (as := [.ref 1, .ref 3]) rfl rfl iv_Parser_init (ini_Parser g7 ) (by decide) rfl rfl rfl rfl rfl rfl (Nat.le_of_ble_eq_true rfl) g7 e7 (by omega) (gV_of (okO_r (by decide) okO_n) (okL_r (by decide) (okL_r (by decide) okL_n))) ?_
  have g8 := e7
  refine G_pP rfl (by decide) rfl (by decide) (by decide) (fun _ _ _ => rfl) (fun _ => rfl) (fun _ => rfl) (by first | exact Or.inl rfl | exact Or.inr ⟨rfl, rfl, rfl⟩) ?_
  have g9 := gOk.cP g8 (k := 0) (j := 2) (x := 13) (by decide) (by decide)
  refine R_aload_n rfl rfl ?_
  refine G_new (k := 105) rfl (by decide) rfl g9 (gV_of (okO_r (by decide) okO_n) (okL_r (by decide) okL_n)) ?_
  have g10 := gOk.s g9 (sh := (0, 5)) rfl
  refine R_dup rfl rfl ?_
  have e10 := ink_Output g10 
  refine G_init (d := 4) (k := 104) (as := []) rfl rfl iv_Output_init (ini_Output g10 ) (by decide) rfl rfl rfl rfl rfl rfl (Nat.le_of_ble_eq_true rfl) g10 e10 (by omega) (gV_of (okO_r (by decide) okO_n) (okL_r (by decide) (okL_r (by decide) okL_n))) ?_
  have g11 := e10
  refine G_pP rfl (by decide) rfl (by decide) (by decide) (fun _ _ _ => rfl) (fun _ => rfl) (fun _ => rfl) (by first | exact Or.inl rfl | exact Or.inr ⟨rfl, rfl, rfl⟩) ?_
  have g12 := gOk.cP g11 (k := 0) (j := 3) (x := 14) (by decide) (by decide)
  refine R_aload_n rfl rfl ?_
  refine G_new (k := 103) rfl (by decide) rfl g12 (gV_of (okO_r (by decide) okO_n) (okL_r (by decide) okL_n)) ?_
  have g13 := gOk.s g12 (sh := (0, 7)) rfl
  refine R_dup rfl rfl ?_
  have e13 := ink_Reckoner g13 
  refine G_init (d := 4) (k := 96) (as := []) rfl rfl iv_Reckoner_init (ini_Reckoner g13 ) (by decide) rfl rfl rfl rfl rfl rfl (Nat.le_of_ble_eq_true rfl) g13 e13 (by omega) (gV_of (okO_r (by decide) okO_n) (okL_r (by decide) (okL_r (by decide) okL_n))) ?_
  have g14 := e13
  refine G_pP rfl (by decide) rfl (by decide) (by decide) (fun _ _ _ => rfl) (fun _ => rfl) (fun _ => rfl) (by first | exact Or.inl rfl | exact Or.inr ⟨rfl, rfl, rfl⟩) ?_
  have g15 := gOk.cP g14 (k := 0) (j := 4) (x := 16) (by decide) (by decide)
  refine R_aload_n rfl rfl ?_
  refine G_new (k := 95) rfl (by decide) rfl g15 (gV_of (okO_r (by decide) okO_n) (okL_r (by decide) okL_n)) ?_
  have g16 := gOk.s g15 (sh := (0, 8)) rfl
  refine R_dup rfl rfl ?_
  refine R_aload_n rfl rfl ?_
  refine G_gP (x := 16) rfl (by decide) rfl (by decide) (by decide) (fun _ _ _ => rfl) rfl ?_
  have e16 := ink_RowSets g16 
  refine G_init (d := 4) (k := 94) (as := [.ref 16]) rfl rfl iv_RowSets_init (ini_RowSets g16 ) (by decide) rfl rfl rfl rfl rfl rfl (Nat.le_of_ble_eq_true rfl) g16 e16 (by omega) (gV_of (okO_r (by decide) okO_n) (okL_r (by decide) (okL_r (by decide) okL_n))) ?_
  have g17 := e16
  refine G_pP rfl (by decide) rfl (by decide) (by decide) (fun _ _ _ => rfl) (fun _ => rfl) (fun _ => rfl) (by first | exact Or.inl rfl | exact Or.inr ⟨rfl, rfl, rfl⟩) ?_
  have g18 := gOk.cP g17 (k := 0) (j := 5) (x := 24) (by decide) (by decide)
  refine R_aload_n rfl rfl ?_
  refine G_new (k := 93) rfl (by decide) rfl g18 (gV_of (okO_r (by decide) okO_n) (okL_r (by decide) okL_n)) ?_
  have g19 := gOk.s g18 (sh := (0, 9)) rfl
  refine R_dup rfl rfl ?_
  have e19 := ink_State (k := 26) g19 isS_26
  refine G_init (d := 4) (k := 84) (as := []) rfl rfl iv_State_init (ini_State (k := 26) g19 isS_26) (by decide) rfl rfl rfl rfl rfl rfl (Nat.le_of_ble_eq_true rfl) g19 e19 (by omega) (gV_of (okO_r (by decide) okO_n) (okL_r (by decide) (okL_r (by decide) okL_n))) ?_
  have g20 := e19
  refine G_pP rfl (by decide) rfl (by decide) (by decide) (fun _ _ _ => rfl) (fun _ => rfl) (fun _ => rfl) (by first | exact Or.inl rfl | exact Or.inr ⟨rfl, rfl, rfl⟩) ?_
  have g21 := gOk.cP g20 (k := 0) (j := 6) (x := 26) (by decide) (by decide)
  refine R_aload_n rfl rfl ?_
  refine G_new (k := 83) rfl (by decide) rfl g21 (gV_of (okO_r (by decide) okO_n) (okL_r (by decide) okL_n)) ?_
  have g22 := gOk.s g21 (sh := (0, 1)) rfl
  refine R_dup rfl rfl ?_
  have e22 := ink_Guess (k := 36) g22 rfl
  refine G_init (d := 4) (k := 83) (as := []) rfl rfl iv_Guess_init (ini_Guess (k := 36) g22 rfl) (by decide) rfl rfl rfl rfl rfl rfl (Nat.le_of_ble_eq_true rfl) g22 e22 (by omega) (gV_of (okO_r (by decide) okO_n) (okL_r (by decide) (okL_r (by decide) okL_n))) ?_
  have g23 := e22
  refine G_pP rfl (by decide) rfl (by decide) (by decide) (fun _ _ _ => rfl) (fun _ => rfl) (fun _ => rfl) (by first | exact Or.inl rfl | exact Or.inr ⟨rfl, rfl, rfl⟩) ?_
  have g24 := gOk.cP g23 (k := 0) (j := 7) (x := 36) (by decide) (by decide)
  refine R_aload_n rfl rfl ?_
  refine G_new (k := 82) rfl (by decide) rfl g24 (gV_of (okO_r (by decide) okO_n) (okL_r (by decide) okL_n)) ?_
  have g25 := gOk.s g24 (sh := (0, 2)) rfl
  refine R_dup rfl rfl ?_
  have e25 := ink_History g25 
  refine G_init (d := 4) (k := 21) (as := []) rfl rfl iv_History_init (ini_History g25 ) (by decide) rfl rfl rfl rfl rfl rfl (Nat.le_of_ble_eq_true rfl) g25 e25 (by omega) (gV_of (okO_r (by decide) okO_n) (okL_r (by decide) (okL_r (by decide) okL_n))) ?_
  have g26 := e25
  refine G_pP rfl (by decide) rfl (by decide) (by decide) (fun _ _ _ => rfl) (fun _ => rfl) (fun _ => rfl) (by first | exact Or.inl rfl | exact Or.inr ⟨rfl, rfl, rfl⟩) ?_
  have g27 := gOk.cP g26 (k := 0) (j := 8) (x := 37) (by decide) (by decide)
  refine R_aload_n rfl rfl ?_
  refine G_new (k := 20) rfl (by decide) rfl g27 (gV_of (okO_r (by decide) okO_n) (okL_r (by decide) okL_n)) ?_
  have g28 := gOk.s g27 (sh := (0, 9)) rfl
  refine R_dup rfl rfl ?_
  have e28 := ink_State (k := 99) g28 isS_99
  refine G_init (d := 4) (k := 11) (as := []) rfl rfl iv_State_init (ini_State (k := 99) g28 isS_99) (by decide) rfl rfl rfl rfl rfl rfl (Nat.le_of_ble_eq_true rfl) g28 e28 (by omega) (gV_of (okO_r (by decide) okO_n) (okL_r (by decide) (okL_r (by decide) okL_n))) ?_
  have g29 := e28
  refine G_pP rfl (by decide) rfl (by decide) (by decide) (fun _ _ _ => rfl) (fun _ => rfl) (fun _ => rfl) (by first | exact Or.inl rfl | exact Or.inr ⟨rfl, rfl, rfl⟩) ?_
  have g30 := gOk.cP g29 (k := 0) (j := 9) (x := 99) (by decide) (by decide)
  refine R_aload_n rfl rfl ?_
  refine G_new (k := 10) rfl (by decide) rfl g30 (gV_of (okO_r (by decide) okO_n) (okL_r (by decide) okL_n)) ?_
  have g31 := gOk.s g30 (sh := (0, 9)) rfl
  refine R_dup rfl rfl ?_
  have e31 := ink_State (k := 109) g31 isS_109
  refine G_init (d := 4) (k := 1) (as := []) rfl rfl iv_State_init (ini_State (k := 109) g31 isS_109) (by decide) rfl rfl rfl rfl rfl rfl (Nat.le_of_ble_eq_true rfl) g31 e31 (by omega) (gV_of (okO_r (by decide) okO_n) (okL_r (by decide) (okL_r (by decide) okL_n))) ?_
  have g32 := e31
  refine G_pP rfl (by decide) rfl (by decide) (by decide) (fun _ _ _ => rfl) (fun _ => rfl) (fun _ => rfl) (by first | exact Or.inl rfl | exact Or.inr ⟨rfl, rfl, rfl⟩) ?_
  have g33 := gOk.cP g32 (k := 0) (j := 10) (x := 109) (by decide) (by decide)
  refine R_aload_n rfl rfl ?_
  refine R_iconst (v := 2) rfl rfl ?_
  refine G_newI (k := 0) (ty := .boolean) (kd := 4) (M := 2) rfl rfl rfl (fun _ _ _ => rfl) (fun _ => rfl) rfl (by decide) (by decide) (by decide) (by decide) rfl g33 (gV_of (okO_r (by decide) okO_n) (okL_r (by decide) okL_n)) ?_
  have g34 := gOk.s g33 (sh := (4, 2)) rfl
  refine G_pP rfl (by decide) rfl (by decide) (by decide) (fun _ _ _ => rfl) (fun _ => rfl) (fun _ => rfl) (by first | exact Or.inl rfl | exact Or.inr ⟨rfl, rfl, rfl⟩) ?_
  have g35 := gOk.cP g34 (k := 0) (j := 11) (x := 119) (by decide) (by decide)
  exact R_return (st := []) rfl rfl rfl
