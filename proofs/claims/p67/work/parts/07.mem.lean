/-! ===== the rules of fields and arrays ===== -/
theorem am_clq {ci : Nat} (h : ci < 13) : am_cl[ci]? = some (am_q ci) := by
  match ci, h with
  | 0, _ => rfl
  | 1, _ => rfl
  | 2, _ => rfl
  | 3, _ => rfl
  | 4, _ => rfl
  | 5, _ => rfl
  | 6, _ => rfl
  | 7, _ => rfl
  | 8, _ => rfl
  | 9, _ => rfl
  | 10, _ => rfl
  | 11, _ => rfl
  | 12, _ => rfl
/-- one number of a place is changed -/
def am_up {α : Type} (f : Nat → Nat → α) (k j : Nat) (x : α) : Nat → Nat → α := fun a b => if a = k then (if b = j then x else f a b) else f a b
def am_uI (μ : am_M) (k j : Nat) (x : Int32) : am_M := (μ.1, am_up μ.2.1 k j x, μ.2.2.1, μ.2.2.2)
def am_uL (μ : am_M) (k j : Nat) (x : Int64) : am_M := (μ.1, μ.2.1, am_up μ.2.2.1 k j x, μ.2.2.2)
def am_uP (μ : am_M) (k j : Nat) (x : Option Nat) : am_M := (μ.1, μ.2.1, μ.2.2.1, am_up μ.2.2.2 k j x)
theorem am_up_o {α : Type} {f : Nat → Nat → α} {k j i : Nat} {x : α} (h : i ≠ k) : am_up f k j x i = f i := by
  funext b
  simp [am_up, h]
theorem am_up_s {α : Type} {f : Nat → Nat → α} {k j : Nat} {x : α} : am_up f k j x k = fun b => if b = j then x else f k b := by
  funext b
  simp [am_up]
theorem am_set_map {α : Type} (n : Nat) (f : Nat → α) (j : Nat) (v : α) : ((List.range n).map f).set j v = (List.range n).map (fun i => if i = j then v else f i) := by
  apply List.ext_getElem?
  intro i
  by_cases hi : i < n
  · by_cases hj : j = i
    · subst hj
      rw [List.getElem?_set_self (by simpa using hi)]
      simp [hi]
    · rw [List.getElem?_set_ne hj]
      simp [hi, Ne.symm hj]
  · rw [List.getElem?_eq_none (by simp; omega), List.getElem?_eq_none (by simp; omega)]
theorem am_Wt.upd {Tx : am_Tx} {D : va_G} {b0 : Nat → Prop} {en : am_E} {μ ν : am_M} {l : Launch} {s : State} {H H1 : Heap} {locs locs1 : List Loc} (Wd : am_Wt D b0 en μ s H) (B : am_Base Tx b0 en.1 l s s.heap) (S : va_S (am_F b0) s.heap H locs) (S1 : va_S (am_F b0) s.heap H1 locs1)
    (hP : va_P D am_cl (am_ws en ν) H1) (hD : va_D (am_F b0) (am_ws en ν)) (h1 : ν.1 = μ.1) (h2 : ν.2.1 3000 = μ.2.1 3000) (h3 : ν.2.1 3001 = μ.2.1 3001) : am_Wt D b0 en ν s H1 := by
  obtain ⟨w1, w2, w3, w4, ⟨Ln, x1, x2, x3, x4⟩, w6⟩ := Wd
  have hb : en.1 3000 < s.heap.size := Nat.not_le.mp fun z => x4 (B.2.1 _ z)
  exact ⟨hP, w2, by rw [h1]; exact w3, hD, ⟨Ln, by rw [h2]; exact x1.kept ((S1.2.1 _ hb x4).trans (S.2.1 _ hb x4).symm), by rw [h3]; exact x2, x3, x4⟩, by rw [h1]; exact w6⟩
theorem am_lt {D : va_G} {b0 : Nat → Prop} {en : am_E} {μ : am_M} {s : State} {H : Heap} (Wd : am_Wt D b0 en μ s H) {k : Nat} {sh : Nat × Nat} (h : μ.1[k]? = some sh) : k < 1000 := by
  have h1 := (List.getElem?_eq_some_iff.mp h).1
  have h2 := Wd.2.2.2.2.2
  omega

theorem am_h3 {μ : am_M} {k j : Nat} {x : Int32} (h : k < 1000) : (am_uI μ k j x).2.1 3000 = μ.2.1 3000 := am_up_o (by omega)
theorem am_h3b {μ : am_M} {k j : Nat} {x : Int32} (h : k < 1000) : (am_uI μ k j x).2.1 3001 = μ.2.1 3001 := am_up_o (by omega)
theorem am_upd_nI {f : Nat → Int32} {j : Nat} {x : Int32} (h : j < 2 ^ 31) : upd f (nI j).toNatClampNeg x = fun b => if b = j then x else f b := by
  rw [nI_clamp h]; rfl
theorem am_updL_nI {f : Nat → Int64} {j : Nat} {x : Int64} (h : j < 2 ^ 31) : vp_updL f (nI j).toNatClampNeg x = fun b => if b = j then x else f b := by
  rw [nI_clamp h]; rfl
theorem R_getI {Tx : am_Tx} {d k : Nat} {c : am_C} {pc a b : Nat} {ls : List (Option Value)} {st : List Value} {μ : am_M} {Q : am_Res → Prop} {idx ci j kp : Nat} (hc : c.2 pc = some (.getfield idx, 3, ci, j)) (hci : ci < 13) (hS : μ.1[kp]? = some (0, ci)) (hj : j < am_nf ci) (ht : ∀ ad i q, am_fv ad (am_ty ci j) i q = .int i) (h : am_R Tx d k c (pc + 3) ls (.int (μ.2.1 kp j) :: st) μ Q) : am_R Tx d k c pc ls (.ref kp :: st) μ Q := by
  intro D b0 en p l e Rm s m args below meth cc H locs cells slots mc ms la C B Wd S L hk
  have hdg := C.2.2.2.2.1 pc _ hc
  have hw := C.2.1.2.1 _ (am_Wmem (C.2.2.2.2.2 pc _ hc _ List.mem_cons_self) rfl)
  obtain ⟨q1, q2, q3, q4⟩ := am_cl_ok ci _ (am_clq hci)
  refine va_get (v := am_v en.1 (.int (μ.2.1 kp j))) C.1.1 C.1.2.1 C.2.1.2.1 q2 C.2.1.1 Wd.2.1 Wd.1 kp (am_ws_get hS) (am_clq hci) j (by rw [q1]; exact hj) hw (fun _ z => z) ?_ hdg (h D b0 en p l e Rm s m args below meth cc H locs cells slots mc ms la C B Wd S L hk)
  rw [List.getElem?_map, List.getElem?_range hj, Option.map_some, ht]
  rfl
theorem R_getP {Tx : am_Tx} {d k : Nat} {c : am_C} {pc a b : Nat} {ls : List (Option Value)} {st : List Value} {μ : am_M} {Q : am_Res → Prop} {idx ci j kp : Nat} {x : Nat} (hc : c.2 pc = some (.getfield idx, 3, ci, j)) (hci : ci < 13) (hS : μ.1[kp]? = some (0, ci)) (hj : j < am_nf ci) (ht : ∀ ad i q, am_fv ad (am_ty ci j) i q = va_rf (q.map ad)) (hp : μ.2.2.2 kp j = some x) (h : am_R Tx d k c (pc + 3) ls (.ref x :: st) μ Q) : am_R Tx d k c pc ls (.ref kp :: st) μ Q := by
  intro D b0 en p l e Rm s m args below meth cc H locs cells slots mc ms la C B Wd S L hk
  have hdg := C.2.2.2.2.1 pc _ hc
  have hw := C.2.1.2.1 _ (am_Wmem (C.2.2.2.2.2 pc _ hc _ List.mem_cons_self) rfl)
  obtain ⟨q1, q2, q3, q4⟩ := am_cl_ok ci _ (am_clq hci)
  refine va_get (v := am_v en.1 (.ref x)) C.1.1 C.1.2.1 C.2.1.2.1 q2 C.2.1.1 Wd.2.1 Wd.1 kp (am_ws_get hS) (am_clq hci) j (by rw [q1]; exact hj) hw (fun _ z => z) ?_ hdg (h D b0 en p l e Rm s m args below meth cc H locs cells slots mc ms la C B Wd S L hk)
  rw [List.getElem?_map, List.getElem?_range hj, Option.map_some, ht]
  rw [hp]
  rfl
theorem R_putI {Tx : am_Tx} {d k : Nat} {c : am_C} {pc a b : Nat} {ls : List (Option Value)} {st : List Value} {μ : am_M} {Q : am_Res → Prop} {idx ci j kp : Nat} {x : Int32} (hc : c.2 pc = some (.putfield idx, 3, ci, j)) (hci : ci < 13) (hS : μ.1[kp]? = some (0, ci)) (hj : j < am_nf ci) (ht : ∀ ad i q, am_fv ad (am_ty ci j) i q = .int i) (hfin : ((am_q ci).2.1 j).2.2.2 = false) (hn : narrow (am_ty ci j) (.int x) = .int x) (hf : fits (am_ty ci j) (.int x) = true) (h : am_R Tx d k c (pc + 3) ls st (am_uI μ kp j x) Q) : am_R Tx d k c pc ls (.int x :: .ref kp :: st) μ Q := by
  intro D b0 en p l e Rm s m args below meth cc H locs cells slots mc ms la C B Wd S L hk
  have hdg := C.2.2.2.2.1 pc _ hc
  have hw := C.2.1.2.1 _ (am_Wmem (C.2.2.2.2.2 pc _ hc _ List.mem_cons_self) rfl)
  obtain ⟨q1, q2, q3, q4⟩ := am_cl_ok ci _ (am_clq hci)
  have hlt := am_lt Wd hS
  have hset : (am_ws en μ).set kp (en.1 kp, .inr (ci, ((List.range (am_nf ci)).map (fun j => am_fv en.1 (am_ty ci j) (μ.2.1 kp j) (μ.2.2.2 kp j))).set j (am_v en.1 (.int x)))) = am_ws en (am_uI μ kp j x) := by
    refine am_ws_set hS rfl ?_ ?_
    · rw [am_set_map]
      show (Sum.inr (ci, _) : va_E) = Sum.inr (ci, _)
      refine congrArg (fun z => Sum.inr (ci, z)) (List.map_congr_left fun i hi => ?_)
      by_cases hij : i = j
      · subst hij
        simp only [if_pos]
        rw [ht]
        simp [am_uI, am_up, am_v, va_rf]
      · simp [am_uI, am_up, hij]
    · intro i kd n hi
      unfold am_cell
      simp only [am_uI, am_up_o hi]
  exact va_put (ty := am_ty ci j) (v := am_v en.1 (.int x)) C.1.1 C.1.2.1 C.2.1.2.1 q2 (am_ty ci) q3 q4 C.2.1.1 Wd.2.1 Wd.1 Wd.2.2.2.1 S kp (am_ws_get hS) (am_clq hci) j (by rw [q1]; exact hj) hw (fun _ z => z) hfin (q3 j (by rw [q1]; exact hj)) hn hf (by simpa using hj) hdg (fun H1 locs1 P1 D1 S1 => h D b0 en p l e Rm s m args below meth cc H1 locs1 cells slots mc ms la C B (am_Wt.upd Wd B S S1 (hset ▸ P1) (hset ▸ D1) rfl (am_h3 hlt) (am_h3b hlt)) S1 L hk)
theorem R_putIF {Tx : am_Tx} {d k : Nat} {c : am_C} {pc a b : Nat} {ls : List (Option Value)} {st : List Value} {μ : am_M} {Q : am_Res → Prop} {idx ci j kp : Nat} {x : Int32} (hc : c.2 pc = some (.putfield idx, 3, ci, j)) (hci : ci < 13) (hS : μ.1[kp]? = some (0, ci)) (hj : j < am_nf ci) (ht : ∀ ad i q, am_fv ad (am_ty ci j) i q = .int i) (hfin : ((am_q ci).2.1 j).2.2.2 = true) (hn : narrow (am_ty ci j) (.int x) = .int x) (hf : fits (am_ty ci j) (.int x) = true) (hin : c.1.1.name = "<init>") (hdc : ((am_q ci).2.1 j).1 = c.1.1.cls) (h : am_R Tx d k c (pc + 3) ls st (am_uI μ kp j x) Q) : am_R Tx d k c pc ls (.int x :: .ref kp :: st) μ Q := by
  intro D b0 en p l e Rm s m args below meth cc H locs cells slots mc ms la C B Wd S L hk
  have hdg := C.2.2.2.2.1 pc _ hc
  have hw := C.2.1.2.1 _ (am_Wmem (C.2.2.2.2.2 pc _ hc _ List.mem_cons_self) rfl)
  obtain ⟨q1, q2, q3, q4⟩ := am_cl_ok ci _ (am_clq hci)
  have hlt := am_lt Wd hS
  have hset : (am_ws en μ).set kp (en.1 kp, .inr (ci, ((List.range (am_nf ci)).map (fun j => am_fv en.1 (am_ty ci j) (μ.2.1 kp j) (μ.2.2.2 kp j))).set j (am_v en.1 (.int x)))) = am_ws en (am_uI μ kp j x) := by
    refine am_ws_set hS rfl ?_ ?_
    · rw [am_set_map]
      show (Sum.inr (ci, _) : va_E) = Sum.inr (ci, _)
      refine congrArg (fun z => Sum.inr (ci, z)) (List.map_congr_left fun i hi => ?_)
      by_cases hij : i = j
      · subst hij
        simp only [if_pos]
        rw [ht]
        simp [am_uI, am_up, am_v, va_rf]
      · simp [am_uI, am_up, hij]
    · intro i kd n hi
      unfold am_cell
      simp only [am_uI, am_up_o hi]
  exact va_putF (ty := am_ty ci j) (v := am_v en.1 (.int x)) C.1.1 C.1.2.1 C.2.1.2.1 q2 (am_ty ci) q3 q4 C.2.1.1 Wd.2.1 Wd.1 Wd.2.2.2.1 S kp (am_ws_get hS) (am_clq hci) j (by rw [q1]; exact hj) hw (fun _ z => z) hfin (C.2.1.2.2.2.trans hin) hdc (q3 j (by rw [q1]; exact hj)) hn hf (by simpa using hj) hdg (fun H1 locs1 P1 D1 S1 => h D b0 en p l e Rm s m args below meth cc H1 locs1 cells slots mc ms la C B (am_Wt.upd Wd B S S1 (hset ▸ P1) (hset ▸ D1) rfl (am_h3 hlt) (am_h3b hlt)) S1 L hk)
theorem R_putP {Tx : am_Tx} {d k : Nat} {c : am_C} {pc a b : Nat} {ls : List (Option Value)} {st : List Value} {μ : am_M} {Q : am_Res → Prop} {idx ci j kp : Nat} {x : Nat} (hc : c.2 pc = some (.putfield idx, 3, ci, j)) (hci : ci < 13) (hS : μ.1[kp]? = some (0, ci)) (hj : j < am_nf ci) (ht : ∀ ad i q, am_fv ad (am_ty ci j) i q = va_rf (q.map ad)) (hfin : ((am_q ci).2.1 j).2.2.2 = false) (hn : ∀ z, narrow (am_ty ci j) (.ref z) = .ref z) (hf : ∀ z, fits (am_ty ci j) (.ref z) = true) (h : am_R Tx d k c (pc + 3) ls st (am_uP μ kp j (some x)) Q) : am_R Tx d k c pc ls (.ref x :: .ref kp :: st) μ Q := by
  intro D b0 en p l e Rm s m args below meth cc H locs cells slots mc ms la C B Wd S L hk
  have hdg := C.2.2.2.2.1 pc _ hc
  have hw := C.2.1.2.1 _ (am_Wmem (C.2.2.2.2.2 pc _ hc _ List.mem_cons_self) rfl)
  obtain ⟨q1, q2, q3, q4⟩ := am_cl_ok ci _ (am_clq hci)
  have hlt := am_lt Wd hS
  have hset : (am_ws en μ).set kp (en.1 kp, .inr (ci, ((List.range (am_nf ci)).map (fun j => am_fv en.1 (am_ty ci j) (μ.2.1 kp j) (μ.2.2.2 kp j))).set j (am_v en.1 (.ref x)))) = am_ws en (am_uP μ kp j (some x)) := by
    refine am_ws_set hS rfl ?_ ?_
    · rw [am_set_map]
      show (Sum.inr (ci, _) : va_E) = Sum.inr (ci, _)
      refine congrArg (fun z => Sum.inr (ci, z)) (List.map_congr_left fun i hi => ?_)
      by_cases hij : i = j
      · subst hij
        simp only [if_pos]
        rw [ht]
        simp [am_uP, am_up, am_v, va_rf]
      · simp [am_uP, am_up, hij]
    · intro i kd n hi
      unfold am_cell
      simp only [am_uP, am_up_o hi]
  exact va_put (ty := am_ty ci j) (v := am_v en.1 (.ref x)) C.1.1 C.1.2.1 C.2.1.2.1 q2 (am_ty ci) q3 q4 C.2.1.1 Wd.2.1 Wd.1 Wd.2.2.2.1 S kp (am_ws_get hS) (am_clq hci) j (by rw [q1]; exact hj) hw (fun _ z => z) hfin (q3 j (by rw [q1]; exact hj)) (hn _) (hf _) (by simpa using hj) hdg (fun H1 locs1 P1 D1 S1 => h D b0 en p l e Rm s m args below meth cc H1 locs1 cells slots mc ms la C B (am_Wt.upd Wd B S S1 (hset ▸ P1) (hset ▸ D1) rfl rfl rfl) S1 L hk)
theorem R_putPF {Tx : am_Tx} {d k : Nat} {c : am_C} {pc a b : Nat} {ls : List (Option Value)} {st : List Value} {μ : am_M} {Q : am_Res → Prop} {idx ci j kp : Nat} {x : Nat} (hc : c.2 pc = some (.putfield idx, 3, ci, j)) (hci : ci < 13) (hS : μ.1[kp]? = some (0, ci)) (hj : j < am_nf ci) (ht : ∀ ad i q, am_fv ad (am_ty ci j) i q = va_rf (q.map ad)) (hfin : ((am_q ci).2.1 j).2.2.2 = true) (hn : ∀ z, narrow (am_ty ci j) (.ref z) = .ref z) (hf : ∀ z, fits (am_ty ci j) (.ref z) = true) (hin : c.1.1.name = "<init>") (hdc : ((am_q ci).2.1 j).1 = c.1.1.cls) (h : am_R Tx d k c (pc + 3) ls st (am_uP μ kp j (some x)) Q) : am_R Tx d k c pc ls (.ref x :: .ref kp :: st) μ Q := by
  intro D b0 en p l e Rm s m args below meth cc H locs cells slots mc ms la C B Wd S L hk
  have hdg := C.2.2.2.2.1 pc _ hc
  have hw := C.2.1.2.1 _ (am_Wmem (C.2.2.2.2.2 pc _ hc _ List.mem_cons_self) rfl)
  obtain ⟨q1, q2, q3, q4⟩ := am_cl_ok ci _ (am_clq hci)
  have hlt := am_lt Wd hS
  have hset : (am_ws en μ).set kp (en.1 kp, .inr (ci, ((List.range (am_nf ci)).map (fun j => am_fv en.1 (am_ty ci j) (μ.2.1 kp j) (μ.2.2.2 kp j))).set j (am_v en.1 (.ref x)))) = am_ws en (am_uP μ kp j (some x)) := by
    refine am_ws_set hS rfl ?_ ?_
    · rw [am_set_map]
      show (Sum.inr (ci, _) : va_E) = Sum.inr (ci, _)
      refine congrArg (fun z => Sum.inr (ci, z)) (List.map_congr_left fun i hi => ?_)
      by_cases hij : i = j
      · subst hij
        simp only [if_pos]
        rw [ht]
        simp [am_uP, am_up, am_v, va_rf]
      · simp [am_uP, am_up, hij]
    · intro i kd n hi
      unfold am_cell
      simp only [am_uP, am_up_o hi]
  exact va_putF (ty := am_ty ci j) (v := am_v en.1 (.ref x)) C.1.1 C.1.2.1 C.2.1.2.1 q2 (am_ty ci) q3 q4 C.2.1.1 Wd.2.1 Wd.1 Wd.2.2.2.1 S kp (am_ws_get hS) (am_clq hci) j (by rw [q1]; exact hj) hw (fun _ z => z) hfin (C.2.1.2.2.2.trans hin) hdc (q3 j (by rw [q1]; exact hj)) (hn _) (hf _) (by simpa using hj) hdg (fun H1 locs1 P1 D1 S1 => h D b0 en p l e Rm s m args below meth cc H1 locs1 cells slots mc ms la C B (am_Wt.upd Wd B S S1 (hset ▸ P1) (hset ▸ D1) rfl rfl rfl) S1 L hk)
theorem R_iald {Tx : am_Tx} {d k : Nat} {c : am_C} {pc a b : Nat} {ls : List (Option Value)} {st : List Value} {μ : am_M} {Q : am_Res → Prop} {i : Int32} {j n kp : Nat} (hc : c.2 pc = some (.iaload, 1, a, b)) (hS : μ.1[kp]? = some (1, n)) (hi : i = nI j) (hj : j < n) (hn : n < 2 ^ 31) (h : am_R Tx d k c (pc + 1) ls (.int (μ.2.1 kp j) :: st) μ Q) : am_R Tx d k c pc ls (.int i :: .ref kp :: st) μ Q := by
  intro D b0 en p l e Rm s m args below meth cc H locs cells slots mc ms la C B Wd S L hk
  have hdg := C.2.2.2.2.1 pc _ hc
  subst hi
  refine va_iald C.1.1 C.1.2.1 (am_KA.K Wd.2.1 Wd.2.2.1 hS rfl) Wd.1 kp 0 (am_ws_get hS) rfl (vp_in_nI hj hn) hdg ?_
  rw [nI_clamp (by omega)]
  exact h D b0 en p l e Rm s m args below meth cc H locs cells slots mc ms la C B Wd S L hk
theorem R_bald {Tx : am_Tx} {d k : Nat} {c : am_C} {pc a b : Nat} {ls : List (Option Value)} {st : List Value} {μ : am_M} {Q : am_Res → Prop} {i : Int32} {j n kp : Nat} (hc : c.2 pc = some (.baload, 1, a, b)) (hS : μ.1[kp]? = some (3, n)) (hi : i = nI j) (hj : j < n) (hn : n < 2 ^ 31) (h : am_R Tx d k c (pc + 1) ls (.int (μ.2.1 kp j) :: st) μ Q) : am_R Tx d k c pc ls (.int i :: .ref kp :: st) μ Q := by
  intro D b0 en p l e Rm s m args below meth cc H locs cells slots mc ms la C B Wd S L hk
  have hdg := C.2.2.2.2.1 pc _ hc
  subst hi
  refine va_bald C.1.1 C.1.2.1 (am_KA.K Wd.2.1 Wd.2.2.1 hS rfl) Wd.1 kp 0 (am_ws_get hS) rfl (vp_in_nI hj hn) hdg ?_
  rw [nI_clamp (by omega)]
  exact h D b0 en p l e Rm s m args below meth cc H locs cells slots mc ms la C B Wd S L hk
theorem R_zald {Tx : am_Tx} {d k : Nat} {c : am_C} {pc a b : Nat} {ls : List (Option Value)} {st : List Value} {μ : am_M} {Q : am_Res → Prop} {i : Int32} {j n kp : Nat} (hc : c.2 pc = some (.baload, 1, a, b)) (hS : μ.1[kp]? = some (4, n)) (hi : i = nI j) (hj : j < n) (hn : n < 2 ^ 31) (h : am_R Tx d k c (pc + 1) ls (.int (μ.2.1 kp j) :: st) μ Q) : am_R Tx d k c pc ls (.int i :: .ref kp :: st) μ Q := by
  intro D b0 en p l e Rm s m args below meth cc H locs cells slots mc ms la C B Wd S L hk
  have hdg := C.2.2.2.2.1 pc _ hc
  subst hi
  refine va_zald C.1.1 C.1.2.1 (am_KA.K Wd.2.1 Wd.2.2.1 hS rfl) Wd.1 kp 0 (am_ws_get hS) rfl (vp_in_nI hj hn) hdg ?_
  rw [nI_clamp (by omega)]
  exact h D b0 en p l e Rm s m args below meth cc H locs cells slots mc ms la C B Wd S L hk
theorem R_lald {Tx : am_Tx} {d k : Nat} {c : am_C} {pc a b : Nat} {ls : List (Option Value)} {st : List Value} {μ : am_M} {Q : am_Res → Prop} {i : Int32} {j n kp : Nat} (hc : c.2 pc = some (.laload, 1, a, b)) (hS : μ.1[kp]? = some (2, n)) (hi : i = nI j) (hj : j < n) (hn : n < 2 ^ 31) (h : am_R Tx d k c (pc + 1) ls (.long (μ.2.2.1 kp j) :: st) μ Q) : am_R Tx d k c pc ls (.int i :: .ref kp :: st) μ Q := by
  intro D b0 en p l e Rm s m args below meth cc H locs cells slots mc ms la C B Wd S L hk
  have hdg := C.2.2.2.2.1 pc _ hc
  subst hi
  refine va_lald C.1.1 C.1.2.1 (am_KA.K Wd.2.1 Wd.2.2.1 hS rfl) Wd.1 kp 0 (am_ws_get hS) rfl (vp_in_nI hj hn) hdg ?_
  rw [nI_clamp (by omega)]
  exact h D b0 en p l e Rm s m args below meth cc H locs cells slots mc ms la C B Wd S L hk
theorem R_aald {Tx : am_Tx} {d k : Nat} {c : am_C} {pc a b : Nat} {ls : List (Option Value)} {st : List Value} {μ : am_M} {Q : am_Res → Prop} {i : Int32} {j n kp x : Nat} (hc : c.2 pc = some (.aaload, 1, a, b)) (hS : μ.1[kp]? = some (5, n)) (hi : i = nI j) (hj : j < n) (hn : n < 2 ^ 31) (hp : μ.2.2.2 kp j = some x) (h : am_R Tx d k c (pc + 1) ls (.ref x :: st) μ Q) : am_R Tx d k c pc ls (.int i :: .ref kp :: st) μ Q := by
  intro D b0 en p l e Rm s m args below meth cc H locs cells slots mc ms la C B Wd S L hk
  have hdg := C.2.2.2.2.1 pc _ hc
  subst hi
  refine va_aldq C.1.1 C.1.2.1 (am_KA.K Wd.2.1 Wd.2.2.1 hS rfl) Wd.1 kp 0 (am_ws_get hS) rfl (vp_in_nI hj hn) hdg ?_
  rw [nI_clamp (by omega), hp]
  exact h D b0 en p l e Rm s m args below meth cc H locs cells slots mc ms la C B Wd S L hk
theorem R_alen {Tx : am_Tx} {d k : Nat} {c : am_C} {pc a b : Nat} {ls : List (Option Value)} {st : List Value} {μ : am_M} {Q : am_Res → Prop} {n kd kp : Nat} {ty : FieldType} {v : Int32} (hc : c.2 pc = some (.arraylength, 1, a, b)) (hS : μ.1[kp]? = some (kd, n)) (hk0 : 1 ≤ kd ∧ kd ≤ 5) (hv : Int32.ofNat n = v) (h : am_R Tx d k c (pc + 1) ls (.int v :: st) μ Q) : am_R Tx d k c pc ls (.ref kp :: st) μ Q := by
  intro D b0 en p l e Rm s m args below meth cc H locs cells slots mc ms la C B Wd S L hk
  have hdg := C.2.2.2.2.1 pc _ hc
  subst hv
  obtain ⟨h1, h2⟩ := hk0
  rcases (show kd = 1 ∨ kd = 2 ∨ kd = 3 ∨ kd = 4 ∨ kd = 5 by omega) with rfl | rfl | rfl | rfl | rfl <;>
    exact va_alen C.1.1 C.1.2.1 (am_KA.K Wd.2.1 Wd.2.2.1 hS rfl) Wd.1 kp 0 (am_ws_get hS) rfl rfl hdg (h D b0 en p l e Rm s m args below meth cc H locs cells slots mc ms la C B Wd S L hk)
theorem R_iast {Tx : am_Tx} {d k : Nat} {c : am_C} {pc a b : Nat} {ls : List (Option Value)} {st : List Value} {μ : am_M} {Q : am_Res → Prop} {i : Int32} {x : Int32} {j n kp : Nat} (hc : c.2 pc = some (.iastore, 1, a, b)) (hS : μ.1[kp]? = some (1, n)) (hi : i = nI j) (hj : j < n) (hn : n < 2 ^ 31) (h : am_R Tx d k c (pc + 1) ls st (am_uI μ kp j x) Q) : am_R Tx d k c pc ls (.int x :: .int i :: .ref kp :: st) μ Q := by
  intro D b0 en p l e Rm s m args below meth cc H locs cells slots mc ms la C B Wd S L hk
  have hdg := C.2.2.2.2.1 pc _ hc
  subst hi
  have hlt := am_lt Wd hS
  have hset : (am_ws en μ).set kp (en.1 kp, .inl (en.2 kp, n, .inl (fun b => if b = j then x else μ.2.1 kp b))) = am_ws en (am_uI μ kp j x) := by
    refine am_ws_set hS rfl ?_ ?_
    · show (Sum.inl (en.2 kp, n, .inl _) : va_E) = _
      simp only [am_uI, am_up_s]
    · intro i kd n hi
      unfold am_cell
      simp only [am_uI, am_up_o hi]
  refine va_iast C.1.1 C.1.2.1 (am_KA.K Wd.2.1 Wd.2.2.1 hS rfl) Wd.1 Wd.2.2.2.1 S kp 0 (am_ws_get hS) rfl (vp_in_nI hj hn) hdg (fun H1 locs1 P1 D1 S1 => ?_)
  rw [am_upd_nI (by omega)] at P1 D1
  exact h D b0 en p l e Rm s m args below meth cc H1 locs1 cells slots mc ms la C B (am_Wt.upd Wd B S S1 (hset ▸ P1) (hset ▸ D1) rfl (am_h3 hlt) (am_h3b hlt)) S1 L hk
theorem R_bast {Tx : am_Tx} {d k : Nat} {c : am_C} {pc a b : Nat} {ls : List (Option Value)} {st : List Value} {μ : am_M} {Q : am_Res → Prop} {i : Int32} {x : Int32} {j n kp : Nat} (hc : c.2 pc = some (.bastore, 1, a, b)) (hS : μ.1[kp]? = some (3, n)) (hi : i = nI j) (hj : j < n) (hn : n < 2 ^ 31) (h : am_R Tx d k c (pc + 1) ls st (am_uI μ kp j (vp_nar .byte x)) Q) : am_R Tx d k c pc ls (.int x :: .int i :: .ref kp :: st) μ Q := by
  intro D b0 en p l e Rm s m args below meth cc H locs cells slots mc ms la C B Wd S L hk
  have hdg := C.2.2.2.2.1 pc _ hc
  subst hi
  have hlt := am_lt Wd hS
  have hset : (am_ws en μ).set kp (en.1 kp, .inl (en.2 kp, n, .inl (fun b => if b = j then (vp_nar .byte x) else μ.2.1 kp b))) = am_ws en (am_uI μ kp j (vp_nar .byte x)) := by
    refine am_ws_set hS rfl ?_ ?_
    · show (Sum.inl (en.2 kp, n, .inl _) : va_E) = _
      simp only [am_uI, am_up_s]
    · intro i kd n hi
      unfold am_cell
      simp only [am_uI, am_up_o hi]
  refine va_bast C.1.1 C.1.2.1 (am_KA.K Wd.2.1 Wd.2.2.1 hS rfl) Wd.1 Wd.2.2.2.1 S kp 0 (am_ws_get hS) rfl (vp_in_nI hj hn) hdg (fun H1 locs1 P1 D1 S1 => ?_)
  rw [am_upd_nI (by omega)] at P1 D1
  exact h D b0 en p l e Rm s m args below meth cc H1 locs1 cells slots mc ms la C B (am_Wt.upd Wd B S S1 (hset ▸ P1) (hset ▸ D1) rfl (am_h3 hlt) (am_h3b hlt)) S1 L hk
theorem R_zast {Tx : am_Tx} {d k : Nat} {c : am_C} {pc a b : Nat} {ls : List (Option Value)} {st : List Value} {μ : am_M} {Q : am_Res → Prop} {i : Int32} {x : Int32} {j n kp : Nat} (hc : c.2 pc = some (.bastore, 1, a, b)) (hS : μ.1[kp]? = some (4, n)) (hi : i = nI j) (hj : j < n) (hn : n < 2 ^ 31) (h : am_R Tx d k c (pc + 1) ls st (am_uI μ kp j (vp_nar .boolean x)) Q) : am_R Tx d k c pc ls (.int x :: .int i :: .ref kp :: st) μ Q := by
  intro D b0 en p l e Rm s m args below meth cc H locs cells slots mc ms la C B Wd S L hk
  have hdg := C.2.2.2.2.1 pc _ hc
  subst hi
  have hlt := am_lt Wd hS
  have hset : (am_ws en μ).set kp (en.1 kp, .inl (en.2 kp, n, .inl (fun b => if b = j then (vp_nar .boolean x) else μ.2.1 kp b))) = am_ws en (am_uI μ kp j (vp_nar .boolean x)) := by
    refine am_ws_set hS rfl ?_ ?_
    · show (Sum.inl (en.2 kp, n, .inl _) : va_E) = _
      simp only [am_uI, am_up_s]
    · intro i kd n hi
      unfold am_cell
      simp only [am_uI, am_up_o hi]
  refine va_zast C.1.1 C.1.2.1 (am_KA.K Wd.2.1 Wd.2.2.1 hS rfl) Wd.1 Wd.2.2.2.1 S kp 0 (am_ws_get hS) rfl (vp_in_nI hj hn) hdg (fun H1 locs1 P1 D1 S1 => ?_)
  rw [am_upd_nI (by omega)] at P1 D1
  exact h D b0 en p l e Rm s m args below meth cc H1 locs1 cells slots mc ms la C B (am_Wt.upd Wd B S S1 (hset ▸ P1) (hset ▸ D1) rfl (am_h3 hlt) (am_h3b hlt)) S1 L hk
theorem R_last {Tx : am_Tx} {d k : Nat} {c : am_C} {pc a b : Nat} {ls : List (Option Value)} {st : List Value} {μ : am_M} {Q : am_Res → Prop} {i : Int32} {x : Int64} {j n kp : Nat} (hc : c.2 pc = some (.lastore, 1, a, b)) (hS : μ.1[kp]? = some (2, n)) (hi : i = nI j) (hj : j < n) (hn : n < 2 ^ 31) (h : am_R Tx d k c (pc + 1) ls st (am_uL μ kp j x) Q) : am_R Tx d k c pc ls (.long x :: .int i :: .ref kp :: st) μ Q := by
  intro D b0 en p l e Rm s m args below meth cc H locs cells slots mc ms la C B Wd S L hk
  have hdg := C.2.2.2.2.1 pc _ hc
  subst hi
  have hlt := am_lt Wd hS
  have hset : (am_ws en μ).set kp (en.1 kp, .inl (en.2 kp, n, .inr (.inl (fun b => if b = j then x else μ.2.2.1 kp b)))) = am_ws en (am_uL μ kp j x) := by
    refine am_ws_set hS rfl ?_ ?_
    · show (Sum.inl (en.2 kp, n, .inr (.inl _)) : va_E) = _
      simp only [am_uL, am_up_s]
    · intro i kd n hi
      unfold am_cell
      simp only [am_uL, am_up_o hi]
  refine va_last C.1.1 C.1.2.1 (am_KA.K Wd.2.1 Wd.2.2.1 hS rfl) Wd.1 Wd.2.2.2.1 S kp 0 (am_ws_get hS) rfl (vp_in_nI hj hn) hdg (fun H1 locs1 P1 D1 S1 => ?_)
  rw [am_updL_nI (by omega)] at P1 D1
  exact h D b0 en p l e Rm s m args below meth cc H1 locs1 cells slots mc ms la C B (am_Wt.upd Wd B S S1 (hset ▸ P1) (hset ▸ D1) rfl rfl rfl) S1 L hk
