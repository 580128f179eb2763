theorem am_tw_at {ic x : Nat} (h : am_twOk ic x) {s : State} {args : Array Value} (h1 : ∀ w ∈ am_W, w.before args s = true) (h2 : ∀ w ∈ am_N, va_Nw w s) : ∀ w ∈ am_tws ic x, w.before args s = true := by
  intro w hw
  have h3 := List.all_eq_true.mp h.1 w hw
  simp only [Bool.and_eq_true, decide_eq_true_eq, Bool.or_eq_true] at h3
  rcases h3.2 with g | g
  · exact h1 w (am_Wmem h3.1 g)
  · have h4 := List.all_eq_true.mp h.2 w hw
    refine va_Nw.use ?_ (h2 w (am_Nmem h3.1 g))
    unfold am_nw at g
    split at g
    · rfl
    · rfl
    · rfl
    · cases g
/-- what grows above leaves the memory as it is -/
theorem am_Wt.grown {Tx : am_Tx} {D : va_G} {b0 : Nat} {en : am_E} {μ : am_M} {l : Launch} {s t : State} {H : Heap} {locs : List Loc} (Wd : am_Wt D b0 en μ s H) (B : am_Base Tx b0 en.1 l s s.heap) (S : va_S (am_F b0) s.heap H locs)
    (hA : s.vm.Alike t.vm) (h2 : ∀ q : Nat, q < H.size → t.heap[q]? = H[q]?) : am_Wt D b0 en μ t t.heap := by
  refine am_Wt.moved hA ?_
  obtain ⟨w1, w2, w3, w4, ⟨Ln, x1, x2, x3, x4⟩, w6⟩ := Wd
  have hb : en.1 3000 < H.size := by have := B.2.1; have := S.1; omega
  exact ⟨w1.kept fun k q hk => h2 q.1 (w1 k q hk).lt, w2, w3, w4, ⟨Ln, x1.kept (h2 _ hb), x2, x3, x4⟩, w6⟩
theorem am_F_grown {b0 : Nat} {s t : State} {H : Heap} {locs : List Loc} (S : va_S (am_F b0) s.heap H locs) (h1 : H.size ≤ t.heap.size) (h2 : ∀ q : Nat, q < H.size → t.heap[q]? = H[q]?) : va_F (am_F b0) s t :=
  ⟨Nat.le_trans S.1 h1, fun q a b => by rw [h2 q (Nat.lt_of_lt_of_le a S.1)]; exact S.2.1 q a b⟩
theorem am_X_fit (x : Nat) : Bundle.fit (am_X x).1 = true ∧ (∀ n ∈ (am_X x).2, Bundle.fit n = true) ∧ (am_X x).2.length = 2 := by
  unfold am_X
  split
  · exact ⟨by decide +kernel, by decide +kernel, rfl⟩
  · exact ⟨by decide +kernel, by decide +kernel, rfl⟩
  · exact ⟨by decide +kernel, by decide +kernel, rfl⟩
  · exact ⟨by decide +kernel, by decide +kernel, rfl⟩
/-- 'throw new E("text")' -/
theorem R_throw {Tx : am_Tx} {d k : Nat} {c : am_C} {pc : Nat} {ls : List (Option Value)} {μ : am_M} {Q : am_Res → Prop} {ik is ic x i a3 b3 a4 b4 a6 b6 a9 b9 : Nat} {text : String}
    (d0 : c.2 pc = some (.new ik, 3, x, 1)) (d3 : c.2 (pc + 3) = some (.dup, 1, a3, b3)) (d4 : c.2 (pc + 4) = some (.ldc is, 2, a4, b4)) (d6 : c.2 (pc + 6) = some (.invokespecial ic, 3, a6, b6)) (d9 : c.2 (pc + 9) = some (.athrow, 1, a9, b9))
    (hT : ("RankDesk", is, text, i) ∈ Tx) (htw : am_twOk ic x) (hown : c.1.1.cls = "RankDesk") (hh : c.1.2.2.2.2 = none) (hk0 : 1 ≤ k) (hx : Q (.inr (am_X x).1, μ)) : am_R Tx d k c pc ls [] μ Q := by
  intro D b0 en p l e Rm s m args below meth cc H locs cells slots mc ms la C B Wd S L hk
  have hC := C
  obtain ⟨⟨hx1, hb, hml, hr⟩, ⟨ho, hts, hlk, hnm⟩, htab, ⟨hf, hlo⟩, hMF⟩ := C
  obtain ⟨B1, B2, B3, B4, B5, B6, B7, B8, -⟩ := id B
  obtain ⟨f1, f2, f3⟩ := am_X_fit x
  have hn0 := hMF.2 pc _ d0
  have hw1 := hts _ (am_Wmem (hn0 (.classLink c.1.1.cls ik (am_X x).1) (by simp [am_need])) rfl)
  have hw2 := hts _ (am_Wmem (hn0 (.initialized (am_X x).1) (by simp [am_need])) rfl)
  rw [hown] at ho hw1
  have htab' : cc.exceptionTable.toList = [] := by rw [htab]; unfold am_tab; rw [hh]
  exact vx_throwS (sa := en.1 (1000 + i)) (text := text) hx1 hb B1 ho f1 f2 hw1 hw2 (B5 _ hT) (am_tw_at htw hts B6)
    (fun w hw => by
      rcases List.mem_cons.mp hw with h | hw
      · subst h; rfl
      · rcases List.mem_cons.mp hw with h | hw
        · subst h; rfl
        · exact List.all_eq_true.mp htw.2 w hw) B3 B4 S (L.1.trans hml.symm) (hMF.1 _ _ d0) (hMF.1 _ _ d3) (hMF.1 _ _ d4) (hMF.1 _ _ d6) (hMF.1 _ _ d9)
    (fun z hz => by rw [htab'] at hz; cases hz) (by rw [f3]; omega) (by rw [f3]; simp; omega) (by omega) (by omega) hlk
    (fun t h1 h2 h3 => ⟨μ, en, hx, am_ext.rf, Nat.le_refl _, Wd.grown B S h1 h3, am_F_grown S h2 h3⟩) S.2.2 (by omega) (by omega)
/-- the same, the text by a wide index -/
theorem R_throwW {Tx : am_Tx} {d k : Nat} {c : am_C} {pc : Nat} {ls : List (Option Value)} {μ : am_M} {Q : am_Res → Prop} {ik is ic x i a3 b3 a4 b4 a6 b6 a9 b9 : Nat} {text : String}
    (d0 : c.2 pc = some (.new ik, 3, x, 1)) (d3 : c.2 (pc + 3) = some (.dup, 1, a3, b3)) (d4 : c.2 (pc + 4) = some (.ldc_w is, 3, a4, b4)) (d7 : c.2 (pc + 7) = some (.invokespecial ic, 3, a6, b6)) (d10 : c.2 (pc + 10) = some (.athrow, 1, a9, b9))
    (hT : ("RankDesk", is, text, i) ∈ Tx) (htw : am_twOk ic x) (hown : c.1.1.cls = "RankDesk") (hh : c.1.2.2.2.2 = none) (hk0 : 1 ≤ k) (hx : Q (.inr (am_X x).1, μ)) : am_R Tx d k c pc ls [] μ Q := by
  intro D b0 en p l e Rm s m args below meth cc H locs cells slots mc ms la C B Wd S L hk
  obtain ⟨⟨hx1, hb, hml, hr⟩, ⟨ho, hts, hlk, hnm⟩, htab, ⟨hf, hlo⟩, hMF⟩ := C
  obtain ⟨B1, B2, B3, B4, B5, B6, B7, B8, -⟩ := id B
  obtain ⟨f1, f2, f3⟩ := am_X_fit x
  have hn0 := hMF.2 pc _ d0
  have hw1 := hts _ (am_Wmem (hn0 (.classLink c.1.1.cls ik (am_X x).1) (by simp [am_need])) rfl)
  have hw2 := hts _ (am_Wmem (hn0 (.initialized (am_X x).1) (by simp [am_need])) rfl)
  rw [hown] at ho hw1
  have htab' : cc.exceptionTable.toList = [] := by rw [htab]; unfold am_tab; rw [hh]
  exact vx_throwSW (sa := en.1 (1000 + i)) (text := text) hx1 hb B1 ho f1 f2 hw1 hw2 (B5 _ hT) (am_tw_at htw hts B6)
    (fun w hw => by
      rcases List.mem_cons.mp hw with h | hw
      · subst h; rfl
      · rcases List.mem_cons.mp hw with h | hw
        · subst h; rfl
        · exact List.all_eq_true.mp htw.2 w hw) B3 B4 S (L.1.trans hml.symm) (hMF.1 _ _ d0) (hMF.1 _ _ d3) (hMF.1 _ _ d4) (hMF.1 _ _ d7) (hMF.1 _ _ d10)
    (fun z hz => by rw [htab'] at hz; cases hz) (by rw [f3]; omega) (by rw [f3]; simp; omega) (by omega) (by omega) hlk
    (fun t h1 h2 h3 => ⟨μ, en, hx, am_ext.rf, Nat.le_refl _, Wd.grown B S h1 h3, am_F_grown S h2 h3⟩) S.2.2 (by omega) (by omega)
