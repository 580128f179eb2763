/-! ===== guesses, certificates, states ===== -/
def gS (σ : am_G) (g : Nat) (x : Nat → Int32) : am_G := sI (sI (sI (sI σ g 0 (x 0)) g 1 (x 1)) g 2 (x 2)) g 3 (x 3)
def clS (σ : am_G) (c : Nat) (x y : Int32) : am_G := sI (sI σ c 2 x) c 3 y
/-- what a state says: the matrix, the vector, the relations, the primes' number, the other ints -/
def vS (σ : am_G) (s h w : Nat) (f v : am_Gr) (rh : Nat) (rl : am_Gr) (pn : Nat) (I : Nat → Int32) : Prop :=
  vM σ (s + 1) h w f ∧ vM σ (s + 5) 1 h v ∧ vM σ (s + 7) rh h rl ∧ (σ.1 s 3 = nI pn ∧ pn ≤ 6) ∧ σ.1 s 4 = I 0 ∧ σ.1 s 5 = I 1 ∧ σ.1 (s + 4) 2 = I 2 ∧ σ.1 (s + 4) 3 = I 3 ∧ (∀ j, j < 4 → σ.1 (s + 3) j = I (4 + j)) ∧ (∀ j, j < 6 → σ.1 (s + 9) j = I (8 + j))
theorem smP.vS {p : Nat → Nat → Prop} {σ σ1 : am_G} (q : smP p σ σ1) {s h w : Nat} {f v : am_Gr} {rh : Nat} {rl : am_Gr} {pn : Nat} {I : Nat → Int32} (hv : vS σ s h w f v rh rl pn I) (hp : ∀ a b, s ≤ a → a < s + 10 → ¬ p a b) : vS σ1 s h w f v rh rl pn I := by
  obtain ⟨a1, a2, a3, a4, a5, a6, a7, a8, a9, a10⟩ := hv
  refine ⟨q.vM a1 (fun b => hp _ b (by omega) (by omega)) (fun b => hp _ b (by omega) (by omega)), q.vM a2 (fun b => hp _ b (by omega) (by omega)) (fun b => hp _ b (by omega) (by omega)), q.vM a3 (fun b => hp _ b (by omega) (by omega)) (fun b => hp _ b (by omega) (by omega)), ⟨(q.i (hp _ _ (by omega) (by omega))).trans a4.1, a4.2⟩, (q.i (hp _ _ (by omega) (by omega))).trans a5, (q.i (hp _ _ (by omega) (by omega))).trans a6, (q.i (hp _ _ (by omega) (by omega))).trans a7, (q.i (hp _ _ (by omega) (by omega))).trans a8, fun j hj => (q.i (hp _ _ (by omega) (by omega))).trans (a9 j hj), fun j hj => (q.i (hp _ _ (by omega) (by omega))).trans (a10 j hj)⟩
/-- the first n ints of the place p are f's -/
def aI (L : Nat → Nat → Int32) (p n : Nat) (f : Nat → Int32) : Nat → Nat → Int32 := fun a b => if a = p then (if b < n then f b else L a b) else L a b
theorem aI_put {L : Nat → Nat → Int32} {p n : Nat} {f : Nat → Int32} {x : Int32} (hx : x = f n) : am_up (aI L p n f) p n x = aI L p (n + 1) f := by
  subst hx
  funext a b
  simp only [am_up, aI]
  by_cases ha : a = p
  · simp only [if_pos ha]
    by_cases hb : b = n
    · subst hb; rw [if_pos rfl, if_pos (by omega)]
    · rw [if_neg hb]
      by_cases hb2 : b < n
      · rw [if_pos hb2, if_pos (by omega)]
      · rw [if_neg hb2, if_neg (by omega)]
  · simp only [if_neg ha]
theorem aI_0 {L : Nat → Nat → Int32} {p : Nat} {f : Nat → Int32} : aI L p 0 f = L := by
  funext a b
  simp [aI]
theorem aI_off {L : Nat → Nat → Int32} {p n a : Nat} {f : Nat → Int32} (h : a ≠ p) : aI L p n f a = L a := by
  funext b
  simp [aI, h]
def aS (σ : am_G) (p n : Nat) (f : Nat → Int32) : am_G := (aI σ.1 p n f, σ.2.1, σ.2.2)
theorem aS_fr {p : Nat → Nat → Prop} {σ : am_G} {k n : Nat} {f : Nat → Int32} (h : ∀ b, p k b) : smP p σ (aS σ k n f) :=
  ⟨fun a b hn => ⟨congrFun (aI_off (fun e => hn (by rw [e]; exact h b))) b, rfl⟩, rfl⟩
theorem gS_fr {p : Nat → Nat → Prop} {σ : am_G} {g : Nat} {x : Nat → Int32} (h : ∀ b, p g b) : smP p σ (gS σ g x) := (((smP_sI (h 0)).trans (smP_sI (h 1))).trans (smP_sI (h 2))).trans (smP_sI (h 3))
theorem clS_fr {p : Nat → Nat → Prop} {σ : am_G} {c : Nat} {x y : Int32} (h : ∀ b, p c b) : smP p σ (clS σ c x y) := (smP_sI (h 2)).trans (smP_sI (h 3))
theorem gS_at {σ : am_G} {g : Nat} {x : Nat → Int32} : ∀ j, j < 4 → (gS σ g x).1 g j = x j := by
  intro j hj
  unfold gS
  by_cases h3 : j = 3
  · subst h3; exact sI_s
  · rw [sI_o (Or.inr h3)]
    by_cases h2 : j = 2
    · subst h2; exact sI_s
    · rw [sI_o (Or.inr h2)]
      by_cases h1 : j = 1
      · subst h1; exact sI_s
      · rw [sI_o (Or.inr h1), show j = 0 by omega]; exact sI_s
theorem aS_at {σ : am_G} {p n j : Nat} {f : Nat → Int32} (h : j < n) : (aS σ p n f).1 p j = f j := by
  show aI σ.1 p n f p j = _
  unfold aI; rw [if_pos rfl, if_pos h]
/-- a state is put at s -/
def putS (σ : am_G) (s h w : Nat) (f v : am_Gr) (rh : Nat) (rl : am_Gr) (pn : Nat) (I : Nat → Int32) : am_G :=
  aS (sI (sI (sI (clS (setM (setM (gS (setM σ (s + 1) h w f) (s + 3) (fun j => I (4 + j))) (s + 5) 1 h v) (s + 7) rh h rl) (s + 4) (I 2) (I 3)) s 3 (nI pn)) s 4 (I 0)) s 5 (I 1)) (s + 9) 6 (fun j => I (8 + j))
theorem aS_i {σ : am_G} {p n a b : Nat} {f : Nat → Int32} (h : a ≠ p) : (aS σ p n f).1 a b = σ.1 a b := congrFun (aI_off h) b
theorem vS_putS {σ : am_G} {s h w : Nat} {f v : am_Gr} {rh : Nat} {rl : am_Gr} {pn : Nat} {I : Nat → Int32} (hh : h ≤ 6) (hw : w ≤ 6) (hr : rh ≤ 6) (hp : pn ≤ 6) : vS (putS σ s h w f v rh rl pn I) s h w f v rh rl pn I := by
  have F : ∀ {p : Nat → Nat → Prop} {τ : am_G} {x0 x1 : Int32} {q : Nat → Int32}, (∀ b, p s b) → (∀ b, p (s + 9) b) → smP p τ (aS (sI (sI (sI τ s 3 (nI pn)) s 4 x0) s 5 x1) (s + 9) 6 q) := fun h1 h2 => (((smP_sI (h1 3)).trans (smP_sI (h1 4))).trans (smP_sI (h1 5))).trans (aS_fr h2)
  let A := fun a (_b : Nat) => a = s ∨ a = s + 9
  have fA : ∀ {τ : am_G} {x0 x1 : Int32} {q : Nat → Int32}, smP A τ (aS (sI (sI (sI τ s 3 (nI pn)) s 4 x0) s 5 x1) (s + 9) 6 q) := F (fun b => Or.inl rfl) (fun b => Or.inr rfl)
  let B := fun a (_b : Nat) => a = s ∨ a = s + 9 ∨ a = s + 4
  have fB : ∀ {τ : am_G} {x y x0 x1 : Int32} {q : Nat → Int32}, smP B τ (aS (sI (sI (sI (clS τ (s + 4) x y) s 3 (nI pn)) s 4 x0) s 5 x1) (s + 9) 6 q) := (clS_fr (fun b => Or.inr (Or.inr rfl))).trans (fA.mono (fun a b h => h.elim Or.inl (fun z => Or.inr (Or.inl z))))
  let C := fun a (_b : Nat) => a = s ∨ a = s + 9 ∨ a = s + 4 ∨ a = s + 7 ∨ a = s + 8
  have fC : ∀ {τ : am_G} {x y x0 x1 : Int32} {q : Nat → Int32}, smP C τ (aS (sI (sI (sI (clS (setM τ (s + 7) rh h rl) (s + 4) x y) s 3 (nI pn)) s 4 x0) s 5 x1) (s + 9) 6 q) := (smP_setM (fun b => by simp [C]) (fun b => by simp [C])).trans (fB.mono (fun a b h => by simp only [B, C] at h ⊢; omega))
  let D := fun a (_b : Nat) => a = s ∨ a = s + 9 ∨ a = s + 4 ∨ a = s + 7 ∨ a = s + 8 ∨ a = s + 5 ∨ a = s + 6
  have fD : ∀ {τ : am_G} {x y x0 x1 : Int32} {q : Nat → Int32}, smP D τ (aS (sI (sI (sI (clS (setM (setM τ (s + 5) 1 h v) (s + 7) rh h rl) (s + 4) x y) s 3 (nI pn)) s 4 x0) s 5 x1) (s + 9) 6 q) := (smP_setM (fun b => by simp [D]) (fun b => by simp [D])).trans (fC.mono (fun a b h => by simp only [C, D] at h ⊢; omega))
  let E := fun a (_b : Nat) => a = s ∨ a = s + 9 ∨ a = s + 4 ∨ a = s + 7 ∨ a = s + 8 ∨ a = s + 5 ∨ a = s + 6 ∨ a = s + 3
  have fE : ∀ {τ : am_G} {g : Nat → Int32} {x y x0 x1 : Int32} {q : Nat → Int32}, smP E τ (aS (sI (sI (sI (clS (setM (setM (gS τ (s + 3) g) (s + 5) 1 h v) (s + 7) rh h rl) (s + 4) x y) s 3 (nI pn)) s 4 x0) s 5 x1) (s + 9) 6 q) := (gS_fr (fun b => by simp [E])).trans (fD.mono (fun a b h => by simp only [D, E] at h ⊢; omega))
  refine ⟨?_, ?_, ?_, ⟨?_, hp⟩, ?_, ?_, ?_, ?_, ?_, ?_⟩
  · exact fE.vM (vM_setM hh hw) (fun b => by simp only [E]; omega) (fun b => by simp only [E]; omega)
  · exact fC.vM (vM_setM (by omega) hh) (fun b => by simp only [C]; omega) (fun b => by simp only [C]; omega)
  · exact fB.vM (vM_setM hr hh) (fun b => by simp only [B]; omega) (fun b => by simp only [B]; omega)
  · unfold putS; rw [aS_i (by omega), sI_o (by omega), sI_o (by omega), sI_s]
  · unfold putS; rw [aS_i (by omega), sI_o (by omega), sI_s]
  · unfold putS; rw [aS_i (by omega), sI_s]
  · exact (fA.i (by simp only [A]; omega)).trans (by unfold clS; rw [sI_o (by omega), sI_s])
  · exact (fA.i (by simp only [A]; omega)).trans (by unfold clS; rw [sI_s])
  · intro j hj
    exact (fD.i (by simp only [D]; omega)).trans (gS_at j hj)
  · intro j hj
    exact aS_at hj
theorem putS_fr {p : Nat → Nat → Prop} {σ : am_G} {s h w : Nat} {f v : am_Gr} {rh : Nat} {rl : am_Gr} {pn : Nat} {I : Nat → Int32} (hp : ∀ a b, s ≤ a → a < s + 10 → p a b) : smP p σ (putS σ s h w f v rh rl pn I) := by
  unfold putS
  exact ((((((((smP_setM (fun b => hp _ b (by omega) (by omega)) (fun b => hp _ b (by omega) (by omega))).trans (gS_fr (fun b => hp _ b (by omega) (by omega)))).trans (smP_setM (fun b => hp _ b (by omega) (by omega)) (fun b => hp _ b (by omega) (by omega)))).trans (smP_setM (fun b => hp _ b (by omega) (by omega)) (fun b => hp _ b (by omega) (by omega)))).trans (clS_fr (fun b => hp _ b (by omega) (by omega)))).trans (smP_sI (hp _ _ (by omega) (by omega)))).trans (smP_sI (hp _ _ (by omega) (by omega)))).trans (smP_sI (hp _ _ (by omega) (by omega)))).trans (aS_fr (fun b => hp _ b (by omega) (by omega)))
set_option maxRecDepth 100000 in
set_option maxHeartbeats 4000000 in
theorem sp_Guess_clear {σ : am_G} {g : Nat} (hG : Sh[g]? = some (0, 1)) : am_Call am_TX 0 0 c_Guess_clear [.ref g] (mm σ) (am_Ok none (fun σ1 => σ1 = gS σ g (fun _ => -1))) := by
  refine ⟨mf_Guess_clear, Nat.le_of_ble_eq_true rfl, ?_⟩
  refine R_aload_n rfl rfl ?_
  refine R_iconst (v := -1) rfl rfl ?_
  refine R_pI rfl hG fw_1_0 rfl ?_
  refine R_aload_n rfl rfl ?_
  refine R_iconst (v := -1) rfl rfl ?_
  refine R_pI rfl hG fw_1_1 rfl ?_
  refine R_aload_n rfl rfl ?_
  refine R_iconst (v := -1) rfl rfl ?_
  refine R_pI rfl hG fw_1_2 rfl ?_
  refine R_aload_n rfl rfl ?_
  refine R_iconst (v := -1) rfl rfl ?_
  refine R_pI rfl hG fw_1_3 rfl ?_
  exact T_return rfl rfl (am_okv0 rfl)
set_option maxRecDepth 100000 in
set_option maxHeartbeats 4000000 in
theorem sp_Guess_copyFrom {σ : am_G} {g g2 : Nat} {x : Nat → Int32} (hG : Sh[g]? = some (0, 1)) (hG2 : Sh[g2]? = some (0, 1)) (hne : g2 ≠ g) (hx : ∀ j, j < 4 → σ.1 g2 j = x j) : am_Call am_TX 0 0 c_Guess_copyFrom [.ref g, .ref g2] (mm σ) (am_Ok none (fun σ1 => σ1 = gS σ g x)) := by
  refine ⟨mf_Guess_copyFrom, Nat.le_of_ble_eq_true rfl, ?_⟩
  refine R_aload_n rfl rfl ?_
  refine R_aload_n rfl rfl ?_
  refine R_gIX (x := (x 0)) rfl hG2 fd_1_0 (by exact hx 0 (by omega)) ?_
  refine R_pI rfl hG fw_1_0 rfl ?_
  refine R_aload_n rfl rfl ?_
  refine R_aload_n rfl rfl ?_
  refine R_gIX (x := (x 1)) rfl hG2 fd_1_1 (by rw [sI_o (by omega)]; exact hx 1 (by omega)) ?_
  refine R_pI rfl hG fw_1_1 rfl ?_
  refine R_aload_n rfl rfl ?_
  refine R_aload_n rfl rfl ?_
  refine R_gIX (x := (x 2)) rfl hG2 fd_1_2 (by rw [sI_o (by omega)]; rw [sI_o (by omega)]; exact hx 2 (by omega)) ?_
  refine R_pI rfl hG fw_1_2 rfl ?_
  refine R_aload_n rfl rfl ?_
  refine R_aload_n rfl rfl ?_
  refine R_gIX (x := (x 3)) rfl hG2 fd_1_3 (by rw [sI_o (by omega)]; rw [sI_o (by omega)]; rw [sI_o (by omega)]; exact hx 3 (by omega)) ?_
  refine R_pI rfl hG fw_1_3 rfl ?_
  exact T_return rfl rfl (am_okv0 rfl)
set_option maxRecDepth 100000 in
set_option maxHeartbeats 4000000 in
theorem sp_setClaim {σ : am_G} {c : Nat} {x y : Int32} (hC : Sh[c]? = some (0, 0)) : am_Call am_TX 0 0 c_Certificate_setClaim [.ref c, .int x, .int y] (mm σ) (am_Ok none (fun σ1 => σ1 = clS σ c x y)) := by
  refine ⟨mf_Certificate_setClaim, Nat.le_of_ble_eq_true rfl, ?_⟩
  refine R_aload_n rfl rfl ?_
  refine R_iload_n rfl rfl ?_
  refine R_pI rfl hC fw_0_2 rfl ?_
  refine R_aload_n rfl rfl ?_
  refine R_iload_n rfl rfl ?_
  refine R_pI rfl hC fw_0_3 rfl ?_
  exact T_return rfl rfl (am_okv0 rfl)
set_option maxRecDepth 100000 in
set_option maxHeartbeats 4000000 in
theorem sp_Certificate_clear {σ : am_G} {s n : Nat} (hS : isState s) : am_Call am_TX 1 0 c_Certificate_clear [.ref (s + 4), .int (nI n)] (mm σ) (am_Ok none (fun σ1 => σ1 = clS (setM (setM σ (s + 5) 1 n (fun _ _ => 0)) (s + 7) 0 n (fun _ _ => 0)) (s + 4) (-1) (-1))) := by
  refine ⟨mf_Certificate_clear, Nat.le_of_ble_eq_true rfl, ?_⟩
  refine R_aload_n rfl rfl ?_
  refine R_gP (x := (s + 5)) rfl hS.2.2.2.1 fp_0_0 ((am_P_3 (by decide)).trans hS.2.2.2.2.2.2.2.2.2.2.2.1) ?_
  refine R_iconst (v := 1) rfl rfl ?_
  refine R_iload_n rfl rfl ?_
  refine R_cV (as := [.int 1, .int (nI n)]) rfl rfl iv_Matrix_reset (sp_Matrix_reset (h := 1) (w := n) hS.2.2.2.2.1) (by decide) rfl rfl hS.2.2.2.2.1.1 (by decide) rfl rfl (Nat.le_of_ble_eq_true rfl) (fun _ q => ?_)
  obtain rfl := q.symm
  refine R_aload_n rfl rfl ?_
  refine R_gP (x := (s + 7)) rfl hS.2.2.2.1 fp_0_1 ((am_P_3 (by decide)).trans hS.2.2.2.2.2.2.2.2.2.2.2.2) ?_
  refine R_iconst (v := 0) rfl rfl ?_
  refine R_iload_n rfl rfl ?_
  refine R_cV (as := [.int 0, .int (nI n)]) rfl rfl iv_Matrix_reset (sp_Matrix_reset (h := 0) (w := n) hS.2.2.2.2.2.1) (by decide) rfl rfl hS.2.2.2.2.2.1.1 (by decide) rfl rfl (Nat.le_of_ble_eq_true rfl) (fun _ q => ?_)
  obtain rfl := q.symm
  refine R_aload_n rfl rfl ?_
  refine R_iconst (v := -1) rfl rfl ?_
  refine R_iconst (v := -1) rfl rfl ?_
  refine R_cV (as := [.int (-1), .int (-1)]) rfl rfl iv_Certificate_setClaim (sp_setClaim hS.2.2.2.1) (by decide) rfl rfl hS.2.2.2.1 (by decide) rfl rfl (Nat.le_of_ble_eq_true rfl) (fun _ q => ?_)
  obtain rfl := q.symm
  exact T_return rfl rfl (am_okv0 rfl)
set_option maxRecDepth 100000 in
set_option maxHeartbeats 4000000 in
theorem sp_Certificate_copyFrom {σ : am_G} {s h w rh pn : Nat} {f v rl : am_Gr} {I : Nat → Int32} {s2 : Nat} (hS : isState s) (hS2 : isState s2) (ha : s + 10 ≤ s2 ∨ s2 + 10 ≤ s) (hv : vS σ s2 h w f v rh rl pn I) : am_Call am_TX 1 0 c_Certificate_copyFrom [.ref (s + 4), .ref (s2 + 4)] (mm σ) (am_Ok none (fun σ1 => σ1 = clS (setM (setM σ (s + 5) 1 h v) (s + 7) rh h rl) (s + 4) (I 2) (I 3))) := by
  refine ⟨mf_Certificate_copyFrom, Nat.le_of_ble_eq_true rfl, ?_⟩
  refine R_aload_n rfl rfl ?_
  refine R_gP (x := (s + 5)) rfl hS.2.2.2.1 fp_0_0 ((am_P_3 (by decide)).trans hS.2.2.2.2.2.2.2.2.2.2.2.1) ?_
  refine R_aload_n rfl rfl ?_
  refine R_gP (x := (s2 + 5)) rfl hS2.2.2.2.1 fp_0_0 ((am_P_3 (by decide)).trans hS2.2.2.2.2.2.2.2.2.2.2.2.1) ?_
  refine R_cV (as := [.ref (s2 + 5)]) rfl rfl iv_Matrix_copyFrom (sp_Matrix_copyFrom hS.2.2.2.2.1 hS2.2.2.2.2.1 ⟨by omega, by omega, by omega⟩ hv.2.1) (by decide) rfl rfl hS.2.2.2.2.1.1 (by decide) rfl rfl (Nat.le_of_ble_eq_true rfl) (fun _ q => ?_)
  obtain rfl := q.symm
  refine R_aload_n rfl rfl ?_
  refine R_gP (x := (s + 7)) rfl hS.2.2.2.1 fp_0_1 ((am_P_3 (by decide)).trans hS.2.2.2.2.2.2.2.2.2.2.2.2) ?_
  refine R_aload_n rfl rfl ?_
  refine R_gP (x := (s2 + 7)) rfl hS2.2.2.2.1 fp_0_1 ((am_P_3 (by decide)).trans hS2.2.2.2.2.2.2.2.2.2.2.2.2) ?_
  refine R_cV (as := [.ref (s2 + 7)]) rfl rfl iv_Matrix_copyFrom (sp_Matrix_copyFrom hS.2.2.2.2.2.1 hS2.2.2.2.2.2.1 ⟨by omega, by omega, by omega⟩ ((smP_setM (p := plc s (s + 10)) (fun b => by unfold plc; omega) (fun b => by unfold plc; omega)).vM hv.2.2.1 (fun b => by unfold plc; omega) (fun b => by unfold plc; omega))) (by decide) rfl rfl hS.2.2.2.2.2.1.1 (by decide) rfl rfl (Nat.le_of_ble_eq_true rfl) (fun _ q => ?_)
  obtain rfl := q.symm
  refine R_aload_n rfl rfl ?_
  refine R_aload_n rfl rfl ?_
  refine R_gIX (x := (I 2)) rfl hS2.2.2.2.1 fd_0_2 ((((smP_setM (p := plc s (s + 10)) (fun b => by unfold plc; omega) (fun b => by unfold plc; omega)).trans (smP_setM (p := plc s (s + 10)) (fun b => by unfold plc; omega) (fun b => by unfold plc; omega))).i (by unfold plc; omega)).trans hv.2.2.2.2.2.2.1) ?_
  refine R_aload_n rfl rfl ?_
  refine R_gIX (x := (I 3)) rfl hS2.2.2.2.1 fd_0_3 ((((smP_setM (p := plc s (s + 10)) (fun b => by unfold plc; omega) (fun b => by unfold plc; omega)).trans (smP_setM (p := plc s (s + 10)) (fun b => by unfold plc; omega) (fun b => by unfold plc; omega))).i (by unfold plc; omega)).trans hv.2.2.2.2.2.2.2.1) ?_
  refine R_cV (as := [.int (I 2), .int (I 3)]) rfl rfl iv_Certificate_setClaim (sp_setClaim hS.2.2.2.1) (by decide) rfl rfl hS.2.2.2.1 (by decide) rfl rfl (Nat.le_of_ble_eq_true rfl) (fun _ q => ?_)
  obtain rfl := q.symm
  exact T_return rfl rfl (am_okv0 rfl)
set_option maxRecDepth 100000 in
set_option maxHeartbeats 4000000 in
theorem lp_State_copyFrom {τ0 : am_G} {s s2 : Nat} {I : Nat → Int32} {d k0 : Nat} {Q : am_Res → Prop} (hS : isState s) (hS2 : isState s2) (ha : s + 10 ≤ s2 ∨ s2 + 10 ≤ s) (hp : ∀ j, j < 6 → τ0.1 (s2 + 9) j = I (8 + j)) (hx : am_R am_TX d k0 c_State_copyFrom 95 [some (.ref s), some (.ref s2), some (.int (nI 6))] [] (mm (aS τ0 (s + 9) 6 (fun j => I (8 + j)))) Q) : ∀ (uu i : Nat), i + uu = 6 → am_R am_TX d k0 c_State_copyFrom 59 [some (.ref s), some (.ref s2), some (.int (nI i))] [] (mm (aS τ0 (s + 9) i (fun j => I (8 + j)))) Q := by
  intro uu
  induction uu with
  | zero =>
    intro i hi
    obtain rfl : 6 = i := by omega
    refine R_iload_n rfl rfl ?_
    refine R_aload_n rfl rfl ?_
    refine R_gP (x := (s + 9)) rfl hS.1 fp_9_6 ((am_P_3 (by decide)).trans hS.2.2.2.2.2.2.2.2.2.2.1) ?_
    refine R_aln (v := 6) rfl hS.2.2.2.2.2.2.1 (by decide) (by decide) ?_
    refine R_nicmp_ge (x := 6) (y := 6) rfl rfl (by omega) (by omega) (fun h1 => ?_) (fun z => by omega)
    exact hx
  | succ uu ih =>
    intro i hi
    refine R_iload_n rfl rfl ?_
    refine R_aload_n rfl rfl ?_
    refine R_gP (x := (s + 9)) rfl hS.1 fp_9_6 ((am_P_3 (by decide)).trans hS.2.2.2.2.2.2.2.2.2.2.1) ?_
    refine R_aln (v := 6) rfl hS.2.2.2.2.2.2.1 (by decide) (by decide) ?_
    refine R_nicmp_ge (x := i) (y := 6) rfl rfl (by omega) (by omega) (fun z => by omega) (fun h1 => ?_)
    refine R_iload_n rfl rfl ?_
    refine R_aload_n rfl rfl ?_
    refine R_gP (x := (s2 + 9)) rfl hS2.1 fp_9_6 ((am_P_3 (by decide)).trans hS2.2.2.2.2.2.2.2.2.2.2.1) ?_
    refine R_aln (v := 6) rfl hS2.2.2.2.2.2.2.1 (by decide) (by decide) ?_
    refine R_nicmp_ge (x := i) (y := 6) rfl rfl (by omega) (by omega) (fun z => by omega) (fun h2 => ?_)
    refine R_aload_n rfl rfl ?_
    refine R_gP (x := (s + 9)) rfl hS.1 fp_9_6 ((am_P_3 (by decide)).trans hS.2.2.2.2.2.2.2.2.2.2.1) ?_
    refine R_iload_n rfl rfl ?_
    refine R_aload_n rfl rfl ?_
    refine R_gP (x := (s2 + 9)) rfl hS2.1 fp_9_6 ((am_P_3 (by decide)).trans hS2.2.2.2.2.2.2.2.2.2.2.1) ?_
    refine R_iload_n rfl rfl ?_
    refine R_xI (j := i) rfl hS2.2.2.2.2.2.2.1 rfl (by omega) (by decide) ?_
    refine R_wI (j := i) rfl hS.2.2.2.2.2.2.1 rfl (by omega) (by decide) ?_
    refine R_iincN (x := i) (m := 1) rfl rfl rfl (by decide) ?_
    refine R_goto rfl rfl ?_
    refine am_R.mem (σ' := (aS τ0 (s + 9) (i + 1) (fun j => I (8 + j)))) ?_ ((ih (i + 1) (by omega)).weak ⟨rfl, rfl, rfl, trivial⟩)
    exact Prod.ext (aI_put ((aS_i (by omega)).trans (hp i (by omega)))) rfl
set_option maxRecDepth 100000 in
set_option maxHeartbeats 4000000 in
theorem sp_State_copyFrom {σ : am_G} {s h w rh pn : Nat} {f v rl : am_Gr} {I : Nat → Int32} {s2 : Nat} (hS : isState s) (hS2 : isState s2) (ha : s + 10 ≤ s2 ∨ s2 + 10 ≤ s) (hv : vS σ s2 h w f v rh rl pn I) : am_Call am_TX 2 0 c_State_copyFrom [.ref s, .ref s2] (mm σ) (am_Ok none (fun σ1 => σ1 = putS σ s h w f v rh rl pn I)) := by
  refine ⟨mf_State_copyFrom, Nat.le_of_ble_eq_true rfl, ?_⟩
  refine R_aload_n rfl rfl ?_
  refine R_gP (x := (s + 1)) rfl hS.1 fp_9_0 ((am_P_3 (by decide)).trans hS.2.2.2.2.2.2.2.1) ?_
  refine R_aload_n rfl rfl ?_
  refine R_gP (x := (s2 + 1)) rfl hS2.1 fp_9_0 ((am_P_3 (by decide)).trans hS2.2.2.2.2.2.2.2.1) ?_
  refine R_cV (as := [.ref (s2 + 1)]) rfl rfl iv_Matrix_copyFrom (sp_Matrix_copyFrom hS.2.1 hS2.2.1 ⟨by omega, by omega, by omega⟩ hv.1) (by decide) rfl rfl hS.2.1.1 (by decide) rfl rfl (Nat.le_of_ble_eq_true rfl) (fun _ q => ?_)
  obtain rfl := q.symm
  refine R_aload_n rfl rfl ?_
  refine R_gP (x := (s + 3)) rfl hS.1 fp_9_1 ((am_P_3 (by decide)).trans hS.2.2.2.2.2.2.2.2.1) ?_
  refine R_aload_n rfl rfl ?_
  refine R_gP (x := (s2 + 3)) rfl hS2.1 fp_9_1 ((am_P_3 (by decide)).trans hS2.2.2.2.2.2.2.2.2.1) ?_
  refine R_cV (as := [.ref (s2 + 3)]) rfl rfl iv_Guess_copyFrom (sp_Guess_copyFrom (g := s + 3) (g2 := s2 + 3) (x := fun j => I (4 + j)) hS.2.2.1 hS2.2.2.1 (by omega) (fun j hj => ((smP_setM (p := plc s (s + 10)) (fun b => by unfold plc; omega) (fun b => by unfold plc; omega)).i (by unfold plc; omega)).trans (hv.2.2.2.2.2.2.2.2.1 j hj))) (by decide) rfl rfl hS.2.2.1 (by decide) rfl rfl (Nat.le_of_ble_eq_true rfl) (fun _ q => ?_)
  obtain rfl := q.symm
  refine R_aload_n rfl rfl ?_
  refine R_gP (x := (s + 4)) rfl hS.1 fp_9_2 ((am_P_3 (by decide)).trans hS.2.2.2.2.2.2.2.2.2.1) ?_
  refine R_aload_n rfl rfl ?_
  refine R_gP (x := (s2 + 4)) rfl hS2.1 fp_9_2 ((am_P_3 (by decide)).trans hS2.2.2.2.2.2.2.2.2.2.1) ?_
  refine R_cV (as := [.ref (s2 + 4)]) rfl rfl iv_Certificate_copyFrom (sp_Certificate_copyFrom (I := I) hS hS2 ha (((smP_setM (p := plc s (s + 10)) (fun b => by unfold plc; omega) (fun b => by unfold plc; omega)).trans (gS_fr (p := plc s (s + 10)) (fun b => by unfold plc; omega))).vS hv (fun a b _ _ => by unfold plc; omega))) (by decide) rfl rfl hS.2.2.2.1 (by decide) rfl rfl (Nat.le_of_ble_eq_true rfl) (fun _ q => ?_)
  obtain rfl := q.symm
  refine R_aload_n rfl rfl ?_
  refine R_aload_n rfl rfl ?_
  refine R_gIX (x := (nI pn)) rfl hS2.1 fd_9_3 (((((((smP_setM (p := plc s (s + 10)) (fun b => by unfold plc; omega) (fun b => by unfold plc; omega)).trans (gS_fr (p := plc s (s + 10)) (fun b => by unfold plc; omega))).trans (smP_setM (p := plc s (s + 10)) (fun b => by unfold plc; omega) (fun b => by unfold plc; omega))).trans (smP_setM (p := plc s (s + 10)) (fun b => by unfold plc; omega) (fun b => by unfold plc; omega))).trans (clS_fr (p := plc s (s + 10)) (fun b => by unfold plc; omega))).i (by unfold plc; omega)).trans hv.2.2.2.1.1) ?_
  refine R_pI rfl hS.1 fw_9_3 rfl ?_
  refine R_aload_n rfl rfl ?_
  refine R_aload_n rfl rfl ?_
  refine R_gIX (x := (I 0)) rfl hS2.1 fd_9_4 ((((((((smP_setM (p := plc s (s + 10)) (fun b => by unfold plc; omega) (fun b => by unfold plc; omega)).trans (gS_fr (p := plc s (s + 10)) (fun b => by unfold plc; omega))).trans (smP_setM (p := plc s (s + 10)) (fun b => by unfold plc; omega) (fun b => by unfold plc; omega))).trans (smP_setM (p := plc s (s + 10)) (fun b => by unfold plc; omega) (fun b => by unfold plc; omega))).trans (clS_fr (p := plc s (s + 10)) (fun b => by unfold plc; omega))).trans (smP_sI (p := plc s (s + 10)) (by unfold plc; omega))).i (by unfold plc; omega)).trans hv.2.2.2.2.1) ?_
  refine R_pI rfl hS.1 fw_9_4 rfl ?_
  refine R_aload_n rfl rfl ?_
  refine R_aload_n rfl rfl ?_
  refine R_gIX (x := (I 1)) rfl hS2.1 fd_9_5 (((((((((smP_setM (p := plc s (s + 10)) (fun b => by unfold plc; omega) (fun b => by unfold plc; omega)).trans (gS_fr (p := plc s (s + 10)) (fun b => by unfold plc; omega))).trans (smP_setM (p := plc s (s + 10)) (fun b => by unfold plc; omega) (fun b => by unfold plc; omega))).trans (smP_setM (p := plc s (s + 10)) (fun b => by unfold plc; omega) (fun b => by unfold plc; omega))).trans (clS_fr (p := plc s (s + 10)) (fun b => by unfold plc; omega))).trans (smP_sI (p := plc s (s + 10)) (by unfold plc; omega))).trans (smP_sI (p := plc s (s + 10)) (by unfold plc; omega))).i (by unfold plc; omega)).trans hv.2.2.2.2.2.1) ?_
  refine R_pI rfl hS.1 fw_9_5 rfl ?_
  refine R_iconst (v := 0) rfl rfl ?_
  refine R_istore_n rfl (by decide) ?_
  refine am_R.mem (σ' := (aS (sI (sI (sI (clS (setM (setM (gS (setM σ (s + 1) h w f) (s + 3) (fun j => I (4 + j))) (s + 5) 1 h v) (s + 7) rh h rl) (s + 4) (I 2) (I 3)) s 3 (nI pn)) s 4 (I 0)) s 5 (I 1)) (s + 9) 0 (fun j => I (8 + j)))) (Prod.ext aI_0.symm rfl) ((lp_State_copyFrom (τ0 := (sI (sI (sI (clS (setM (setM (gS (setM σ (s + 1) h w f) (s + 3) (fun j => I (4 + j))) (s + 5) 1 h v) (s + 7) rh h rl) (s + 4) (I 2) (I 3)) s 3 (nI pn)) s 4 (I 0)) s 5 (I 1))) (I := I) hS hS2 ha (fun j hj => (((((((((smP_setM (p := plc s (s + 10)) (fun b => by unfold plc; omega) (fun b => by unfold plc; omega)).trans (gS_fr (p := plc s (s + 10)) (fun b => by unfold plc; omega))).trans (smP_setM (p := plc s (s + 10)) (fun b => by unfold plc; omega) (fun b => by unfold plc; omega))).trans (smP_setM (p := plc s (s + 10)) (fun b => by unfold plc; omega) (fun b => by unfold plc; omega))).trans (clS_fr (p := plc s (s + 10)) (fun b => by unfold plc; omega))).trans (smP_sI (p := plc s (s + 10)) (by unfold plc; omega))).trans (smP_sI (p := plc s (s + 10)) (by unfold plc; omega))).trans (smP_sI (p := plc s (s + 10)) (by unfold plc; omega))).i (by unfold plc; omega)).trans (hv.2.2.2.2.2.2.2.2.2 j hj)) ?_ 6 0 rfl).weak ⟨rfl, rfl, rfl, trivial⟩)
  exact T_return rfl rfl (am_okv0 rfl)

