/-! ===== the model: what it remembers ===== -/
def nLD (L : Nat → Int64) (D : am_Sn) : Prop := nL L D.1 D.2.1 D.2.2.1 D.2.2.2.1 D.2.2.2.2.1 D.2.2.2.2.2.1 D.2.2.2.2.2.2.1 D.2.2.2.2.2.2.2
def okD (D : am_Sn) : Prop := okV D.1 D.2.1 D.2.2.1 D.2.2.2.1 D.2.2.2.2.1 D.2.2.2.2.2.1 D.2.2.2.2.2.2.1 D.2.2.2.2.2.2.2
def nVD (σ : am_G) (D : am_Sn) : Prop := nV σ D.1 D.2.1 D.2.2.1 D.2.2.2.1 D.2.2.2.2.1 D.2.2.2.2.2.1 D.2.2.2.2.2.2.1 D.2.2.2.2.2.2.2
theorem nLD_cg {L L' : Nat → Int64} {D : am_Sn} (hk : okD D) (hL : nLD L D) (e : ∀ k, k < 98 → L' k = L k) : nLD L' D := nL_cg hk hL e
/-- the model's desks of before: n of them, the newest is Hs 0 -/
def mH (σ : am_G) (n : Nat) (Hs : Nat → am_Sn) : Prop := σ.1 120 25 = nI n ∧ n ≤ 6 ∧ ∀ i, i < n → nLD (fun k => σ.2.1 130 (98 * (n - 1 - i) + k)) (Hs i) ∧ okD (Hs i)
theorem mH.fr {P : Nat → Nat → Prop} {σ σ1 : am_G} (q : smP P σ σ1) {n : Nat} {Hs : Nat → am_Sn} (h : mH σ n Hs) (h1 : ¬ P 120 25) (h2 : ∀ b, ¬ P 130 b) : mH σ1 n Hs :=
  ⟨(q.i h1).trans h.1, h.2.1, fun i hi => ⟨nLD_cg (h.2.2 i hi).2 (h.2.2 i hi).1 (fun k _ => (q.1 130 _ (h2 _)).2), (h.2.2 i hi).2⟩⟩
def pR (a b : Nat) : Prop := (a = 120 ∧ b = 25) ∨ a = 130
def p130 (a _b : Nat) : Prop := a = 130
def p121 (a _b : Nat) : Prop := a = 121
theorem p130_R : ∀ a b, p130 a b → pR a b := fun _ _ h => Or.inr h
theorem pR_f {σ σ1 : am_G} (q : smP pR σ σ1) {h w rh pn : Nat} {f v rl : am_Gr} {I : Nat → Int32} (hn : nV σ h w f v rh rl pn I) : nV σ1 h w f v rh rl pn I := hn.fr q (fun b => by unfold pR; omega) (by unfold pR; omega)
theorem rem_end {σ ρ τ : am_G} {n m : Nat} {Hs : Nat → am_Sn} {D : am_Sn} (hL : nLD (σ.2.1 121) D) (hk : okD D) (hH : mH σ n Hs) (hm : (n < 6 ∧ m = n ∧ ∀ j, j < 588 → ρ.2.1 130 j = σ.2.1 130 j) ∨ (n = 6 ∧ m = 5 ∧ ∀ j, j < 490 → ρ.2.1 130 j = σ.2.1 130 (j + 98))) (e1 : ∀ j, j < 98 → τ.2.1 130 (98 * m + j) = σ.2.1 121 j) (e2 : ∀ j, j < 98 * m → τ.2.1 130 j = ρ.2.1 130 j) : mH (sI τ 120 25 (nI (m + 1))) (nxZ n) (hC D Hs) := by
  obtain ⟨h1, h2, h3⟩ := hH
  have e : nxZ n = m + 1 := by unfold nxZ; omega
  rw [e]
  refine ⟨sI_s, by omega, fun i hi => ?_⟩
  cases i with
  | zero =>
    refine ⟨nLD_cg hk hL (fun k hk => ?_), hk⟩
    show τ.2.1 130 (98 * (m + 1 - 1 - 0) + k) = σ.2.1 121 k
    rw [show m + 1 - 1 - 0 = m by omega]
    exact e1 k hk
  | succ i =>
    refine ⟨nLD_cg (h3 i (by omega)).2 (h3 i (by omega)).1 (fun k hk => ?_), (h3 i (by omega)).2⟩
    show τ.2.1 130 (98 * (m + 1 - 1 - (i + 1)) + k) = σ.2.1 130 (98 * (n - 1 - i) + k)
    rw [e2 _ (by omega)]
    rcases hm with ⟨a, b, c⟩ | ⟨a, b, c⟩
    · rw [c _ (by omega), show m + 1 - 1 - (i + 1) = n - 1 - i by omega]
    · rw [c _ (by omega)]
      exact congrArg (σ.2.1 130) (by omega)
set_option maxRecDepth 100000 in
set_option maxHeartbeats 4000000 in
theorem lp_rem1 {σ : am_G} {d k0 : Nat} {Q : am_Res → Prop} (hd : 0 ≤ d) (hx : ∀ (τ : am_G), (smP p130 σ τ ∧ 98 ≤ 588 ∧ (∀ j, j < 588 - 98 → τ.2.1 130 j = σ.2.1 130 (j + 98)) ∧ ∀ j, 588 ≤ j → τ.2.1 130 j = σ.2.1 130 j) → am_R am_TX d k0 c_M_remember 40 [some (.ref 120), some (.int (nI 588))] [] (mm τ) Q) : ∀ (uu i : Nat) (τ : am_G), i + uu = 588 → (smP p130 σ τ ∧ 98 ≤ i ∧ (∀ j, j < i - 98 → τ.2.1 130 j = σ.2.1 130 (j + 98)) ∧ ∀ j, i ≤ j → τ.2.1 130 j = σ.2.1 130 j) → am_R am_TX d k0 c_M_remember 12 [some (.ref 120), some (.int (nI i))] [] (mm τ) Q := by
  intro uu
  induction uu with
  | zero =>
    intro i τ hi hI
    obtain rfl : 588 = i := by omega
    skip
    refine R_iload_n rfl rfl ?_
    refine R_sipush (v := 588) rfl (by decide) ?_
    refine R_nicmp_ge (x := 588) (y := 588) rfl rfl (by omega) (by omega) (fun g1 => ?_) (fun z => by omega)
    exact hx τ hI
  | succ uu ih =>
    intro i τ hi hI
    have hi98 := hI.2.1
    refine R_iload_n rfl rfl ?_
    refine R_sipush (v := 588) rfl (by decide) ?_
    refine R_nicmp_ge (x := i) (y := 588) rfl rfl (by omega) (by omega) (fun z => by omega) (fun g1 => ?_)
    refine R_aload_n rfl rfl ?_
    refine R_gP (x := 130) rfl rfl fp_11_24 rfl ?_
    refine R_iload_n rfl rfl ?_
    refine R_bipush (v := 98) rfl (by decide) ?_
    refine R_isubN (x := i) (y := 98) rfl (by omega) ?_
    refine R_aload_n rfl rfl ?_
    refine R_gP (x := 130) rfl rfl fp_11_24 rfl ?_
    refine R_iload_n rfl rfl ?_
    refine R_xL (j := i) rfl rfl rfl (by omega) (by decide) ?_
    refine R_wL (j := (i - 98)) rfl rfl rfl (by omega) (by decide) ?_
    refine R_iincN (x := i) (m := 1) rfl rfl rfl (by decide) ?_
    refine R_goto rfl rfl ?_
    refine (ih (i + 1) (sL τ 130 (i - 98) (τ.2.1 130 i)) (by omega) ⟨hI.1.trans (smP_sL (p := p130) rfl), ?_, fun j hj => ?_, fun j hj => ?_⟩).weak ⟨rfl, rfl, trivial⟩
    · omega
    · by_cases e : j = i - 98
      · subst e
        rw [sL_s, hI.2.2.2 i (Nat.le_refl i)]
        exact congrArg (σ.2.1 130) (by omega)
      · rw [sL_o (Or.inr e)]; exact hI.2.2.1 j (by omega)
    · rw [sL_o (Or.inr (by omega))]; exact hI.2.2.2 j (by omega)
set_option maxRecDepth 100000 in
set_option maxHeartbeats 4000000 in
theorem lp_rem2 {ρ : am_G} {m : Nat} {d k0 : Nat} {Q : am_Res → Prop} (h25 : ρ.1 120 25 = nI m) (hm : m < 6) (hd : 0 ≤ d) (hx : ∀ (τ : am_G), (smP p130 ρ τ ∧ (∀ j, j < 98 → τ.2.1 130 (98 * m + j) = ρ.2.1 121 j) ∧ ∀ j, j < 98 * m → τ.2.1 130 j = ρ.2.1 130 j) → am_R am_TX d k0 c_M_remember 84 [some (.ref 120), some (.int (nI 98))] [] (mm τ) Q) : ∀ (uu i : Nat) (τ : am_G), i + uu = 98 → (smP p130 ρ τ ∧ (∀ j, j < i → τ.2.1 130 (98 * m + j) = ρ.2.1 121 j) ∧ ∀ j, j < 98 * m → τ.2.1 130 j = ρ.2.1 130 j) → am_R am_TX d k0 c_M_remember 52 [some (.ref 120), some (.int (nI i))] [] (mm τ) Q := by
  intro uu
  induction uu with
  | zero =>
    intro i τ hi hI
    obtain rfl : 98 = i := by omega
    refine R_iload_n rfl rfl ?_
    refine R_bipush (v := 98) rfl (by decide) ?_
    refine R_nicmp_ge (x := 98) (y := 98) rfl rfl (by omega) (by omega) (fun g1 => ?_) (fun z => by omega)
    exact hx τ hI
  | succ uu ih =>
    intro i τ hi hI
    refine R_iload_n rfl rfl ?_
    refine R_bipush (v := 98) rfl (by decide) ?_
    refine R_nicmp_ge (x := i) (y := 98) rfl rfl (by omega) (by omega) (fun z => by omega) (fun g1 => ?_)
    refine R_aload_n rfl rfl ?_
    refine R_gP (x := 130) rfl rfl fp_11_24 rfl ?_
    refine R_bipush (v := 98) rfl (by decide) ?_
    refine R_aload_n rfl rfl ?_
    refine R_gIN (n := m) rfl rfl fd_11_25 ((hI.1.i (by unfold p130; omega)).trans h25) ?_
    refine R_imulN (x := 98) (y := m) rfl ?_
    refine R_iload_n rfl rfl ?_
    refine R_iaddN (x := (98 * m)) (y := i) rfl ?_
    refine R_aload_n rfl rfl ?_
    refine R_gP (x := 121) rfl rfl fp_11_1 rfl ?_
    refine R_iload_n rfl rfl ?_
    refine R_xL (j := i) rfl rfl rfl (by omega) (by decide) ?_
    refine R_wL (j := ((98 * m) + i)) rfl rfl rfl (by omega) (by decide) ?_
    refine R_iincN (x := i) (m := 1) rfl rfl rfl (by decide) ?_
    refine R_goto rfl rfl ?_
    refine (ih (i + 1) (sL τ 130 ((98 * m) + i) (τ.2.1 121 i)) (by omega) ⟨hI.1.trans (smP_sL (p := p130) rfl), fun j hj => ?_, fun j hj => ?_⟩).weak ⟨rfl, rfl, trivial⟩
    · by_cases e : j = i
      · subst e
        rw [sL_s]; exact (hI.1.1 121 j (by unfold p130; omega)).2
      · rw [sL_o (Or.inr (by omega))]; exact hI.2.1 j (by omega)
    · rw [sL_o (Or.inr (by omega))]; exact hI.2.2 j (by omega)
set_option maxRecDepth 100000 in
set_option maxHeartbeats 4000000 in
theorem sp_remember {σ : am_G} {h w rh pn : Nat} {f v rl : am_Gr} {I : Nat → Int32} {n : Nat} {Hs : Nat → am_Sn} (hn : nV σ h w f v rh rl pn I) (hH : mH σ n Hs) : am_Call am_TX 1 0 c_M_remember [.ref 120] (mm σ) (am_Ok none (fun σ1 => smP pR σ σ1 ∧ mH σ1 (nxZ n) (hC (h, w, f, v, rh, rl, pn, I) Hs))) := by
  have hn6 := hH.2.1
  refine ⟨mf_M_remember, Nat.le_of_ble_eq_true rfl, ?_⟩
  refine R_aload_n rfl rfl ?_
  refine R_gIN (n := n) rfl rfl fd_11_25 hH.1 ?_
  refine R_bipush (v := 6) rfl (by decide) ?_
  refine R_nicmp_ne (x := n) (y := 6) rfl rfl (by omega) (by omega) (fun g1 => ?_) (fun g1 => ?_)
  · refine R_iconst (v := 0) rfl rfl ?_
    refine R_istore_n rfl (by decide) ?_
    refine (lp_rem2 (ρ := σ) (m := n) hH.1 (by omega) (by omega) (fun τ2 hτ2 => ?_) 98 0 _ (by omega) ⟨smP.refl, fun j hj => absurd hj (Nat.not_lt_zero _), fun j hj => rfl⟩).weak ⟨rfl, rfl, trivial⟩
    refine R_aload_n rfl rfl ?_
    refine R_dup rfl rfl ?_
    refine R_gIN (n := n) rfl rfl fd_11_25 ((hτ2.1.i (by unfold p130; omega)).trans hH.1) ?_
    refine R_iconst (v := 1) rfl rfl ?_
    refine R_iaddN (x := n) (y := 1) rfl ?_
    refine R_pI rfl rfl fw_11_25 rfl ?_
    exact T_return rfl rfl (am_okv0 ⟨((hτ2.1.mono p130_R)).trans (smP_sI (p := pR) (Or.inl ⟨rfl, rfl⟩)), rem_end hn.1 hn.2.1 hH (Or.inl ⟨by omega, rfl, fun j _ => rfl⟩) hτ2.2.1 hτ2.2.2⟩)
  · refine R_bipush (v := 98) rfl (by decide) ?_
    refine R_istore_n rfl (by decide) ?_
    refine (lp_rem1 (σ := σ) (by omega) (fun τ1 hτ1 => ?_) 490 98 _ (by omega) ⟨smP.refl, Nat.le_refl _, fun j hj => absurd hj (by omega), fun j hj => rfl⟩).weak ⟨rfl, rfl, trivial⟩
    refine R_aload_n rfl rfl ?_
    refine R_dup rfl rfl ?_
    refine R_gIN (n := n) rfl rfl fd_11_25 ((hτ1.1.i (by unfold p130; omega)).trans hH.1) ?_
    refine R_iconst (v := 1) rfl rfl ?_
    refine R_isubN (x := n) (y := 1) rfl (by omega) ?_
    refine R_pI rfl rfl fw_11_25 rfl ?_
    refine R_iconst (v := 0) rfl rfl ?_
    refine R_istore_n rfl (by decide) ?_
    refine (lp_rem2 (ρ := (sI τ1 120 25 (nI (n - 1)))) (m := n - 1) sI_s (by omega) (by omega) (fun τ2 hτ2 => ?_) 98 0 _ (by omega) ⟨smP.refl, fun j hj => absurd hj (Nat.not_lt_zero _), fun j hj => rfl⟩).weak ⟨rfl, rfl, trivial⟩
    refine R_aload_n rfl rfl ?_
    refine R_dup rfl rfl ?_
    refine R_gIN (n := (n - 1)) rfl rfl fd_11_25 ((hτ2.1.i (by unfold p130; omega)).trans sI_s) ?_
    refine R_iconst (v := 1) rfl rfl ?_
    refine R_iaddN (x := (n - 1)) (y := 1) rfl ?_
    refine R_pI rfl rfl fw_11_25 rfl ?_
    have e4 : ∀ j, j < 98 → τ2.2.1 130 (98 * (n - 1) + j) = σ.2.1 121 j := fun j hj => (hτ2.2.1 j hj).trans (hτ1.1.1 121 j (by unfold p130; omega)).2
    have e5 : ∀ j, j < 490 → τ1.2.1 130 j = σ.2.1 130 (j + 98) := fun j hj => hτ1.2.2.1 j (by omega)
    exact T_return rfl rfl (am_okv0 ⟨(((hτ1.1.mono p130_R).trans (smP_sI (p := pR) (Or.inl ⟨rfl, rfl⟩))).trans (hτ2.1.mono p130_R)).trans (smP_sI (p := pR) (Or.inl ⟨rfl, rfl⟩)), rem_end (m := n - 1) hn.1 hn.2.1 hH (Or.inr ⟨by omega, by omega, e5⟩) e4 hτ2.2.2⟩)
