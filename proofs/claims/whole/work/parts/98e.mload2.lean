/-! ===== the model loads, the method ===== -/
def pLd (a b : Nat) : Prop := (a = 120 ∧ (b = 0 ∨ b = 12 ∨ b = 13 ∨ (14 ≤ b ∧ b ≤ 20))) ∨ a = 122
def pLo (a b : Nat) : Prop := pLd a b ∨ (a = 120 ∧ b = 25) ∨ a = 121 ∨ a = 130
def p122 (a _b : Nat) : Prop := a = 122
def fOK (h w : Nat) (f : am_Gr) : Prop := fSm f h w ∧ ∀ i j, i < 6 → j < 6 → (h ≤ i ∨ w ≤ j) → f i j = 0
theorem eV_20 {B : List Int32} {n : Nat} {t : am_T} (h : ckN 0 20 (eT B n t) = 0) : (eV B n t).toInt.natAbs ≤ 20 := by
  have hv : (eT B n t).2.2.2 ≤ 20 := by
    unfold ckN at h
    by_cases c : (eT B n t).2.2.1 = 2
    · rw [if_pos c] at h
      by_cases e : 0 ≤ (eT B n t).2.2.2 ∧ (eT B n t).2.2.2 ≤ 20
      · exact e.2
      · rw [if_neg e] at h; exact absurd h (by decide)
    · rw [if_neg c] at h; exact absurd h (by decide)
  unfold eV
  generalize (eT B n t).2.2.2 = v at hv
  have e1 : (nI v).toInt = (v : Int) := nI_toInt (by omega)
  split
  · rw [Int32.toInt_toInt64, Int32.toInt_neg, e1, Int.bmod_eq_of_le (by omega) (by omega)]; omega
  · rw [Int32.toInt_toInt64, e1]; omega
theorem fOK_put {h w i j : Nat} {f : am_Gr} {x : Int64} (hf : fOK h w f) (hi : i < h) (hj : j < w) (hx : x.toInt.natAbs ≤ 20) : fOK h w (up2 f i j x) := by
  refine ⟨fun p q hp hq => ?_, fun p q hp hq ho => ?_⟩
  · unfold up2
    by_cases e : p = i ∧ q = j
    · rw [if_pos e]; exact hx
    · rw [if_neg e]; exact hf.1 p q hp hq
  · unfold up2
    rw [if_neg (by omega)]; exact hf.2 p q hp hq ho
theorem rF_ok {B : List Int32} {n h w rt : Nat} {f : am_Gr} {t0 : am_T} (hrt : rt < h) (hf : fOK h w f) : ∀ u j, j + u = w → fOK h w (rF B n f rt t0 j) → rE B n w t0 u j = none → fOK h w (rF B n f rt t0 w)
  | 0, j, hj, hk, _ => by
    have e : j = w := by omega
    subst e; exact hk
  | u + 1, j, hj, hk, he => by
    simp only [rE] at he
    by_cases c : ckN 0 20 (eT B n (rS B n t0 j)) = 0
    · rw [if_pos c] at he
      by_cases s : isSy B (if j = w - 1 then 59 else 44) (nx B n (eT B n (rS B n t0 j)))
      · rw [if_pos s] at he
        exact rF_ok hrt hf u (j + 1) (by omega) (fOK_put hk hrt (by omega) (eV_20 c)) he
      · rw [if_neg s] at he; exact absurd he (by simp)
    · rw [if_neg c] at he; exact absurd he (by simp)
theorem prE_ok {B : List Int32} {n h w : Nat} : ∀ u t f rt P pn D, prE B n h w u t f rt P pn = .inr D → fOK h w f → fOK h w D.1
  | 0, t, f, rt, P, pn, D, e, hf => by
    have z : (.inr (f, rt, P, pn) : am_Tr) = .inr D := e
    rw [← Sum.inr.inj z]; exact hf
  | u + 1, t, f, rt, P, pn, D, e, hf => by
    by_cases hk : t.2.2.1 = 0
    · rw [prE_z hk] at e
      rw [← Sum.inr.inj e]; exact hf
    · by_cases hw : isWd B wRo t
      · by_cases hr : rt < h
        · cases he : rE B n w (nx B n t) w 0 with
          | none =>
            rw [prE_r1 hk hw hr he] at e
            exact prE_ok u _ _ _ _ _ D e (rF_ok hr hf w 0 (by omega) hf he)
          | some x => rw [prE_r0 hk hw hr he] at e; exact absurd e (by simp)
        · rw [prE_rh hk hw hr] at e; exact absurd e (by simp)
      · by_cases hp : isWd B wPr t
        · by_cases h6 : pn < 6
          · cases he : pmE B n P pn t with
            | none =>
              rw [prE_p1 hk hw hp h6 he] at e
              exact prE_ok u _ _ _ _ _ D e hf
            | some x => rw [prE_p0 hk hw hp h6 he] at e; exact absurd e (by simp)
          · rw [prE_p6 hk hw hp h6] at e; exact absurd e (by simp)
        · rw [prE_o hk hw hp] at e; exact absurd e (by simp)
theorem paE_ok {B : List Int32} {n : Nat} {D : am_Gr × Nat × (Nat → Nat) × Nat} (h : paE B n = .inr D) : fOK (paH B n) (paW B n) D.1 := by
  unfold paE at h
  cases e : mtE B n (paT B n) with
  | some x => rw [e] at h; exact absurd h (by simp)
  | none =>
    rw [e] at h
    exact prE_ok _ _ _ _ _ _ D h ⟨fun i j _ _ => by rw [l0]; decide, fun _ _ _ _ _ => rfl⟩
/-- the draft becomes the desk -/
theorem dM_nV {σ τ : am_G} {h w rt pn : Nat} {f : am_Gr} {P : Nat → Nat} {J : Nat → Int32} (hd : dM σ h w f rt P pn) (hf : fOK h w f) (hJ : ∀ j, j < 8 → J j = if j < 2 then 0 else -1) (hP : prP pn J P) (e : ∀ k, k < 98 → τ.2.1 121 k = σ.2.1 122 k) (h2 : τ.2.2 = 121) (h4 : τ.1 120 4 = 0) : nV τ h w f (fun _ _ => 0) 0 (fun _ _ => 0) pn J := by
  obtain ⟨hk, -, -, ⟨d1, d2, d3⟩, ⟨e1, e2, e3⟩, g⟩ := hd
  have z : ∀ k, ((3 ≤ k ∧ k < 14) ∨ (56 ≤ k ∧ k < 98)) → τ.2.1 121 k = 0 := fun k hk => (e k (by omega)).trans (g k hk)
  have j4 : J 4 = -1 := hJ 4 (by omega)
  have j2 : J 2 = -1 := hJ 2 (by omega)
  have j3 : J 3 = -1 := hJ 3 (by omega)
  have j0 : J 0 = 0 := hJ 0 (by omega)
  have j1 : J 1 = 0 := hJ 1 (by omega)
  refine ⟨⟨⟨(e 0 (by omega)).trans d1, (e 1 (by omega)).trans d2, fun i j hi hj => (e _ (by omega)).trans (d3 i j hi hj)⟩, ⟨(e 2 (by omega)).trans e1, fun j hj => ?_⟩, Or.inl ⟨j4, z 3 (by omega)⟩, ⟨?_, ?_⟩, Or.inl ⟨j2, z 10 (by omega)⟩, (z 13 (by omega)).trans rfl, fun j hj => z _ (by omega), fun k j hk => absurd hk (Nat.not_lt_zero _)⟩, ⟨hk, hf.1, hf.2, ⟨e2, P, hP⟩, Or.inl (fun j hj => ?_), Or.inl ⟨j2, j3⟩, Nat.zero_le _, fun j hj => rfl, fun k hk => absurd hk (Nat.not_lt_zero _)⟩, h2, h4⟩
  · rw [e _ (by omega), (e3 j hj).1, (hP j hj).1]
  · rw [z 8 (by omega), j0]; rfl
  · rw [z 9 (by omega), j1]; rfl
  · have := hJ (4 + j) (by omega)
    rw [this, if_neg (by omega)]
set_option maxRecDepth 100000 in
set_option maxHeartbeats 4000000 in
theorem ld_67 {σ : am_G} {n : Nat} {B : List Int32} {d k0 : Nat} {Q : am_Res → Prop} (hx0 : xM σ n B) (h14 : σ.1 120 14 = nI 0) (h18 : σ.1 120 18 = 0) (h19 : σ.1 120 19 = -1) (hz : dZ σ 0 0) (hr : σ.2.2 = 122) (hd : 7 ≤ d) (hx : ∀ ρ, smP pDm σ ρ → ldP n B (paH B n) (paW B n) (paE B n) ρ → am_R am_TX d k0 c_M_load 143 [some (.ref 120), none] [] (mm ρ) Q) : am_R am_TX d k0 c_M_load 67 [some (.ref 120), none] [] (mm σ) Q := by
  refine R_aload_n rfl rfl ?_
  refine R_cV (as := []) rfl rfl iv_M_scan (sp_scan (e := 0) hx0 (Nat.zero_le _) h14) (by omega) rfl rfl rfl (by decide) rfl rfl (Nat.le_of_ble_eq_true rfl) (fun ρ1 hρ1 => ?_)
  obtain ⟨q1, k1⟩ := hρ1
  have gA1 : tG ρ1 n B (paT B n) := ⟨hx0.fr q1 ⟨by unfold pSd; omega, fun b => by unfold pSd; omega⟩, tkF_b (Nat.zero_le _), tmM_C k1, (q1.i (by unfold pSd; omega)).trans h18, (q1.i (by unfold pSd; omega)).trans h19⟩
  have hz1 := dZ_q q1 hz
  have hr1 : ρ1.2.2 = 122 := q1.2.trans hr
  refine R_aload_n rfl rfl ?_
  by_cases g1 : mtM B n (paT B n) = none
  · refine R_cV (as := []) rfl rfl iv_M_parseMatrix (sp_mparseMatrix gA1 hz1 hr1) (by omega) rfl rfl rfl (by decide) rfl rfl (Nat.le_of_ble_eq_true rfl) (fun ρ2 hρ2 => ?_)
    obtain ⟨q2, m2⟩ := hρ2
    rw [g1] at m2
    obtain ⟨gA2, d2⟩ := (show tG ρ2 n B (nx B n (nx B n (nx B n (paT B n)))) ∧ dM ρ2 (paH B n) (paW B n) (fun _ _ => 0) 0 (fun _ => 0) 0 from m2)
    refine R_aload_n rfl rfl ?_
    refine R_bipush (v := 59) rfl (by decide) ?_
    by_cases g2 : isSy B 59 (nx B n (nx B n (nx B n (paT B n))))
    · refine R_cV (as := [.int 59]) rfl rfl iv_M_need (need_1 (c := 59) gA2 g2) (by omega) rfl rfl rfl (by decide) rfl rfl (Nat.le_of_ble_eq_true rfl) (fun ρ3 hρ3 => ?_)
      obtain ⟨q_ρ3, g_ρ3⟩ := hρ3
      have em : mtE B n (paT B n) = none := by rw [mt_mt, g1]; exact if_pos g2
      have A0 : tkA n (paT B n) := (tkF_A (Nat.zero_le n)).1
      have b0 : tkB n (paT B n) := tkF_b (Nat.zero_le n)
      have A1 := (nx_A (B := B) b0 A0).1
      have A2 := (nx_A (B := B) (nx_b b0) A1).1
      have A3 := (nx_A (B := B) (nx_b (nx_b b0)) A2).1
      have A4 := (nx_A (B := B) (nx_b (nx_b (nx_b b0))) A3).1
      exact (lp_mld (σ := ρ3) (n := n) (B := B) (by omega) n (nx B n (nx B n (nx B n (nx B n (paT B n))))) (fun _ _ => 0) 0 (fun _ => 0) 0 ρ3 A4 ⟨smP.refl, g_ρ3, (dM_qq q_ρ3 d2), Nat.le_add_right _ _⟩ (fun ρ q z => hx ρ ((((q1.mono pDm_d).trans q2).trans (q_ρ3.mono pDm_d)).trans q) (by unfold paE; rw [em]; exact z))).weak ⟨rfl, trivial⟩
    · refine R_cV (as := [.int 59]) rfl rfl iv_M_need (need_0 (c := 59) gA2 g2) (by omega) rfl rfl rfl (by decide) rfl rfl (Nat.le_of_ble_eq_true rfl) (fun _ q => ?_)
      obtain rfl := q.symm
      have em : mtE B n (paT B n) = some (1, (nx B n (nx B n (nx B n (paT B n)))).1) := by rw [mt_mt, g1]; exact if_neg g2
      exact (ld_b (mfl_E (σ := ρ2) (x := (nx B n (nx B n (nx B n (paT B n)))).1) (by omega)) (by omega) (hx _ (((q1.mono pDm_d).trans q2).trans mfl_q) (by unfold paE; rw [em]; exact (mfl_E (σ := ρ2) (x := (nx B n (nx B n (nx B n (paT B n)))).1) (by omega))))).weak ⟨rfl, trivial⟩
  · refine R_cV (as := []) rfl rfl iv_M_parseMatrix (sp_mparseMatrix gA1 hz1 hr1) (by omega) rfl rfl rfl (by decide) rfl rfl (Nat.le_of_ble_eq_true rfl) (fun ρ2 hρ2 => ?_)
    obtain ⟨q2, m2⟩ := hρ2
    obtain ⟨e, he⟩ := opt_ne g1
    rw [he] at m2
    have e2 : tE ρ2 e.1 e.2 := m2
    refine R_aload_n rfl rfl ?_
    refine R_bipush (v := 59) rfl (by decide) ?_
    refine R_cV (as := [.int 59]) rfl rfl iv_M_need (need_b e2) (by omega) rfl rfl rfl (by decide) rfl rfl (Nat.le_of_ble_eq_true rfl) (fun _ q => ?_)
    obtain rfl := q.symm
    have em : mtE B n (paT B n) = some e := by rw [mt_mt, he]
    exact (ld_b e2 (by omega) (hx _ ((q1.mono pDm_d).trans q2) (by unfold paE; rw [em]; exact e2))).weak ⟨rfl, trivial⟩
set_option maxRecDepth 100000 in
set_option maxHeartbeats 4000000 in
theorem lp_mlc {σ : am_G} {d k0 : Nat} {Q : am_Res → Prop} (hd : 0 ≤ d) (hx : ∀ (τ : am_G), (smP p122 σ τ ∧ ∀ k, k < 98 → τ.2.1 122 k = 0) → am_R am_TX d k0 c_M_load 59 [some (.ref 120), some (.int (nI 98))] [] (mm τ) Q) : ∀ (uu i : Nat) (τ : am_G), i + uu = 98 → (smP p122 σ τ ∧ ∀ k, k < i → τ.2.1 122 k = 0) → am_R am_TX d k0 c_M_load 40 [some (.ref 120), some (.int (nI i))] [] (mm τ) Q := by
  intro uu
  induction uu with
  | zero =>
    intro i τ hi hI
    obtain rfl : 98 = i := by omega
    refine R_iload_n rfl rfl ?_
    refine R_bipush (v := 98) rfl (by decide) ?_
    refine R_nicmp_ge (x := 98) (y := 98) rfl rfl (by omega) (by omega) (fun g1 => ?_) (fun z => by omega)
    exact hx τ hI
  | succ uu ih =>
    intro i τ hi hI
    refine R_iload_n rfl rfl ?_
    refine R_bipush (v := 98) rfl (by decide) ?_
    refine R_nicmp_ge (x := i) (y := 98) rfl rfl (by omega) (by omega) (fun z => by omega) (fun g1 => ?_)
    refine R_aload_n rfl rfl ?_
    refine R_gP (x := 122) rfl rfl fp_11_2 rfl ?_
    refine R_iload_n rfl rfl ?_
    refine R_lconst (v := 0) rfl rfl ?_
    refine R_wL (j := i) rfl rfl rfl (by omega) (by decide) ?_
    refine R_iincN (x := i) (m := 1) rfl rfl rfl (by decide) ?_
    refine R_goto rfl rfl ?_
    refine (ih (i + 1) (sL τ 122 i 0) (by omega) ⟨hI.1.trans (smP_sL (p := p122) rfl), fun j hj => ?_⟩).weak ⟨rfl, rfl, trivial⟩
    by_cases e : j = i
    · subst e; exact sL_s
    · rw [sL_o (Or.inr e)]; exact hI.2 j (by omega)
set_option maxRecDepth 100000 in
set_option maxHeartbeats 4000000 in
theorem lp_mlk {σ : am_G} {d k0 : Nat} {Q : am_Res → Prop} (hd : 0 ≤ d) (hx : ∀ (τ : am_G), (smP p121 σ τ ∧ ∀ k, k < 98 → τ.2.1 121 k = σ.2.1 122 k) → am_R am_TX d k0 c_M_load 191 [some (.ref 120), some (.int (nI 98))] [] (mm τ) Q) : ∀ (uu i : Nat) (τ : am_G), i + uu = 98 → (smP p121 σ τ ∧ ∀ k, k < i → τ.2.1 121 k = σ.2.1 122 k) → am_R am_TX d k0 c_M_load 167 [some (.ref 120), some (.int (nI i))] [] (mm τ) Q := by
  intro uu
  induction uu with
  | zero =>
    intro i τ hi hI
    obtain rfl : 98 = i := by omega
    refine R_iload_n rfl rfl ?_
    refine R_bipush (v := 98) rfl (by decide) ?_
    refine R_nicmp_ge (x := 98) (y := 98) rfl rfl (by omega) (by omega) (fun g1 => ?_) (fun z => by omega)
    exact hx τ hI
  | succ uu ih =>
    intro i τ hi hI
    refine R_iload_n rfl rfl ?_
    refine R_bipush (v := 98) rfl (by decide) ?_
    refine R_nicmp_ge (x := i) (y := 98) rfl rfl (by omega) (by omega) (fun z => by omega) (fun g1 => ?_)
    refine R_aload_n rfl rfl ?_
    refine R_gP (x := 121) rfl rfl fp_11_1 rfl ?_
    refine R_iload_n rfl rfl ?_
    refine R_aload_n rfl rfl ?_
    refine R_gP (x := 122) rfl rfl fp_11_2 rfl ?_
    refine R_iload_n rfl rfl ?_
    refine R_xL (j := i) rfl rfl rfl (by omega) (by decide) ?_
    refine R_wL (j := i) rfl rfl rfl (by omega) (by decide) ?_
    refine R_iincN (x := i) (m := 1) rfl rfl rfl (by decide) ?_
    refine R_goto rfl rfl ?_
    refine (ih (i + 1) (sL τ 121 i (τ.2.1 122 i)) (by omega) ⟨hI.1.trans (smP_sL (p := p121) rfl), fun j hj => ?_⟩).weak ⟨rfl, rfl, trivial⟩
    by_cases e : j = i
    · subst e; rw [sL_s]; exact (hI.1.1 122 _ (by unfold p121; omega)).2
    · rw [sL_o (Or.inr e)]; exact hI.2 j (by omega)
set_option maxRecDepth 100000 in
set_option maxHeartbeats 4000000 in
theorem sp_M_load_x {σ : am_G} {h w rh pn : Nat} {f v rl : am_Gr} {I : Nat → Int32} {nb : Nat} {B : List Int32} {e : Nat × Nat} (hn : nV σ h w f v rh rl pn I) (hB : iM σ nb B) (hpa : paE B nb = .inl e) : am_Call am_TX 8 0 c_M_load [.ref 120] (mm σ) (am_Ok (some (.int (-4))) (fun σ1 => smP pLd σ σ1 ∧ σ1.1 120 0 = 0 ∧ iM σ1 0 [] ∧ σ1.1 120 18 = nI e.1 ∧ σ1.1 120 19 = nI e.2)) := by
  refine ⟨mf_M_load, Nat.le_of_ble_eq_true rfl, ?_⟩
  refine R_aload_n rfl rfl ?_
  refine R_iconst (v := 0) rfl rfl ?_
  refine R_pI rfl rfl fw_11_0 rfl ?_
  refine R_aload_n rfl rfl ?_
  refine R_aload_n rfl rfl ?_
  refine R_gIN (n := nb) rfl rfl fd_11_12 ((sI_o (Or.inr (by decide))).trans hB.2.1) ?_
  refine R_pI rfl rfl fw_11_13 rfl ?_
  refine R_aload_n rfl rfl ?_
  refine R_iconst (v := 0) rfl rfl ?_
  refine R_pI rfl rfl fw_11_12 rfl ?_
  refine R_aload_n rfl rfl ?_
  refine R_iconst (v := 0) rfl rfl ?_
  refine R_pI rfl rfl fw_11_14 rfl ?_
  refine R_aload_n rfl rfl ?_
  refine R_iconst (v := 0) rfl rfl ?_
  refine R_pI rfl rfl fw_11_18 rfl ?_
  refine R_aload_n rfl rfl ?_
  refine R_iconst (v := -1) rfl rfl ?_
  refine R_pI rfl rfl fw_11_19 rfl ?_
  refine R_aload_n rfl rfl ?_
  refine R_iconst (v := 0) rfl rfl ?_
  refine R_pI rfl rfl fw_11_20 rfl ?_
  refine R_iconst (v := 0) rfl rfl ?_
  refine R_istore_n rfl (by decide) ?_
  have q0 : smP pLd σ (sI (sI (sI (sI (sI (sI (sI σ 120 0 0) 120 13 (nI nb)) 120 12 0) 120 14 0) 120 18 0) 120 19 (-1)) 120 20 0) := (((((((smP_sI (p := pLd) (by unfold pLd; omega)).trans (smP_sI (p := pLd) (by unfold pLd; omega))).trans (smP_sI (p := pLd) (by unfold pLd; omega))).trans (smP_sI (p := pLd) (by unfold pLd; omega))).trans (smP_sI (p := pLd) (by unfold pLd; omega))).trans (smP_sI (p := pLd) (by unfold pLd; omega))).trans (smP_sI (p := pLd) (by unfold pLd; omega)))
  refine (lp_mlc (σ := (sI (sI (sI (sI (sI (sI (sI σ 120 0 0) 120 13 (nI nb)) 120 12 0) 120 14 0) 120 18 0) 120 19 (-1)) 120 20 0)) (by omega) (fun τ hτ => ?_) 98 0 _ (by omega) ⟨smP.refl, fun j hj => absurd hj (Nat.not_lt_zero _)⟩).weak ⟨rfl, rfl, trivial⟩
  have hx0 : xM (sR τ 122) nb B := ⟨hB.1, (hτ.1.i (by unfold p122; omega)).trans ((sI_o (Or.inr (by decide))).trans ((sI_o (Or.inr (by decide))).trans ((sI_o (Or.inr (by decide))).trans ((sI_o (Or.inr (by decide))).trans ((sI_o (Or.inr (by decide))).trans (sI_s)))))), hB.2.2.1, fun i x e => ⟨((hτ.1.i (by unfold p122; omega)).trans (q0.i (by unfold pLd; omega))).trans (hB.2.2.2 i x e).1, (hB.2.2.2 i x e).2⟩⟩
  have hz0 : dZ (sR τ 122) 0 0 := ⟨(hτ.1.i (by unfold p122; omega)).trans ((q0.i (by unfold pLd; omega)).trans hn.2.2.2), (hτ.1.i (by unfold p122; omega)).trans (sI_s), hτ.2 0 (by omega), hτ.2 1 (by omega), fun k _ hk => hτ.2 k hk⟩
  have qA : smP pLd (sR σ 122) (sR τ 122) := ⟨(q0.trans (hτ.1.mono (fun a b z => by unfold p122 at z; unfold pLd; omega))).1, rfl⟩
  refine R_aload_n rfl rfl ?_
  refine R_aload_n rfl rfl ?_
  refine R_gP (x := 122) rfl rfl fp_11_2 rfl ?_
  refine R_pRow rfl ?_
  refine (ld_67 hx0 ((hτ.1.i (by unfold p122; omega)).trans ((sI_o (Or.inr (by decide))).trans ((sI_o (Or.inr (by decide))).trans ((sI_o (Or.inr (by decide))).trans (sI_s))))) ((hτ.1.i (by unfold p122; omega)).trans ((sI_o (Or.inr (by decide))).trans ((sI_o (Or.inr (by decide))).trans (sI_s)))) ((hτ.1.i (by unfold p122; omega)).trans ((sI_o (Or.inr (by decide))).trans (sI_s))) hz0 rfl (by omega) (fun ρ qρ hρ => ?_)).weak ⟨rfl, trivial⟩
  have qB : smP pLd σ (sR ρ 121) := sR_bk (qA.trans (qρ.mono (fun a b z => by unfold pDm at z; unfold pLd; omega))) hn.2.2.1
  have hn3 : nV (sR ρ 121) h w f v rh rl pn I := hn.fr qB (fun b => by unfold pLd; omega) (by unfold pLd; omega)
  have t3 : (sR ρ 121).1 120 0 = 0 := (qρ.i (by unfold pDm; omega)).trans ((hτ.1.i (by unfold p122; omega)).trans ((sI_o (Or.inr (by decide))).trans ((sI_o (Or.inr (by decide))).trans ((sI_o (Or.inr (by decide))).trans ((sI_o (Or.inr (by decide))).trans ((sI_o (Or.inr (by decide))).trans ((sI_o (Or.inr (by decide))).trans (sI_s))))))))
  have i3 : iM (sR ρ 121) 0 [] := ⟨rfl, (qρ.i (by unfold pDm; omega)).trans ((hτ.1.i (by unfold p122; omega)).trans ((sI_o (Or.inr (by decide))).trans ((sI_o (Or.inr (by decide))).trans ((sI_o (Or.inr (by decide))).trans ((sI_o (Or.inr (by decide))).trans (sI_s)))))), Nat.zero_le _, fun i x e => by simp at e⟩
  rw [hpa] at hρ
  refine R_aload_n rfl rfl ?_
  refine R_aload_n rfl rfl ?_
  refine R_gP (x := 121) rfl rfl fp_11_1 rfl ?_
  refine R_pRow rfl ?_
  refine R_aload_n rfl rfl ?_
  refine R_cV (as := []) rfl rfl iv_M_good (good_0 (c := e.1) (x := e.2) (show tE (sR ρ 121) e.1 e.2 from hρ)) (by omega) rfl rfl rfl (by decide) rfl rfl (Nat.le_of_ble_eq_true rfl) (fun _ q => ?_)
  obtain rfl := q.symm
  refine R_if_ne rfl rfl (fun z => absurd z (by decide)) (fun _ => ?_)
  refine R_bipush (v := -4) rfl (by decide) ?_
  exact T_ireturn rfl rfl (am_oki rfl ⟨qB, t3, i3, hρ.1, hρ.2.2⟩)
set_option maxRecDepth 100000 in
set_option maxHeartbeats 4000000 in
theorem sp_M_load {σ : am_G} {h w rh pn : Nat} {f v rl : am_Gr} {I : Nat → Int32} {n nb rt pn2 : Nat} {Hs : Nat → am_Sn} {B : List Int32} {f2 : am_Gr} {P2 : Nat → Nat} {J : Nat → Int32} (hn : nV σ h w f v rh rl pn I) (hH : mH σ n Hs) (hB : iM σ nb B) (hpa : paE B nb = .inr (f2, rt, P2, pn2)) (hJ : ∀ j, j < 8 → J j = if j < 2 then 0 else -1) (hJP : prP pn2 J P2) : am_Call am_TX 8 0 c_M_load [.ref 120] (mm σ) (am_Ok (some (.int (nI rt))) (fun σ1 => smP pLo σ σ1 ∧ σ1.1 120 0 = 0 ∧ iM σ1 0 [] ∧ σ1.1 120 18 = 0 ∧ σ1.1 120 19 = -1 ∧ mH σ1 (nxZ n) (hC (h, w, f, v, rh, rl, pn, I) Hs) ∧ nV σ1 (paH B nb) (paW B nb) f2 (fun _ _ => 0) 0 (fun _ _ => 0) pn2 J)) := by
  refine ⟨mf_M_load, Nat.le_of_ble_eq_true rfl, ?_⟩
  refine R_aload_n rfl rfl ?_
  refine R_iconst (v := 0) rfl rfl ?_
  refine R_pI rfl rfl fw_11_0 rfl ?_
  refine R_aload_n rfl rfl ?_
  refine R_aload_n rfl rfl ?_
  refine R_gIN (n := nb) rfl rfl fd_11_12 ((sI_o (Or.inr (by decide))).trans hB.2.1) ?_
  refine R_pI rfl rfl fw_11_13 rfl ?_
  refine R_aload_n rfl rfl ?_
  refine R_iconst (v := 0) rfl rfl ?_
  refine R_pI rfl rfl fw_11_12 rfl ?_
  refine R_aload_n rfl rfl ?_
  refine R_iconst (v := 0) rfl rfl ?_
  refine R_pI rfl rfl fw_11_14 rfl ?_
  refine R_aload_n rfl rfl ?_
  refine R_iconst (v := 0) rfl rfl ?_
  refine R_pI rfl rfl fw_11_18 rfl ?_
  refine R_aload_n rfl rfl ?_
  refine R_iconst (v := -1) rfl rfl ?_
  refine R_pI rfl rfl fw_11_19 rfl ?_
  refine R_aload_n rfl rfl ?_
  refine R_iconst (v := 0) rfl rfl ?_
  refine R_pI rfl rfl fw_11_20 rfl ?_
  refine R_iconst (v := 0) rfl rfl ?_
  refine R_istore_n rfl (by decide) ?_
  have q0 : smP pLd σ (sI (sI (sI (sI (sI (sI (sI σ 120 0 0) 120 13 (nI nb)) 120 12 0) 120 14 0) 120 18 0) 120 19 (-1)) 120 20 0) := (((((((smP_sI (p := pLd) (by unfold pLd; omega)).trans (smP_sI (p := pLd) (by unfold pLd; omega))).trans (smP_sI (p := pLd) (by unfold pLd; omega))).trans (smP_sI (p := pLd) (by unfold pLd; omega))).trans (smP_sI (p := pLd) (by unfold pLd; omega))).trans (smP_sI (p := pLd) (by unfold pLd; omega))).trans (smP_sI (p := pLd) (by unfold pLd; omega)))
  refine (lp_mlc (σ := (sI (sI (sI (sI (sI (sI (sI σ 120 0 0) 120 13 (nI nb)) 120 12 0) 120 14 0) 120 18 0) 120 19 (-1)) 120 20 0)) (by omega) (fun τ hτ => ?_) 98 0 _ (by omega) ⟨smP.refl, fun j hj => absurd hj (Nat.not_lt_zero _)⟩).weak ⟨rfl, rfl, trivial⟩
  have hx0 : xM (sR τ 122) nb B := ⟨hB.1, (hτ.1.i (by unfold p122; omega)).trans ((sI_o (Or.inr (by decide))).trans ((sI_o (Or.inr (by decide))).trans ((sI_o (Or.inr (by decide))).trans ((sI_o (Or.inr (by decide))).trans ((sI_o (Or.inr (by decide))).trans (sI_s)))))), hB.2.2.1, fun i x e => ⟨((hτ.1.i (by unfold p122; omega)).trans (q0.i (by unfold pLd; omega))).trans (hB.2.2.2 i x e).1, (hB.2.2.2 i x e).2⟩⟩
  have hz0 : dZ (sR τ 122) 0 0 := ⟨(hτ.1.i (by unfold p122; omega)).trans ((q0.i (by unfold pLd; omega)).trans hn.2.2.2), (hτ.1.i (by unfold p122; omega)).trans (sI_s), hτ.2 0 (by omega), hτ.2 1 (by omega), fun k _ hk => hτ.2 k hk⟩
  have qA : smP pLd (sR σ 122) (sR τ 122) := ⟨(q0.trans (hτ.1.mono (fun a b z => by unfold p122 at z; unfold pLd; omega))).1, rfl⟩
  refine R_aload_n rfl rfl ?_
  refine R_aload_n rfl rfl ?_
  refine R_gP (x := 122) rfl rfl fp_11_2 rfl ?_
  refine R_pRow rfl ?_
  refine (ld_67 hx0 ((hτ.1.i (by unfold p122; omega)).trans ((sI_o (Or.inr (by decide))).trans ((sI_o (Or.inr (by decide))).trans ((sI_o (Or.inr (by decide))).trans (sI_s))))) ((hτ.1.i (by unfold p122; omega)).trans ((sI_o (Or.inr (by decide))).trans ((sI_o (Or.inr (by decide))).trans (sI_s)))) ((hτ.1.i (by unfold p122; omega)).trans ((sI_o (Or.inr (by decide))).trans (sI_s))) hz0 rfl (by omega) (fun ρ qρ hρ => ?_)).weak ⟨rfl, trivial⟩
  have qB : smP pLd σ (sR ρ 121) := sR_bk (qA.trans (qρ.mono (fun a b z => by unfold pDm at z; unfold pLd; omega))) hn.2.2.1
  have hn3 : nV (sR ρ 121) h w f v rh rl pn I := hn.fr qB (fun b => by unfold pLd; omega) (by unfold pLd; omega)
  have t3 : (sR ρ 121).1 120 0 = 0 := (qρ.i (by unfold pDm; omega)).trans ((hτ.1.i (by unfold p122; omega)).trans ((sI_o (Or.inr (by decide))).trans ((sI_o (Or.inr (by decide))).trans ((sI_o (Or.inr (by decide))).trans ((sI_o (Or.inr (by decide))).trans ((sI_o (Or.inr (by decide))).trans ((sI_o (Or.inr (by decide))).trans (sI_s))))))))
  have i3 : iM (sR ρ 121) 0 [] := ⟨rfl, (qρ.i (by unfold pDm; omega)).trans ((hτ.1.i (by unfold p122; omega)).trans ((sI_o (Or.inr (by decide))).trans ((sI_o (Or.inr (by decide))).trans ((sI_o (Or.inr (by decide))).trans ((sI_o (Or.inr (by decide))).trans (sI_s)))))), Nat.zero_le _, fun i x e => by simp at e⟩
  rw [hpa] at hρ
  refine R_aload_n rfl rfl ?_
  refine R_aload_n rfl rfl ?_
  refine R_gP (x := 121) rfl rfl fp_11_1 rfl ?_
  refine R_pRow rfl ?_
  refine R_aload_n rfl rfl ?_
  refine R_cV (as := []) rfl rfl iv_M_good (good_1 (σ := sR ρ 121) (by obtain ⟨tt, ht⟩ := hρ.1; exact ht.2.2.2.1)) (by omega) rfl rfl rfl (by decide) rfl rfl (Nat.le_of_ble_eq_true rfl) (fun _ q => ?_)
  obtain rfl := q.symm
  refine R_if_ne rfl rfl (fun _ => ?_) (fun z => absurd z (by decide))
  refine R_aload_n rfl rfl ?_
  refine R_cV (as := []) rfl rfl iv_M_remember (sp_remember hn3 (hH.fr qB (by unfold pLd; omega) (fun b => by unfold pLd; omega))) (by omega) rfl rfl rfl (by decide) rfl rfl (Nat.le_of_ble_eq_true rfl) (fun ρ4 hρ4 => ?_)
  obtain ⟨q4, hH4⟩ := hρ4
  refine R_iconst (v := 0) rfl rfl ?_
  refine R_istore_n rfl (by decide) ?_
  refine (lp_mlk (σ := ρ4) (by omega) (fun τ5 hτ5 => ?_) 98 0 _ (by omega) ⟨smP.refl, fun j hj => absurd hj (Nat.not_lt_zero _)⟩).weak ⟨rfl, rfl, trivial⟩
  have e5 : ∀ k, k < 98 → τ5.2.1 121 k = ρ.2.1 122 k := fun k hk => (hτ5.2 k hk).trans (q4.1 122 k (by unfold pR; omega)).2
  have h5 : τ5.1 120 4 = 0 := (hτ5.1.i (by unfold p121; omega)).trans ((q4.i (by unfold pR; omega)).trans hn3.2.2.2)
  have h20 : τ5.1 120 20 = nI rt := (hτ5.1.i (by unfold p121; omega)).trans ((q4.i (by unfold pR; omega)).trans hρ.2.2.2.1.1)
  have hn5 := dM_nV hρ.2 (paE_ok hpa) hJ hJP e5 (hτ5.1.2.trans (q4.2.trans rfl)) h5
  obtain ⟨tt, ht⟩ := hρ.1
  refine R_aload_n rfl rfl ?_
  refine R_gIN (n := rt) rfl rfl fd_11_20 h20 ?_
  refine T_ireturn rfl rfl (am_oki rfl ⟨((qB.mono (q := pLo) (fun a b z => Or.inl z)).trans (q4.mono (q := pLo) (fun a b z => z.elim (fun y => Or.inr (Or.inl y)) (fun y => Or.inr (Or.inr (Or.inr y)))))).trans (hτ5.1.mono (q := pLo) (fun a b z => Or.inr (Or.inr (Or.inl z)))), (hτ5.1.i (by unfold p121; omega)).trans ((q4.i (by unfold pR; omega)).trans t3), (i3.fr q4 ⟨by unfold pR; omega, fun b => by unfold pR; omega⟩).fr hτ5.1 ⟨by unfold p121; omega, fun b => by unfold p121; omega⟩, (hτ5.1.i (by unfold p121; omega)).trans ((q4.i (by unfold pR; omega)).trans ht.2.2.2.1), (hτ5.1.i (by unfold p121; omega)).trans ((q4.i (by unfold pR; omega)).trans ht.2.2.2.2), hH4.fr hτ5.1 (by unfold p121; omega) (fun b => by unfold p121; omega), hn5⟩)
