/-! ===== the model: certify ===== -/
theorem gzN_dvd {x : Nat → Int64} : ∀ n i, i < n → gzN x n ∣ (x i).toInt.natAbs
  | 0, _, hi => absurd hi (Nat.not_lt_zero _)
  | n + 1, i, hi => by
    show Nat.gcd (gzN x n) (x n).toInt.natAbs ∣ _
    by_cases e : i = n
    · subst e; exact Nat.gcd_dvd_right _ _
    · exact Nat.dvd_trans (Nat.gcd_dvd_left _ _) (gzN_dvd n i (by omega))
theorem rlG_nz {f : am_Gr} {h w r : Nat} (hr : r < h) (hf : fSm f h w) (hh : h ≤ 6) (hw : w ≤ 6) : rlG f 0 h w r 0 r ≠ 0 := by
  obtain ⟨o1, o2, o3, o4⟩ := r0G_ok hr zdom_0 (by omega) hf hh hw
  obtain ⟨a1, a2, a3⟩ := rl_0 (k := r) hr hf hh hw
  have e6 : fdL (rwF f 0 h w r) 6 = fdL (rwF f 0 h w r) h := fdL_6 hh o2 o1
  obtain ⟨t1, t2⟩ := fdL_t (x := rwF f 0 h w r) h o2
  have hx : ¬ (rwF f 0 h w r r).toInt = 0 := by
    unfold rwF
    rw [o3]
    intro z
    exact o4 (by rw [z]; exact Int.dvd_zero _)
  have hb : (rwF f 0 h w r r).toInt.natAbs ≤ 46080000000 := o2 r hr
  obtain ⟨q, hq⟩ := gzN_dvd (x := rwF f 0 h w r) h r hr
  rw [← a3]
  rw [e6] at a1 a2 ⊢
  have ht : (fdL (rwF f 0 h w r) h).toInt = (gzN (rwF f 0 h w r) h : Int) := t1
  have hg0 : gzN (rwF f 0 h w r) h ≠ 0 := fun z => by
    rw [z, Nat.zero_mul] at hq; omega
  have hq0 : q ≠ 0 := fun z => by rw [z, Nat.mul_zero] at hq; omega
  have hqb : q ≤ 46080000000 := by
    have := Nat.le_mul_of_pos_left q (Nat.pos_of_ne_zero hg0)
    omega
  have hgb : gzN (rwF f 0 h w r) h ≤ 46080000000 := by
    have z : (fdL (rwF f 0 h w r) h).toInt.natAbs ≤ 46080000000 := t2
    rw [ht] at z; omega
  intro z
  by_cases c : rwF f 0 h w r r < 0
  · rw [if_pos c] at z
    rw [Int64.lt_iff_toInt_lt, l0] at c
    have hn : (-fdL (rwF f 0 h w r) h).toInt = -(gzN (rwF f 0 h w r) h : Int) := by
      rw [Int64.toInt_neg, ht]; exact Int.bmod_eq_of_le (by omega) (by omega)
    have hm : ((gzN (rwF f 0 h w r) h * q : Nat) : Int) = (gzN (rwF f 0 h w r) h : Int) * (q : Int) := Int.natCast_mul _ _
    have e := i64_div (v := rwF f 0 h w r r) (p := -fdL (rwF f 0 h w r) h) (D := (q : Int)) (by rw [hn]; omega) (by rw [hn, Int.neg_mul, ← hm]; omega) (by omega)
    rw [z, l0] at e
    omega
  · rw [if_neg c] at z
    rw [Int64.lt_iff_toInt_lt, l0] at c
    have hm : ((gzN (rwF f 0 h w r) h * q : Nat) : Int) = (gzN (rwF f 0 h w r) h : Int) * (q : Int) := Int.natCast_mul _ _
    have e := i64_div (v := rwF f 0 h w r r) (p := fdL (rwF f 0 h w r) h) (D := (q : Int)) (by rw [ht]; omega) (by rw [ht, ← hm]; omega) (by omega)
    rw [z, l0] at e
    omega
theorem adG_nV {σ τ : am_G} {h w rh pn : Nat} {f v rl g : am_Gr} {I : Nat → Int32} (hn : nV σ h w f v rh rl pn I) (hz : ∃ j, j < h ∧ g 0 j ≠ 0) (h6 : rh < 6) (q : smP p121 σ τ) (e1 : ∀ k, (k < 62 + 6 * rh ∨ 62 + 6 * rh + 6 ≤ k) → τ.2.1 121 k = σ.2.1 121 k) (e2 : ∀ j, j < 6 → τ.2.1 121 (62 + 6 * rh + j) = g 0 j) : nV (sL τ 121 13 (τ.2.1 121 13 + 1)) h w f v (rh + 1) (adL rl g rh h) pn I := by
  have hh6 := hn.2.1.1.1.2
  have k7 := hn.2.1.2.2.2.2.2.2
  have b := hn.1.2.2.2.2.2
  have c := hn.1.2.2.2.2.1
  have o : ∀ k, k ≠ 13 → (sL τ 121 13 (τ.2.1 121 13 + 1)).2.1 121 k = τ.2.1 121 k := fun k a => by rw [sL1, if_neg a]
  refine ⟨nL_mk hn.2.1.2.2.2.1.1 hn.1 (fun k hk => (o k (by omega)).trans (e1 k (by omega))) (fun _ _ _ => rfl) ?_ ?_ (fun j hj => (o _ (by omega)).trans ((e1 _ (by omega)).trans (b.2.1 j hj))) (fun k j hk hj => ?_), okV_mk hn.2.1 (fun _ _ _ => rfl) hn.2.1.2.2.2.2.2.1 (by omega) k7.2.1 (fun k hk => ?_), q.2.trans hn.2.2.1, (q.1 120 4 (by unfold p121; omega)).1.trans hn.2.2.2⟩
  · rw [o 10 (by omega), o 11 (by omega), o 12 (by omega), e1 10 (by omega), e1 11 (by omega), e1 12 (by omega)]; exact c
  · rw [sL1, if_pos rfl, e1 13 (by omega), b.1, nI_64s (by omega)]
  · rw [o _ (by omega)]
    unfold adL
    by_cases e : k = rh
    · subst e
      rw [if_pos ⟨rfl, hj⟩]; exact e2 j (by omega)
    · rw [if_neg (fun z => e z.1), e1 _ (by omega)]; exact b.2.2 k j (by omega) hj
  · by_cases e : k = rh
    · subst e
      obtain ⟨j, hj, hz⟩ := hz
      refine ⟨j, hj, ?_⟩
      unfold adL
      rw [if_pos ⟨rfl, hj⟩]; exact hz
    · obtain ⟨j, hj, hz⟩ := k7.2.2 k (by omega)
      refine ⟨j, hj, ?_⟩
      unfold adL
      rw [if_neg (fun z => e z.1)]; exact hz
theorem fg_nV {σ : am_G} {h w rh pn : Nat} {f v rl : am_Gr} {I : Nat → Int32} (hn : nV σ h w f v rh rl pn I) : nV (sL (sL σ 121 10 0) 121 13 0) h w f v 0 (fun _ _ => 0) pn (uJ (uJ I 2 (-1)) 3 (-1)) := by
  have k7 := hn.2.1.2.2.2.2.2.2
  have b := hn.1.2.2.2.2.2
  have h6 := hn.2.1.1.1.2
  have o : ∀ k, k ≠ 10 → k ≠ 13 → (sL (sL σ 121 10 0) 121 13 0).2.1 121 k = σ.2.1 121 k := fun k a1 a2 => by rw [sL1, if_neg a2, sL1, if_neg a1]
  refine ⟨nL_mk hn.2.1.2.2.2.1.1 hn.1 (fun k hk => o k (by omega) (by omega)) uJ_23 (Or.inl ⟨rfl, ?_⟩) ?_ (fun j hj => (o _ (by omega) (by omega)).trans (b.2.1 j hj)) (fun k j hk => absurd hk (Nat.not_lt_zero _)), okV_mk hn.2.1 uJ_23 (Or.inl ⟨rfl, rfl⟩) (Nat.zero_le _) k7.2.1 (fun k hk => absurd hk (Nat.not_lt_zero _)), hn.2.2⟩
  · rw [sL1, if_neg (by omega), sL1, if_pos rfl]
  · rw [sL1, if_pos rfl]; rfl
theorem uJ_uJ {I : Nat → Int32} {a b x y : Int32} : uJ (uJ (uJ (uJ I 2 a) 3 b) 2 x) 3 y = ceI I x y := by
  funext j
  unfold ceI uJ
  by_cases e3 : j = 3
  · rw [if_pos e3, if_pos e3]
  · rw [if_neg e3, if_neg e3, if_neg e3]
    by_cases e2 : j = 2
    · rw [if_pos e2, if_pos e2]
    · rw [if_neg e2, if_neg e2, if_neg e2]
/-- what certify touches -/
def pCe (a b : Nat) : Prop := pL a b ∨ a = 121
theorem pCe_N : ∀ a b, pCe a b → pN a b := fun a b h => by rcases h with z | z; exact pN_L a b z; exact Or.inr (Or.inl z)
theorem pCe_W : ∀ a b, pW a b → pCe a b := fun a b h => Or.inl (pL_W a b h)
theorem pCe_L : ∀ a b, pL a b → pCe a b := fun _ _ h => Or.inl h
theorem pCe_th {σ σ1 : am_G} (q : smP pCe σ σ1) {t : Int32} (h : σ.1 120 0 = t) : σ1.1 120 0 = t := (q.i (by unfold pCe pL pW pK; omega)).trans h
set_option maxRecDepth 100000 in
set_option maxHeartbeats 4000000 in
theorem lp_ce1 {ρ : am_G} {r c : Nat} {X : Nat → Int64} {d k0 : Nat} {Q : am_Res → Prop} (h121 : ρ.2.2 = 121) (h13 : ρ.2.1 121 13 = (nI c).toInt64) (hc6 : c < 6) (hxv : xV ρ X) (hd : 1 ≤ d) (hx : ∀ (τ : am_G), (smP p121 ρ τ ∧ (∀ k, (k < 62 + 6 * c ∨ 62 + 6 * c + 6 ≤ k) → τ.2.1 121 k = ρ.2.1 121 k) ∧ ∀ j, j < 6 → τ.2.1 121 (62 + 6 * c + j) = X j) → am_R am_TX d k0 c_M_certify 96 [some (.ref 120), some (.int (nI r)), some (.int (nI 6))] [] (mm τ) Q) : ∀ (uu i : Nat) (τ : am_G), i + uu = 6 → (smP p121 ρ τ ∧ (∀ k, (k < 62 + 6 * c ∨ 62 + 6 * c + i ≤ k) → τ.2.1 121 k = ρ.2.1 121 k) ∧ ∀ j, j < i → τ.2.1 121 (62 + 6 * c + j) = X j) → am_R am_TX d k0 c_M_certify 59 [some (.ref 120), some (.int (nI r)), some (.int (nI i))] [] (mm τ) Q := by
  intro uu
  induction uu with
  | zero =>
    intro i τ hi hI
    obtain rfl : 6 = i := by omega
    refine R_iload_n rfl rfl ?_
    refine R_bipush (v := 6) rfl (by decide) ?_
    refine R_nicmp_ge (x := 6) (y := 6) rfl rfl (by omega) (by omega) (fun g1 => ?_) (fun z => by omega)
    exact hx τ hI
  | succ uu ih =>
    intro i τ hi hI
    refine R_iload_n rfl rfl ?_
    refine R_bipush (v := 6) rfl (by decide) ?_
    refine R_nicmp_ge (x := i) (y := 6) rfl rfl (by omega) (by omega) (fun z => by omega) (fun g1 => ?_)
    refine R_aload_n rfl rfl ?_
    refine R_gP (x := 121) rfl rfl fp_11_1 rfl ?_
    refine R_bipush (v := 62) rfl (by decide) ?_
    refine R_bipush (v := 6) rfl (by decide) ?_
    refine R_aload_n rfl rfl ?_
    refine R_bipush (v := 13) rfl (by decide) ?_
    refine R_cV (as := [.int 13]) rfl rfl iv_M_get (mgr (j := 13) (hI.1.2.trans h121) (by omega) ((hI.2.1 13 (by omega)).trans h13)) (by omega) rfl rfl rfl (by decide) rfl rfl (Nat.le_of_ble_eq_true rfl) (fun _ q => ?_)
    obtain rfl := q.symm
    refine R_imulN (x := 6) (y := c) rfl ?_
    refine R_iaddN (x := 62) (y := (6 * c)) rfl ?_
    refine R_iload_n rfl rfl ?_
    refine R_iaddN (x := (62 + (6 * c))) (y := i) rfl ?_
    refine R_aload_n rfl rfl ?_
    refine R_gP (x := 125) rfl rfl fp_11_10 rfl ?_
    refine R_iload_n rfl rfl ?_
    refine R_xL (j := i) rfl rfl rfl (by omega) (by decide) ?_
    refine R_wL (j := ((62 + (6 * c)) + i)) rfl rfl rfl (by omega) (by decide) ?_
    refine R_iincN (x := i) (m := 1) rfl rfl rfl (by decide) ?_
    refine R_goto rfl rfl ?_
    refine (ih (i + 1) (sL τ 121 ((62 + (6 * c)) + i) (τ.2.1 125 i)) (by omega) ⟨hI.1.trans (smP_sL (p := p121) rfl), fun k hk => ?_, fun j hj => ?_⟩).weak ⟨rfl, rfl, rfl, trivial⟩
    · rw [sL1, if_neg (by omega)]; exact hI.2.1 k (by omega)
    · rw [sL1]
      by_cases e : j = i
      · subst e; rw [if_pos rfl]; exact ((hI.1.1 125 _ (by unfold p121; omega)).2).trans (hxv j (by omega))
      · rw [if_neg (by omega)]; exact hI.2.2 j (by omega)
set_option maxRecDepth 100000 in
set_option maxHeartbeats 4000000 in
theorem lp_ce0 {σ : am_G} {h w pn : Nat} {f v : am_Gr} {I : Nat → Int32} {d k0 : Nat} {Q : am_Res → Prop} (hs : fSm f h w) (hh6 : h ≤ 6) (hw6 : w ≤ 6) (hd : 13 ≤ d) (hx : ∀ (τ : am_G), (smP pCe σ τ ∧ nV τ h w f v (ceN (prR f 0 h w h) h) (ceL f h w (prR f 0 h w h) h) pn (ceI I (nI (prR f 0 h w h)) (nI (prC f 0 (2 ^ h - 1) h w w)))) → am_R am_TX d k0 c_M_certify 113 [some (.ref 120), some (.int (nI h)), none] [] (mm τ) Q) : ∀ (uu i : Nat) (τ : am_G), i + uu = h → (smP pCe σ τ ∧ nV τ h w f v (ceN (prR f 0 h w h) i) (ceL f h w (prR f 0 h w h) i) pn (ceI I (nI (prR f 0 h w h)) (nI (prC f 0 (2 ^ h - 1) h w w)))) → am_R am_TX d k0 c_M_certify 37 [some (.ref 120), some (.int (nI i)), none] [] (mm τ) Q := by
  intro uu
  induction uu with
  | zero =>
    intro i τ hi hI
    obtain rfl : h = i := by omega
    refine R_iload_n rfl rfl ?_
    refine R_aload_n rfl rfl ?_
    refine R_cV (as := []) rfl rfl iv_M_rows (sp_rows hI.2.toV) (by omega) rfl rfl rfl (by decide) rfl rfl (Nat.le_of_ble_eq_true rfl) (fun _ q => ?_)
    obtain rfl := q.symm
    refine R_nicmp_ge (x := h) (y := h) rfl rfl (by omega) (by omega) (fun g1 => ?_) (fun z => by omega)
    exact hx τ hI
  | succ uu ih =>
    intro i τ hi hI
    refine R_iload_n rfl rfl ?_
    refine R_aload_n rfl rfl ?_
    refine R_cV (as := []) rfl rfl iv_M_rows (sp_rows hI.2.toV) (by omega) rfl rfl rfl (by decide) rfl rfl (Nat.le_of_ble_eq_true rfl) (fun _ q => ?_)
    obtain rfl := q.symm
    refine R_nicmp_ge (x := i) (y := h) rfl rfl (by omega) (by omega) (fun z => by omega) (fun g1 => ?_)
    refine R_aload_n rfl rfl ?_
    refine R_iconst (v := 0) rfl rfl ?_
    refine R_iload_n rfl rfl ?_
    by_cases g2 : (prR f 0 h w h).testBit i = true
    · refine R_cV (as := [.int 0, .int (nI i)]) rfl rfl iv_M_layRelation (lay_0 (m := 0) (r := i) hI.2.toV hs (show (0 : Nat) ∈ mdL by decide) (by omega) g2) (by omega) rfl rfl rfl (by decide) rfl rfl (Nat.le_of_ble_eq_true rfl) (fun ρ hρ => ?_)
      refine R_if_ne rfl rfl (fun z => absurd z (by decide)) (fun _ => ?_)
      refine R_goto rfl rfl ?_
      refine R_iincN (x := i) (m := 1) rfl rfl rfl (by decide) ?_
      refine R_goto rfl rfl ?_
      have en : ceN (prR f 0 h w h) (i + 1) = ceN (prR f 0 h w h) i := by simp only [ceN]; exact if_pos g2
      have el : ceL f h w (prR f 0 h w h) (i + 1) = ceL f h w (prR f 0 h w h) i := by simp only [ceL]; exact if_pos g2
      exact (ih (i + 1) ρ (by omega) ⟨hI.1.trans (hρ.mono pCe_L), by rw [en, el]; exact hI.2.fr hρ (fun b => by unfold pL pW pK; omega) (by unfold pL pW pK; omega)⟩).weak ⟨rfl, rfl, trivial⟩
    · refine R_cV (as := [.int 0, .int (nI i)]) rfl rfl iv_M_layRelation (lay_1 (m := 0) (r := i) hI.2.toV hs (show (0 : Nat) ∈ mdL by decide) (by omega) g2) (by omega) rfl rfl rfl (by decide) rfl rfl (Nat.le_of_ble_eq_true rfl) (fun ρ hρ => ?_)
      obtain ⟨hρ, hx⟩ := hρ
      refine R_if_ne rfl rfl (fun _ => ?_) (fun z => absurd z (by decide))
      refine R_iconst (v := 0) rfl rfl ?_
      refine R_istore_n rfl (by decide) ?_
      have hcn := @ceN_le (prR f 0 h w h) i
      have hnr : nV ρ h w f v (ceN (prR f 0 h w h) i) (ceL f h w (prR f 0 h w h) i) pn (ceI I (nI (prR f 0 h w h)) (nI (prC f 0 (2 ^ h - 1) h w w))) := hI.2.fr hρ (fun b => by unfold pL pW pK; omega) (by unfold pL pW pK; omega)
      refine (lp_ce1 (ρ := ρ) (r := i) (c := (ceN (prR f 0 h w h) i)) hnr.2.2.1 hnr.1.2.2.2.2.2.1 (by omega) hx (by omega) (fun τ1 hτ1 => ?_) 6 0 ρ (by omega) ⟨smP.refl, fun k _ => rfl, fun j hj => absurd hj (Nat.not_lt_zero _)⟩).weak ⟨rfl, rfl, rfl, trivial⟩
      have hn2 := adG_nV (g := rlG f 0 h w i) hnr ⟨i, by omega, rlG_nz (by omega) hs hh6 hw6⟩ (by omega) hτ1.1 hτ1.2.1 hτ1.2.2
      refine R_aload_n rfl rfl ?_
      refine R_gP (x := 121) rfl rfl fp_11_1 rfl ?_
      refine R_bipush (v := 13) rfl (by decide) ?_
      refine R_dup2 rfl rfl rfl ?_
      refine R_xL (j := 13) rfl rfl rfl (by omega) (by decide) ?_
      refine R_lconst (v := 1) rfl rfl ?_
      refine R_ladd rfl ?_
      refine R_wL (j := 13) rfl rfl rfl (by omega) (by decide) ?_
      refine R_iincN (x := i) (m := 1) rfl rfl rfl (by decide) ?_
      refine R_goto rfl rfl ?_
      have en : ceN (prR f 0 h w h) (i + 1) = ceN (prR f 0 h w h) i + 1 := by simp only [ceN]; exact if_neg g2
      have el : ceL f h w (prR f 0 h w h) (i + 1) = adL (ceL f h w (prR f 0 h w h) i) (rlG f 0 h w i) (ceN (prR f 0 h w h) i) h := by simp only [ceL]; exact if_neg g2
      exact (ih (i + 1) (sL τ1 121 13 ((τ1.2.1 121 13) + 1)) (by omega) ⟨((hI.1.trans (hρ.mono pCe_L)).trans (hτ1.1.mono (fun a b z => Or.inr z))).trans (smP_sL (p := pCe) (Or.inr rfl)), by rw [en, el]; exact hn2⟩).weak ⟨rfl, rfl, trivial⟩
set_option maxRecDepth 100000 in
set_option maxHeartbeats 4000000 in
theorem ch_certify {σ : am_G} {h w rh pn : Nat} {f v rl : am_Gr} {I : Nat → Int32} {d k0 : Nat} (hn : nV σ h w f v rh rl pn I) (t0 : σ.1 120 0 = 0) (hd : 15 ≤ d) : am_R am_TX d k0 c_M_certify 9 [some (.ref 120), none, none] [] (mm σ) (am_Ok (some (.int (nI (pc (prR f 0 h w h))))) (fun σ1 => smP pN σ σ1 ∧ σ1.1 120 0 = 0 ∧ nVD σ1 (h, w, f, v, (ceN (prR f 0 h w h) h), (ceL f h w (prR f 0 h w h) h), pn, (ceI I (nI (prR f 0 h w h)) (nI (prC f 0 (2 ^ h - 1) h w w)))))) := by
  have hv := hn.toV
  have hs := hn.2.1.2.1
  have hh1 := hv.1.1.1
  have hh6 := hv.1.1.2
  have hw1 := hv.1.2.1
  have hw6 := hv.1.2.2
  have hp6 := hn.2.1.2.2.2.1.1
  have hr6 := hn.2.1.2.2.2.2.2.2.1
  have hs7 := lw_lt hh6
  have ws7 := lw_lt hw6
  have hpp : pc (prR f 0 h w h) = pc (prC f 0 (2 ^ h - 1) h w w) := (prR_rk zdom_0 (by omega) hs hh6 hw6 h (Nat.le_refl _)).1.trans (prC_rk hs7 zdom_0 (by omega) hs hh6 hw6 w (Nat.le_refl _)).1.symm
  refine R_aload_n rfl rfl ?_
  refine R_cV (as := []) rfl rfl iv_M_forgetCertificate (sp_mforget) (by omega) rfl rfl rfl (by decide) rfl rfl (Nat.le_of_ble_eq_true rfl) (fun _ q => ?_)
  obtain rfl := q.symm
  refine R_aload_n rfl rfl ?_
  refine R_aload_n rfl rfl ?_
  refine R_iconst (v := 0) rfl rfl ?_
  refine R_aload_n rfl rfl ?_
  refine R_cV (as := []) rfl rfl iv_M_allColumns (sp_mallColumns (fg_nV hn).toV) (by omega) rfl rfl rfl (by decide) rfl rfl (Nat.le_of_ble_eq_true rfl) (fun _ q => ?_)
  obtain rfl := q.symm
  refine R_cV (as := [.int 0, .int (nI (2 ^ w - 1))]) rfl rfl iv_M_profileOfRows (sp_mprofileOfRows (m := 0) (fg_nV hn).toV hs zdom_0 (by omega)) (by omega) rfl rfl rfl (by decide) rfl rfl (Nat.le_of_ble_eq_true rfl) (fun τa hτa => ?_)
  have hna := nV_W hτa (fg_nV hn)
  refine R_aload_n rfl rfl ?_
  refine R_iconst (v := 0) rfl rfl ?_
  refine R_aload_n rfl rfl ?_
  refine R_cV (as := []) rfl rfl iv_M_allRows (sp_mallRows hna.toV) (by omega) rfl rfl rfl (by decide) rfl rfl (Nat.le_of_ble_eq_true rfl) (fun _ q => ?_)
  obtain rfl := q.symm
  refine R_cV (as := [.int 0, .int (nI (2 ^ h - 1))]) rfl rfl iv_M_profileOfColumns (sp_mprofileOfColumns (m := 0) (S := 2 ^ h - 1) hna.toV hs zdom_0 (by omega) hs7) (by omega) rfl rfl rfl (by decide) rfl rfl (Nat.le_of_ble_eq_true rfl) (fun τb hτb => ?_)
  have hnb := nV_W hτb hna
  have hnc := clm_nV (S := (prR f 0 h w h)) (T := (prC f 0 (2 ^ h - 1) h w w)) hnb (prR_lt2 h) (prC_lt2 w) hpp
  rw [uJ_uJ] at hnc
  refine R_cV (as := [.int (nI (prR f 0 h w h)), .int (nI (prC f 0 (2 ^ h - 1) h w w))]) rfl rfl iv_M_layClaim (sp_layClaim (x := (nI (prR f 0 h w h))) (y := (nI (prC f 0 (2 ^ h - 1) h w w)))) (by omega) rfl rfl rfl (by decide) rfl rfl (Nat.le_of_ble_eq_true rfl) (fun _ q => ?_)
  obtain rfl := q.symm
  refine R_iconst (v := 0) rfl rfl ?_
  refine R_istore_n rfl (by decide) ?_
  refine (lp_ce0 (σ := σ) hs hh6 hw6 (by omega) (fun τ hτ => ?_) h 0 (sL (sL (sL τb 121 10 1) 121 11 (nI (prR f 0 h w h)).toInt64) 121 12 (nI (prC f 0 (2 ^ h - 1) h w w)).toInt64) (by omega) ⟨(((((smP_sL (p := pCe) (Or.inr rfl)).trans (smP_sL (p := pCe) (Or.inr rfl))).trans (hτa.mono pCe_W)).trans (hτb.mono pCe_W)).trans (((smP_sL (p := pCe) (Or.inr rfl)).trans (smP_sL (p := pCe) (Or.inr rfl))).trans (smP_sL (p := pCe) (Or.inr rfl)))), hnc⟩).weak ⟨rfl, rfl, trivial⟩
  refine R_aload_n rfl rfl ?_
  refine R_iconst (v := 0) rfl rfl ?_
  refine R_cV (as := [.int 0]) rfl rfl iv_M_rankAll (sp_rankAll (m := 0) hτ.2.toV hs (by omega)) (by omega) rfl rfl rfl (by decide) rfl rfl (Nat.le_of_ble_eq_true rfl) (fun ρ9 hρ9 => ?_)
  exact T_ireturn rfl rfl (am_oki (congrArg nI (prR_rk zdom_0 (by omega) hs hh6 hw6 h (Nat.le_refl _)).1).symm ⟨(hτ.1.mono pCe_N).trans (hρ9.mono pN_W), (hρ9.i (by unfold pW; omega)).trans (pCe_th hτ.1 t0), nV_W hρ9 hτ.2⟩)
set_option maxRecDepth 100000 in
set_option maxHeartbeats 4000000 in
theorem sp_M_certify {σ : am_G} {h w rh pn : Nat} {f v rl : am_Gr} {I : Nat → Int32} {n : Nat} {Hs : Nat → am_Sn} (hn : nV σ h w f v rh rl pn I) (hH : mH σ n Hs) : am_Call am_TX 16 0 c_M_certify [.ref 120] (mm σ) (am_Ok (some (.int (nI (pc (prR f 0 h w h))))) (fun σ1 => smP pC σ σ1 ∧ σ1.1 120 0 = 0 ∧ nVD σ1 (h, w, f, v, (ceN (prR f 0 h w h) h), (ceL f h w (prR f 0 h w h) h), pn, (ceI I (nI (prR f 0 h w h)) (nI (prC f 0 (2 ^ h - 1) h w w)))) ∧ mH σ1 (nxZ n) (hC (h, w, f, v, rh, rl, pn, I) Hs))) := by
  have hv := hn.toV
  have hs := hn.2.1.2.1
  have hh1 := hv.1.1.1
  have hh6 := hv.1.1.2
  have hw1 := hv.1.2.1
  have hw6 := hv.1.2.2
  have hp6 := hn.2.1.2.2.2.1.1
  have hr6 := hn.2.1.2.2.2.2.2.2.1
  have hs7 := lw_lt hh6
  have ws7 := lw_lt hw6
  refine ⟨mf_M_certify, Nat.le_of_ble_eq_true rfl, ?_⟩
  refine R_aload_n rfl rfl ?_
  refine R_iconst (v := 0) rfl rfl ?_
  refine R_pI rfl rfl fw_11_0 rfl ?_
  refine R_aload_n rfl rfl ?_
  refine R_cV (as := []) rfl rfl iv_M_remember (sp_remember (hn.fr (smP_sI (p := pQ) (k := 120) (j := 0) (x := 0) (by unfold pQ; omega)) (fun b => by unfold pQ; omega) (by unfold pQ; omega)) (hH.fr (smP_sI (p := pQ) (k := 120) (j := 0) (x := 0) (by unfold pQ; omega)) (by unfold pQ; omega) (fun b => by unfold pQ; omega))) (by omega) rfl rfl rfl (by decide) rfl rfl (Nat.le_of_ble_eq_true rfl) (fun ρ hρ => ?_)
  obtain ⟨hρ, hρH⟩ := hρ
  exact ((ch_certify (pR_f hρ (hn.fr (smP_sI (p := pQ) (k := 120) (j := 0) (x := 0) (by unfold pQ; omega)) (fun b => by unfold pQ; omega) (by unfold pQ; omega)))  ((hρ.i (by unfold pR; omega)).trans sI_s) (by omega)).mono (am_Ok.mono (fun τ e => ⟨(ch_end (smP_sI (p := pQ) (k := 120) (j := 0) (x := 0) (by unfold pQ; omega)) hρ hρH e.1).1, e.2.1, e.2.2, (ch_end (smP_sI (p := pQ) (k := 120) (j := 0) (x := 0) (by unfold pQ; omega)) hρ hρH e.1).2⟩))).weak ⟨rfl, trivial⟩
