/-! ===== the model loads ===== -/
def tkA (n : Nat) (t : am_T) : Prop := t.1 ≤ t.2.1 ∧ t.1 ≤ n ∧ (t.2.2.1 ≠ 0 → t.1 < t.2.1 ∧ t.1 < n)
theorem tkF_A {cap n e : Nat} {B : List Int32} (h : e ≤ n) : tkA n (tkF cap B n e) ∧ e ≤ (tkF cap B n e).1 := by
  have h1 := nxS_le (B := B) h
  have h2 : e ≤ nxS B n e := @skF_ge isBb B (n - e) e
  unfold tkF
  by_cases c1 : nxS B n e < n
  · rw [if_pos c1]
    have hs : ∀ p : Int32 → Bool, p (ibA B (nxS B n e)) = true → nxS B n e < skF p B (n - nxS B n e) (nxS B n e) := fun p hp => by
      obtain ⟨u, hu⟩ : ∃ u, n - nxS B n e = u + 1 := ⟨n - nxS B n e - 1, by omega⟩
      rw [hu]
      simp only [skF]
      rw [if_pos hp]
      have := @skF_ge p B u (nxS B n e + 1)
      omega
    by_cases c2 : isLb (ibA B (nxS B n e)) = true
    · rw [if_pos c2]
      have := hs isLb c2
      exact ⟨⟨Nat.le_of_lt this, h1, fun _ => ⟨this, c1⟩⟩, h2⟩
    · rw [if_neg c2]
      by_cases c3 : isDb (ibA B (nxS B n e)) = true
      · rw [if_pos c3]
        have := hs isDb c3
        exact ⟨⟨Nat.le_of_lt this, h1, fun _ => ⟨this, c1⟩⟩, h2⟩
      · rw [if_neg c3]
        exact ⟨⟨Nat.le_succ _, h1, fun _ => ⟨Nat.lt_succ_self _, c1⟩⟩, h2⟩
  · rw [if_neg c1]
    exact ⟨⟨Nat.le_refl _, h1, fun z => absurd rfl z⟩, h2⟩
theorem nx_A {n : Nat} {B : List Int32} {t : am_T} (hb : tkB n t) (ha : tkA n t) : tkA n (nx B n t) ∧ t.1 ≤ (nx B n t).1 := by
  obtain ⟨a, b⟩ := @tkF_A 1000 n t.2.1 B hb.2.2.2
  exact ⟨a, Nat.le_trans ha.1 b⟩
theorem eT_A {n : Nat} {B : List Int32} {t : am_T} (hb : tkB n t) (ha : tkA n t) : tkA n (eT B n t) ∧ t.1 ≤ (eT B n t).1 := by
  unfold eT
  by_cases c : isSy B 45 t
  · rw [if_pos c]; exact nx_A hb ha
  · rw [if_neg c]; exact ⟨ha, Nat.le_refl _⟩
theorem rS_A {n : Nat} {B : List Int32} {t0 : am_T} (hb : tkB n t0) (ha : tkA n t0) : ∀ j, tkA n (rS B n t0 j) ∧ t0.1 ≤ (rS B n t0 j).1
  | 0 => ⟨ha, Nat.le_refl _⟩
  | j + 1 => by
    obtain ⟨a, b⟩ := rS_A hb ha j
    have b0 := rS_b (B := B) hb j
    obtain ⟨c, d⟩ := eT_A (B := B) b0 a
    obtain ⟨e, f⟩ := nx_A (B := B) (eT_b b0) c
    obtain ⟨g, h⟩ := nx_A (B := B) (nx_b (eT_b b0)) e
    exact ⟨g, by show t0.1 ≤ (nx B n (nx B n (eT B n (rS B n t0 j)))).1; omega⟩
theorem nx_adv {n : Nat} {B : List Int32} {t : am_T} (hb : tkB n t) (ha : tkA n t) (hk : t.2.2.1 ≠ 0) : t.1 + 1 ≤ (nx B n t).1 := by
  have b := (@tkF_A 1000 n t.2.1 B hb.2.2.2).2
  have a := (ha.2.2 hk).1
  exact Nat.le_trans a b
theorem rE_n1 {B : List Int32} {n w : Nat} {t0 : am_T} (hw : 1 ≤ w) (h : rwM B n t0 w 0 = none) (s : isSy B 59 (mS B n t0 w)) : rE B n w t0 w 0 = none := by
  obtain ⟨v, rfl⟩ : ∃ v, w = v + 1 := ⟨w - 1, by omega⟩
  rw [rw_rE v 0 (by omega) (Or.inl rfl), h]
  exact if_pos s
theorem rE_n0 {B : List Int32} {n w : Nat} {t0 : am_T} (hw : 1 ≤ w) (h : rwM B n t0 w 0 = none) (s : ¬ isSy B 59 (mS B n t0 w)) : rE B n w t0 w 0 = some (1, (mS B n t0 w).1) := by
  obtain ⟨v, rfl⟩ : ∃ v, w = v + 1 := ⟨w - 1, by omega⟩
  rw [rw_rE v 0 (by omega) (Or.inl rfl), h]
  exact if_neg s
theorem rE_s {B : List Int32} {n w : Nat} {t0 : am_T} {e : Nat × Nat} (hw : 1 ≤ w) (h : rwM B n t0 w 0 = some e) : rE B n w t0 w 0 = some e := by
  obtain ⟨v, rfl⟩ : ∃ v, w = v + 1 := ⟨w - 1, by omega⟩
  rw [rw_rE v 0 (by omega) (Or.inl rfl), h]
theorem pm_n1 {B : List Int32} {n pn : Nat} {P : Nat → Nat} {t : am_T} (h : pmM B n P pn t = none) (s : isSy B 59 (nx B n (nx B n t))) : pmE B n P pn t = none := by
  rw [pm_pm, h]; exact if_pos s
theorem pm_n0 {B : List Int32} {n pn : Nat} {P : Nat → Nat} {t : am_T} (h : pmM B n P pn t = none) (s : ¬ isSy B 59 (nx B n (nx B n t))) : pmE B n P pn t = some (1, (nx B n (nx B n t)).1) := by
  rw [pm_pm, h]; exact if_neg s
theorem pm_s {B : List Int32} {n pn : Nat} {P : Nat → Nat} {t : am_T} {e : Nat × Nat} (h : pmM B n P pn t = some e) : pmE B n P pn t = some e := by
  rw [pm_pm, h]
theorem opt_ne {r : Option (Nat × Nat)} (h : ¬ r = none) : ∃ e, r = some e := by
  cases r with
  | none => exact absurd rfl h
  | some e => exact ⟨e, rfl⟩
section AMPR
variable {B : List Int32} {n h w u rt pn : Nat} {t : am_T} {f : am_Gr} {P : Nat → Nat} {e : Nat × Nat}
theorem prE_z (hk : t.2.2.1 = 0) : ∀ u, prE B n h w u t f rt P pn = .inr (f, rt, P, pn)
  | 0 => rfl
  | _ + 1 => if_pos hk
theorem prE_r1 (hk : ¬ t.2.2.1 = 0) (hw : isWd B wRo t) (hr : rt < h) (he : rE B n w (nx B n t) w 0 = none) : prE B n h w (u + 1) t f rt P pn = prE B n h w u (rS B n (nx B n t) w) (rF B n f rt (nx B n t) w) (rt + 1) P pn := by
  simp only [prE]
  rw [if_neg hk, if_pos hw, if_pos hr, he]
theorem prE_r0 (hk : ¬ t.2.2.1 = 0) (hw : isWd B wRo t) (hr : rt < h) (he : rE B n w (nx B n t) w 0 = some e) : prE B n h w (u + 1) t f rt P pn = .inl e := by
  simp only [prE]
  rw [if_neg hk, if_pos hw, if_pos hr, he]
theorem prE_rh (hk : ¬ t.2.2.1 = 0) (hw : isWd B wRo t) (hr : ¬ rt < h) : prE B n h w (u + 1) t f rt P pn = .inl (5, t.1) := by
  simp only [prE]
  rw [if_neg hk, if_pos hw, if_neg hr]
theorem prE_p1 (hk : ¬ t.2.2.1 = 0) (hw : ¬ isWd B wRo t) (hp : isWd B wPr t) (h6 : pn < 6) (he : pmE B n P pn t = none) : prE B n h w (u + 1) t f rt P pn = prE B n h w u (nx B n (nx B n (nx B n t))) f rt (fun j => if j = pn then (nx B n t).2.2.2 else P j) (pn + 1) := by
  simp only [prE]
  rw [if_neg hk, if_neg hw, if_pos hp, if_pos h6, he]
theorem prE_p0 (hk : ¬ t.2.2.1 = 0) (hw : ¬ isWd B wRo t) (hp : isWd B wPr t) (h6 : pn < 6) (he : pmE B n P pn t = some e) : prE B n h w (u + 1) t f rt P pn = .inl e := by
  simp only [prE]
  rw [if_neg hk, if_neg hw, if_pos hp, if_pos h6, he]
theorem prE_p6 (hk : ¬ t.2.2.1 = 0) (hw : ¬ isWd B wRo t) (hp : isWd B wPr t) (h6 : ¬ pn < 6) : prE B n h w (u + 1) t f rt P pn = .inl (5, t.1) := by
  simp only [prE]
  rw [if_neg hk, if_neg hw, if_pos hp, if_neg h6]
theorem prE_o (hk : ¬ t.2.2.1 = 0) (hw : ¬ isWd B wRo t) (hp : ¬ isWd B wPr t) : prE B n h w (u + 1) t f rt P pn = .inl (1, t.1) := by
  simp only [prE]
  rw [if_neg hk, if_neg hw, if_neg hp]
end AMPR
/-- behind the text -/
def ldP (n : Nat) (B : List Int32) (h w : Nat) (r : am_Tr) (σ1 : am_G) : Prop := match r with
  | .inl e => tE σ1 e.1 e.2
  | .inr D => (∃ t, tG σ1 n B t) ∧ dM σ1 h w D.1 D.2.1 D.2.2.1 D.2.2.2
set_option maxRecDepth 100000 in
set_option maxHeartbeats 4000000 in
theorem ld_b {τ : am_G} {c x d k0 : Nat} {Q : am_Res → Prop} (he : tE τ c x) (hd : 1 ≤ d) (hx : am_R am_TX d k0 c_M_load 143 [some (.ref 120), none] [] (mm τ) Q) : am_R am_TX d k0 c_M_load 81 [some (.ref 120), none] [] (mm τ) Q := by
  refine R_aload_n rfl rfl ?_
  refine R_cV (as := []) rfl rfl iv_M_good (good_0 he) (by omega) rfl rfl rfl (by decide) rfl rfl (Nat.le_of_ble_eq_true rfl) (fun _ q => ?_)
  obtain rfl := q.symm
  refine R_if_eq rfl rfl (fun _ => ?_) (fun z => absurd z (by decide))
  exact hx
set_option maxRecDepth 100000 in
set_option maxHeartbeats 4000000 in
theorem lp_mld {σ : am_G} {n h w : Nat} {B : List Int32} {d k0 : Nat} {Q : am_Res → Prop} (hd : 7 ≤ d) : ∀ (uu : Nat) (t : am_T) (f : am_Gr) (rt : Nat) (P : Nat → Nat) (pn : Nat) (τ : am_G), tkA n t → (smP pDm σ τ ∧ tG τ n B t ∧ dM τ h w f rt P pn ∧ n ≤ uu + t.1) → (∀ ρ, smP pDm σ ρ → ldP n B h w (prE B n h w uu t f rt P pn) ρ → am_R am_TX d k0 c_M_load 143 [some (.ref 120), none] [] (mm ρ) Q) → am_R am_TX d k0 c_M_load 81 [some (.ref 120), none] [] (mm τ) Q := by
  intro uu
  induction uu with
  | zero =>
    intro t f rt P pn τ hA hI hx
    have hk0 : t.2.2.1 = 0 := Classical.byContradiction (fun z => by have := hA.2.2 z; have := hI.2.2.2; omega)
    have hb1 := hI.2.1.2.1.1
    refine R_aload_n rfl rfl ?_
    refine R_cV (as := []) rfl rfl iv_M_good (good_1 hI.2.1.2.2.2.1) (by omega) rfl rfl rfl (by decide) rfl rfl (Nat.le_of_ble_eq_true rfl) (fun _ q => ?_)
    obtain rfl := q.symm
    refine R_if_eq rfl rfl (fun z => absurd z (by decide)) (fun _ => ?_)
    refine R_aload_n rfl rfl ?_
    refine R_gIN (n := t.2.2.1) rfl rfl fd_11_16 hI.2.1.2.2.1.2.2.1 ?_
    refine R_nif_eq (x := t.2.2.1) rfl rfl (by omega) (fun g1 => ?_) (fun z => by omega)
    exact hx τ hI.1 (by rw [prE_z g1]; exact ⟨⟨t, hI.2.1⟩, hI.2.2.1⟩)
  | succ uu ih =>
    intro t f rt P pn τ hA hI hx
    obtain ⟨⟨hh1, hh6⟩, hw1, hw6⟩ := hI.2.2.1.1
    have hrh := hI.2.2.1.2.2.1.2
    have hp6 := hI.2.2.1.2.2.2.2.1.2.1
    have hb1 := hI.2.1.2.1.1
    refine R_aload_n rfl rfl ?_
    refine R_cV (as := []) rfl rfl iv_M_good (good_1 hI.2.1.2.2.2.1) (by omega) rfl rfl rfl (by decide) rfl rfl (Nat.le_of_ble_eq_true rfl) (fun _ q => ?_)
    obtain rfl := q.symm
    refine R_if_eq rfl rfl (fun z => absurd z (by decide)) (fun _ => ?_)
    refine R_aload_n rfl rfl ?_
    refine R_gIN (n := t.2.2.1) rfl rfl fd_11_16 hI.2.1.2.2.1.2.2.1 ?_
    refine R_nif_eq (x := t.2.2.1) rfl rfl (by omega) (fun g1 => ?_) (fun g1 => ?_)
    · exact hx τ hI.1 (by rw [prE_z g1]; exact ⟨⟨t, hI.2.1⟩, hI.2.2.1⟩)
    · refine R_aload_n rfl rfl ?_
      refine R_ldcSW (i := 25) rfl (List.mem_of_getElem? (i := 25) rfl) ?_
      refine R_cV (as := [.ref (1000 + 25)]) rfl rfl iv_M_isText (sp_isText hI.2.1 am_SLr) (by omega) rfl rfl rfl (by decide) rfl rfl (Nat.le_of_ble_eq_true rfl) (fun _ q => ?_)
      obtain rfl := q.symm
      refine R_zif_eq rfl rfl (fun g2 => ?_) (fun g2 => ?_)
      · refine R_aload_n rfl rfl ?_
        refine R_ldcSW (i := 26) rfl (List.mem_of_getElem? (i := 26) rfl) ?_
        refine R_cV (as := [.ref (1000 + 26)]) rfl rfl iv_M_isText (sp_isText hI.2.1 am_SLp) (by omega) rfl rfl rfl (by decide) rfl rfl (Nat.le_of_ble_eq_true rfl) (fun _ q => ?_)
        obtain rfl := q.symm
        refine R_zif_eq rfl rfl (fun g3 => ?_) (fun g3 => ?_)
        · refine R_aload_n rfl rfl ?_
          refine R_iconst (v := 1) rfl rfl ?_
          refine R_cV (as := [.int 1]) rfl rfl iv_M_errs (errs_g (c := 1) hI.2.1) (by omega) rfl rfl rfl (by decide) rfl rfl (Nat.le_of_ble_eq_true rfl) (fun _ q => ?_)
          obtain rfl := q.symm
          refine R_aload_n rfl rfl ?_
          refine R_bipush (v := 59) rfl (by decide) ?_
          refine R_cV (as := [.int 59]) rfl rfl iv_M_need (need_b (mfl_E (σ := τ) (x := t.1) (by omega))) (by omega) rfl rfl rfl (by decide) rfl rfl (Nat.le_of_ble_eq_true rfl) (fun _ q => ?_)
          obtain rfl := q.symm
          refine R_goto rfl rfl ?_
          have er := (prE_o (n := n) (h := h) (w := w) (u := uu) (rt := rt) (pn := pn) (f := f) (P := P) g1 g2 g3)
          exact ld_b (mfl_E (σ := τ) (x := t.1) (by omega)) (by omega) (hx (mfl τ 1 t.1) (hI.1.trans mfl_q) (by rw [er]; exact (mfl_E (σ := τ) (x := t.1) (by omega))))
        · refine R_aload_n rfl rfl ?_
          by_cases g4 : pn < 6
          · by_cases g5 : pmM B n P pn t = none
            · refine R_cV (as := []) rfl rfl iv_M_parsePrime (sp_mparsePrime hI.2.1 hI.2.2.1 g4) (by omega) rfl rfl rfl (by decide) rfl rfl (Nat.le_of_ble_eq_true rfl) (fun ρ6 hρ6 => ?_)
              obtain ⟨q_ρ6, m_ρ6⟩ := hρ6
              rw [g5] at m_ρ6
              obtain ⟨g_ρ6, d_ρ6⟩ := (show tG ρ6 n B (nx B n (nx B n t)) ∧ dM ρ6 h w f rt (fun j => if j = pn then (nx B n t).2.2.2 else P j) (pn + 1) from m_ρ6)
              refine R_goto rfl rfl ?_
              refine R_aload_n rfl rfl ?_
              refine R_bipush (v := 59) rfl (by decide) ?_
              by_cases g6 : isSy B 59 (nx B n (nx B n t))
              · refine R_cV (as := [.int 59]) rfl rfl iv_M_need (need_1 (c := 59) g_ρ6 g6) (by omega) rfl rfl rfl (by decide) rfl rfl (Nat.le_of_ble_eq_true rfl) (fun ρ8 hρ8 => ?_)
                obtain ⟨q_ρ8, g_ρ8⟩ := hρ8
                refine R_goto rfl rfl ?_
                have er := prE_p1 (u := uu) (h := h) (w := w) (f := f) (rt := rt) g1 g2 g3 g4 (pm_n1 g5 g6)
                have hA1 := (nx_A (B := B) hI.2.1.2.1 hA).1
                have hA2 := nx_A (B := B) (nx_b hI.2.1.2.1) hA1
                have hA3 := nx_adv (B := B) hI.2.1.2.1 hA g1
                have hA4 := nx_A (B := B) (nx_b (nx_b hI.2.1.2.1)) hA2.1
                refine ih (nx B n (nx B n (nx B n t))) f rt (fun j => if j = pn then (nx B n t).2.2.2 else P j) (pn + 1) ρ8 hA4.1 ⟨((hI.1.trans q_ρ6).trans (q_ρ8.mono pDm_d)), g_ρ8, (dM_qq q_ρ8 d_ρ6), by omega⟩ (fun ρ q z => hx ρ q ?_)
                rw [er]; exact z
              · refine R_cV (as := [.int 59]) rfl rfl iv_M_need (need_0 (c := 59) g_ρ6 g6) (by omega) rfl rfl rfl (by decide) rfl rfl (Nat.le_of_ble_eq_true rfl) (fun _ q => ?_)
                obtain rfl := q.symm
                refine R_goto rfl rfl ?_
                have er := (prE_p0 (n := n) (h := h) (w := w) (u := uu) (rt := rt) (pn := pn) (f := f) (P := P) g1 g2 g3 g4 (pm_n0 g5 g6))
                exact ld_b (mfl_E (σ := ρ6) (x := (nx B n (nx B n t)).1) (by omega)) (by omega) (hx (mfl ρ6 1 (nx B n (nx B n t)).1) ((hI.1.trans q_ρ6).trans mfl_q) (by rw [er]; exact (mfl_E (σ := ρ6) (x := (nx B n (nx B n t)).1) (by omega))))
            · refine R_cV (as := []) rfl rfl iv_M_parsePrime (sp_mparsePrime hI.2.1 hI.2.2.1 g4) (by omega) rfl rfl rfl (by decide) rfl rfl (Nat.le_of_ble_eq_true rfl) (fun ρ11 hρ11 => ?_)
              obtain ⟨q_ρ11, m_ρ11⟩ := hρ11
              obtain ⟨e, he⟩ := opt_ne g5
              rw [he] at m_ρ11
              have e_ρ11 : tE ρ11 e.1 e.2 := m_ρ11
              refine R_goto rfl rfl ?_
              refine R_aload_n rfl rfl ?_
              refine R_bipush (v := 59) rfl (by decide) ?_
              refine R_cV (as := [.int 59]) rfl rfl iv_M_need (need_b e_ρ11) (by omega) rfl rfl rfl (by decide) rfl rfl (Nat.le_of_ble_eq_true rfl) (fun _ q => ?_)
              obtain rfl := q.symm
              refine R_goto rfl rfl ?_
              have er := (prE_p0 (n := n) (h := h) (w := w) (u := uu) (rt := rt) (pn := pn) (f := f) (P := P) g1 g2 g3 g4 (pm_s he))
              exact ld_b e_ρ11 (by omega) (hx ρ11 (hI.1.trans q_ρ11) (by rw [er]; exact e_ρ11))
          · refine R_cV (as := []) rfl rfl iv_M_parsePrime (sp_mparsePrime_6 hI.2.1 hI.2.2.1 (by omega)) (by omega) rfl rfl rfl (by decide) rfl rfl (Nat.le_of_ble_eq_true rfl) (fun ρ14 hρ14 => ?_)
            obtain ⟨q_ρ14, e_ρ14⟩ := hρ14
            refine R_goto rfl rfl ?_
            refine R_aload_n rfl rfl ?_
            refine R_bipush (v := 59) rfl (by decide) ?_
            refine R_cV (as := [.int 59]) rfl rfl iv_M_need (need_b e_ρ14) (by omega) rfl rfl rfl (by decide) rfl rfl (Nat.le_of_ble_eq_true rfl) (fun _ q => ?_)
            obtain rfl := q.symm
            refine R_goto rfl rfl ?_
            have er := (prE_p6 (n := n) (h := h) (w := w) (u := uu) (rt := rt) (pn := pn) (f := f) (P := P) g1 g2 g3 g4)
            exact ld_b e_ρ14 (by omega) (hx ρ14 (hI.1.trans q_ρ14) (by rw [er]; exact e_ρ14))
      · refine R_aload_n rfl rfl ?_
        by_cases g7 : rt < h
        · by_cases g8 : rwM B n (nx B n t) w 0 = none
          · refine R_cV (as := []) rfl rfl iv_M_parseRow (sp_mparseRow hI.2.1 hI.2.2.1 g7) (by omega) rfl rfl rfl (by decide) rfl rfl (Nat.le_of_ble_eq_true rfl) (fun ρ17 hρ17 => ?_)
            obtain ⟨q_ρ17, m_ρ17⟩ := hρ17
            rw [g8] at m_ρ17
            obtain ⟨g_ρ17, d_ρ17⟩ := (show tG ρ17 n B (mS B n (nx B n t) w) ∧ dM ρ17 h w (rF B n f rt (nx B n t) w) (rt + 1) P pn from m_ρ17)
            refine R_goto rfl rfl ?_
            refine R_aload_n rfl rfl ?_
            refine R_bipush (v := 59) rfl (by decide) ?_
            by_cases g9 : isSy B 59 (mS B n (nx B n t) w)
            · refine R_cV (as := [.int 59]) rfl rfl iv_M_need (need_1 (c := 59) g_ρ17 g9) (by omega) rfl rfl rfl (by decide) rfl rfl (Nat.le_of_ble_eq_true rfl) (fun ρ19 hρ19 => ?_)
              obtain ⟨q_ρ19, g_ρ19⟩ := hρ19
              refine R_goto rfl rfl ?_
              have er := prE_r1 (u := uu) (f := f) (P := P) (pn := pn) g1 g2 g7 (rE_n1 hw1 g8 g9)
              have hA1 := (nx_A (B := B) hI.2.1.2.1 hA).1
              have hA2 := rS_A (B := B) (nx_b hI.2.1.2.1) hA1 w
              have hA3 := nx_adv (B := B) hI.2.1.2.1 hA g1
              have er2 : nx B n (mS B n (nx B n t) w) = rS B n (nx B n t) w := mS_r w (by omega)
              rw [er2] at g_ρ19
              refine ih (rS B n (nx B n t) w) (rF B n f rt (nx B n t) w) (rt + 1) P pn ρ19 hA2.1 ⟨((hI.1.trans q_ρ17).trans (q_ρ19.mono pDm_d)), g_ρ19, (dM_qq q_ρ19 d_ρ17), by omega⟩ (fun ρ q z => hx ρ q ?_)
              rw [er]; exact z
            · refine R_cV (as := [.int 59]) rfl rfl iv_M_need (need_0 (c := 59) g_ρ17 g9) (by omega) rfl rfl rfl (by decide) rfl rfl (Nat.le_of_ble_eq_true rfl) (fun _ q => ?_)
              obtain rfl := q.symm
              refine R_goto rfl rfl ?_
              have er := (prE_r0 (n := n) (h := h) (w := w) (u := uu) (rt := rt) (pn := pn) (f := f) (P := P) g1 g2 g7 (rE_n0 hw1 g8 g9))
              exact ld_b (mfl_E (σ := ρ17) (x := (mS B n (nx B n t) w).1) (by omega)) (by omega) (hx (mfl ρ17 1 (mS B n (nx B n t) w).1) ((hI.1.trans q_ρ17).trans mfl_q) (by rw [er]; exact (mfl_E (σ := ρ17) (x := (mS B n (nx B n t) w).1) (by omega))))
          · refine R_cV (as := []) rfl rfl iv_M_parseRow (sp_mparseRow hI.2.1 hI.2.2.1 g7) (by omega) rfl rfl rfl (by decide) rfl rfl (Nat.le_of_ble_eq_true rfl) (fun ρ22 hρ22 => ?_)
            obtain ⟨q_ρ22, m_ρ22⟩ := hρ22
            obtain ⟨e, he⟩ := opt_ne g8
            rw [he] at m_ρ22
            have e_ρ22 : tE ρ22 e.1 e.2 := m_ρ22
            refine R_goto rfl rfl ?_
            refine R_aload_n rfl rfl ?_
            refine R_bipush (v := 59) rfl (by decide) ?_
            refine R_cV (as := [.int 59]) rfl rfl iv_M_need (need_b e_ρ22) (by omega) rfl rfl rfl (by decide) rfl rfl (Nat.le_of_ble_eq_true rfl) (fun _ q => ?_)
            obtain rfl := q.symm
            refine R_goto rfl rfl ?_
            have er := (prE_r0 (n := n) (h := h) (w := w) (u := uu) (rt := rt) (pn := pn) (f := f) (P := P) g1 g2 g7 (rE_s hw1 he))
            exact ld_b e_ρ22 (by omega) (hx ρ22 (hI.1.trans q_ρ22) (by rw [er]; exact e_ρ22))
        · refine R_cV (as := []) rfl rfl iv_M_parseRow (sp_mparseRow_h hI.2.1 hI.2.2.1 (by omega)) (by omega) rfl rfl rfl (by decide) rfl rfl (Nat.le_of_ble_eq_true rfl) (fun ρ25 hρ25 => ?_)
          obtain ⟨q_ρ25, e_ρ25⟩ := hρ25
          refine R_goto rfl rfl ?_
          refine R_aload_n rfl rfl ?_
          refine R_bipush (v := 59) rfl (by decide) ?_
          refine R_cV (as := [.int 59]) rfl rfl iv_M_need (need_b e_ρ25) (by omega) rfl rfl rfl (by decide) rfl rfl (Nat.le_of_ble_eq_true rfl) (fun _ q => ?_)
          obtain rfl := q.symm
          refine R_goto rfl rfl ?_
          have er := (prE_rh (n := n) (h := h) (w := w) (u := uu) (rt := rt) (pn := pn) (f := f) (P := P) g1 g2 g7)
          exact ld_b e_ρ25 (by omega) (hx ρ25 (hI.1.trans q_ρ25) (by rw [er]; exact e_ρ25))
