/-! ===== the model: bases, circuits, closure, pivot, unlucky ===== -/
theorem nb_hi {s h : Nat} (hs : s < 64) (hh : h ≤ 6) (hb : 2 ^ h ≤ s) : nb s h < pc s := by
  have key : ∀ s : Nat, s < 64 → ∀ h : Nat, h < 7 → (2 ^ h ≤ s → nb s h < pc s) := by decide +kernel
  exact key s hs h (by omega) hb
theorem frB_hi {f : am_Gr} {m h w s : Nat} (hs : s < 64) (hh : h ≤ 6) (hb : 2 ^ h ≤ s) : ¬ frB f m h w s = true := by
  unfold frB
  rw [decide_eq_true_eq]
  have h1 := @rkO_le f m s (2 ^ w - 1) h w
  have h2 := nb_hi hs hh hb
  omega
theorem cbN_64 {f : am_Gr} {m h w rk : Nat} (hh : h ≤ 6) : ∀ n, 2 ^ h + n ≤ 64 → cbN (frB f m h w) rk (2 ^ h + n) = cbN (frB f m h w) rk (2 ^ h)
  | 0, _ => rfl
  | n + 1, hn => by
    have ih := @cbN_64 f m h w rk hh n (by omega)
    rw [← Nat.add_assoc]
    simp only [cbN]
    rw [if_neg (fun z => frB_hi (by omega) hh (by omega) z.1), ih]
theorem ciN_t {A : Nat → Bool} {s : Nat} : ∀ n, (∀ r, r < n → s.testBit r = true → A (wo s r) = true) → ciN A s n = true
  | 0, _ => rfl
  | n + 1, h => by
    have ih := @ciN_t A s n (fun r hr => h r (by omega))
    simp only [ciN]
    rw [ih, Bool.true_and]
    cases e : s.testBit n with
    | false => rfl
    | true => rw [h n (by omega) e]; rfl
theorem wi_lw {r : Nat} (hr : r < 6) : wi (2 ^ r - 1) r = 2 ^ (r + 1) - 1 := by
  have key : ∀ r : Nat, r < 6 → wi (2 ^ r - 1) r = 2 ^ (r + 1) - 1 := by decide +kernel
  exact key r hr
theorem rwP_wi {S r x h : Nat} (hS : S < 64) (hr : r < 6) (hh : h ≤ 6) : rwP (wi S r) h x → rwP S h x ∨ x = r := by
  unfold rwP
  rintro ⟨a, b⟩
  rcases (tb_wi hS hr (by omega)).mp b with c | c
  · exact Or.inl ⟨a, c⟩
  · exact Or.inr c
theorem rwP_iw {S r x h : Nat} (hS : S < 64) (hr : r < 6) (hh : h ≤ 6) : rwP S h x → rwP (wi S r) h x := by
  unfold rwP
  rintro ⟨a, b⟩
  exact ⟨a, (tb_wi hS hr (by omega)).mpr (Or.inl b)⟩
theorem ex_iff {f : am_Gr} {m h w S r : Nat} (hd : zdom m) (hm : m ≤ 97) (hf : fSm f h w) (hh : h ≤ 6) (hw : w ≤ 6) (hS : S < 64) (hr : r < h) (hfree : frB f m h w S = true) : (¬ S.testBit r = true ∧ frB f m h w (wi S r) = true) ↔ ¬ rkO f m (wi S r) (2 ^ w - 1) h w = rkO f m S (2 ^ w - 1) h w := by
  have h1 := rkO_rk hd hm hf hh hw hS (lwP2 (Nat.le_refl w))
  have h2 := rkO_rk hd hm hf hh hw (wi_lt hS (show r < 6 by omega)) (lwP2 (Nat.le_refl w))
  have a := h1.mono h2 (fun x => rwP_iw hS (by omega) hh) (fun _ => id)
  have b := h1.step h2 (fun x => rwP_wi hS (by omega) hh)
  unfold frB at hfree ⊢
  rw [decide_eq_true_eq] at hfree ⊢
  by_cases hb : S.testBit r = true
  · have e : wi S r = S := by unfold wi; rw [if_pos hb]
    refine ⟨fun z => absurd hb z.1, fun z => absurd (by rw [e]) z⟩
  · rw [pc_wi hS (by omega) hb]
    refine ⟨fun z => by omega, fun z => ⟨hb, by omega⟩⟩
/-- the rows by which a set grows, counted so far -/
def exN (f : am_Gr) (m h w S : Nat) : Nat → Nat
  | 0 => 0
  | r + 1 => if ¬ S.testBit r = true ∧ frB f m h w (wi S r) = true then wi (exN f m h w S r) r else exN f m h w S r
theorem sdf_n : ∀ r : Nat, r < 6 → ∀ s : Nat, s < 64 → (s < 2 ^ r → sdf (2 ^ (r + 1) - 1) s = wi (sdf (2 ^ r - 1) s) r ∧ sdf (2 ^ (r + 1) - 1) (wi s r) = sdf (2 ^ r - 1) s ∧ s < 2 ^ (r + 1) ∧ wi s r < 2 ^ (r + 1)) := by decide +kernel
theorem exN_sd {f : am_Gr} {m h w S : Nat} (hd : zdom m) (hm : m ≤ 97) (hf : fSm f h w) (hh : h ≤ 6) (hw : w ≤ 6) (hS : S < 64) (hfree : frB f m h w S = true) : ∀ r, r ≤ h → exN f m h w S r = sdf (2 ^ r - 1) (spN f m h w S r) ∧ spN f m h w S r < 2 ^ r
  | 0, _ => ⟨by show (0 : Nat) = sdf (2 ^ 0 - 1) 0; decide, by show (0 : Nat) < 1; omega⟩
  | r + 1, hr => by
    obtain ⟨h1, h2⟩ := exN_sd hd hm hf hh hw hS hfree r (by omega)
    have h64 : spN f m h w S r < 64 := spN_lt r (by omega)
    obtain ⟨k1, k2, k3, k4⟩ := sdf_n r (by omega) _ h64 h2
    have e := ex_iff hd hm hf hh hw hS (show r < h by omega) hfree
    simp only [exN, spN]
    by_cases hb : rkO f m (wi S r) (2 ^ w - 1) h w = rkO f m S (2 ^ w - 1) h w
    · rw [if_pos hb, if_neg (fun z => e.mp z hb), h1]
      exact ⟨k2.symm, k4⟩
    · rw [if_neg hb, if_pos (e.mpr hb), h1]
      exact ⟨k1.symm, k3⟩
theorem exN_lt {f : am_Gr} {m h w S : Nat} : ∀ r, r ≤ 6 → exN f m h w S r < 64
  | 0, _ => by show (0 : Nat) < 64; decide
  | r + 1, hr => by
    have ih := @exN_lt f m h w S r (by omega)
    simp only [exN]
    split
    · exact wi_lt ih (by omega)
    · exact ih
set_option maxRecDepth 100000 in
set_option maxHeartbeats 4000000 in
theorem lp_mbas {σ : am_G} {h w rh pn : Nat} {f v rl : am_Gr} {I : Nat → Int32} {m : Nat} {d k0 : Nat} (hn : nV σ h w f v rh rl pn I) (hmd : m ∈ mdL) (hd : 8 ≤ d)  : ∀ (uu i : Nat) (τ : am_G), i + uu = 2 ^ h → (smP pQ σ τ ∧ τ.1 120 0 = 0) → am_R am_TX d k0 c_M_bases 24 [some (.ref 120), some (.int (nI m)), some (.int (nI (rkO f m (2 ^ h - 1) (2 ^ w - 1) h w))), some (.int (nI (cbN (frB f m h w) (rkO f m (2 ^ h - 1) (2 ^ w - 1) h w) i))), some (.int (nI i))] [] (mm τ) (am_Ok (some (.int (nI (cbN (frB f m h w) (rkO f m (2 ^ h - 1) (2 ^ w - 1) h w) (2 ^ h))))) (fun σ1 => smP pQ σ σ1 ∧ σ1.1 120 0 = 0)) := by
  have hv := hn.toV
  have hs := hn.2.1.2.1
  have hh1 := hv.1.1.1
  have hh6 := hv.1.1.2
  have hw1 := hv.1.2.1
  have hw6 := hv.1.2.2
  have hp6 := hn.2.1.2.2.2.1.1
  have hr6 := hn.2.1.2.2.2.2.2.2.1
  have hs7 := lw_lt hh6
  have ws7 := lw_lt hw6
  have hp2h := Nat.two_pow_pos h
  have hp2w := Nat.two_pow_pos w
  have h2h : 2 ^ h ≤ 2 ^ 6 := Nat.pow_le_pow_right (by omega) hv.1.1.2
  have h2w : 2 ^ w ≤ 2 ^ 6 := Nat.pow_le_pow_right (by omega) hv.1.2.2
  have hm97 := md_97 hmd
  intro uu
  induction uu with
  | zero =>
    intro i τ hi hI
    obtain rfl : 2 ^ h = i := by omega
    skip
    refine R_iload rfl rfl ?_
    refine R_aload_n rfl rfl ?_
    refine R_cV (as := []) rfl rfl iv_M_allRows (sp_mallRows (hI.1.mV hv (fun b => by unfold pQ; omega) (fun b => by unfold pQ; omega) (by unfold pQ; omega))) (by omega) rfl rfl rfl (by decide) rfl rfl (Nat.le_of_ble_eq_true rfl) (fun _ q => ?_)
    obtain rfl := q.symm
    refine R_nicmp_gt (x := (2 ^ h)) (y := (2 ^ h - 1)) rfl rfl (by omega) (by omega) (fun g1 => ?_) (fun z => by omega)
    refine R_iload_n rfl rfl ?_
    exact T_ireturn rfl rfl (am_oki rfl hI)
  | succ uu ih =>
    intro i τ hi hI
    have hpi := @pc_le i
    have hk6 : (rkO f m (2 ^ h - 1) (2 ^ w - 1) h w) ≤ 6 := rkO_6 hh6
    refine R_iload rfl rfl ?_
    refine R_aload_n rfl rfl ?_
    refine R_cV (as := []) rfl rfl iv_M_allRows (sp_mallRows (hI.1.mV hv (fun b => by unfold pQ; omega) (fun b => by unfold pQ; omega) (by unfold pQ; omega))) (by omega) rfl rfl rfl (by decide) rfl rfl (Nat.le_of_ble_eq_true rfl) (fun _ q => ?_)
    obtain rfl := q.symm
    refine R_nicmp_gt (x := i) (y := (2 ^ h - 1)) rfl rfl (by omega) (by omega) (fun z => by omega) (fun g1 => ?_)
    refine R_iload_n rfl rfl ?_
    refine R_iload rfl rfl ?_
    refine R_cS (as := [.int (nI i)]) rfl rfl iv_M_bits (sp_bits (s := i) (by first | assumption | exact lw_lt (by omega) | exact wi_lt (by first | assumption | omega) (by omega) | exact wo_lt (by first | assumption | omega) (by omega) | omega)) (by omega) rfl rfl rfl rfl (Nat.le_of_ble_eq_true rfl) (fun _ q => ?_)
    obtain rfl := q.symm
    refine R_iload_n rfl rfl ?_
    refine R_nicmp_ne (x := (pc i)) (y := (rkO f m (2 ^ h - 1) (2 ^ w - 1) h w)) rfl rfl (by omega) (by omega) (fun g2 => ?_) (fun g2 => ?_)
    · refine R_iconst (v := 0) rfl rfl ?_
      refine R_iaddN (x := (cbN (frB f m h w) (rkO f m (2 ^ h - 1) (2 ^ w - 1) h w) i)) (y := 0) rfl ?_
      refine R_istore_n rfl (by decide) ?_
      refine R_iincN (x := i) (m := 1) rfl rfl rfl (by decide) ?_
      refine R_goto rfl rfl ?_
      have e := ih (i + 1) _ (by omega) ⟨hI.1, hI.2⟩
      rw [show cbN (frB f m h w) (rkO f m (2 ^ h - 1) (2 ^ w - 1) h w) (i + 1) = cbN (frB f m h w) (rkO f m (2 ^ h - 1) (2 ^ w - 1) h w) i + 0 from by simp only [cbN]; exact if_neg (fun z => g2 z.2)] at e
      exact e.weak ⟨rfl, rfl, rfl, rfl, rfl, trivial⟩
    · refine R_aload_n rfl rfl ?_
      refine R_iload_n rfl rfl ?_
      refine R_iload rfl rfl ?_
      refine R_cV (as := [.int (nI m), .int (nI i)]) rfl rfl iv_M_areFree (sp_areFree (m := m) (S := i) (hI.1.mV hv (fun b => by unfold pQ; omega) (fun b => by unfold pQ; omega) (by unfold pQ; omega)) hs (by omega) (by first | assumption | exact lw_lt (by omega) | exact wi_lt (by first | assumption | omega) (by omega) | exact wo_lt (by first | assumption | omega) (by omega) | omega)) (by omega) rfl rfl rfl (by decide) rfl rfl (Nat.le_of_ble_eq_true rfl) (fun σ3 hσ3 => ?_)
      refine R_zif_eq rfl rfl (fun g3 => ?_) (fun g3 => ?_)
      · refine R_iconst (v := 0) rfl rfl ?_
        refine R_iaddN (x := (cbN (frB f m h w) (rkO f m (2 ^ h - 1) (2 ^ w - 1) h w) i)) (y := 0) rfl ?_
        refine R_istore_n rfl (by decide) ?_
        refine R_iincN (x := i) (m := 1) rfl rfl rfl (by decide) ?_
        refine R_goto rfl rfl ?_
        have e := ih (i + 1) _ (by omega) ⟨(hI.1.trans (hσ3.mono (q := pQ) pQ_W)), ((hσ3.i (by unfold pW; omega)).trans hI.2)⟩
        rw [show cbN (frB f m h w) (rkO f m (2 ^ h - 1) (2 ^ w - 1) h w) (i + 1) = cbN (frB f m h w) (rkO f m (2 ^ h - 1) (2 ^ w - 1) h w) i + 0 from by simp only [cbN]; exact if_neg (fun z => g3 z.1)] at e
        exact e.weak ⟨rfl, rfl, rfl, rfl, rfl, trivial⟩
      · refine R_iconst (v := 1) rfl rfl ?_
        refine R_goto rfl rfl ?_
        refine R_iaddN (x := (cbN (frB f m h w) (rkO f m (2 ^ h - 1) (2 ^ w - 1) h w) i)) (y := 1) rfl ?_
        refine R_istore_n rfl (by decide) ?_
        refine R_iincN (x := i) (m := 1) rfl rfl rfl (by decide) ?_
        refine R_goto rfl rfl ?_
        have e := ih (i + 1) _ (by omega) ⟨(hI.1.trans (hσ3.mono (q := pQ) pQ_W)), ((hσ3.i (by unfold pW; omega)).trans hI.2)⟩
        rw [show cbN (frB f m h w) (rkO f m (2 ^ h - 1) (2 ^ w - 1) h w) (i + 1) = cbN (frB f m h w) (rkO f m (2 ^ h - 1) (2 ^ w - 1) h w) i + 1 from by simp only [cbN]; exact if_pos ⟨g3, g2⟩] at e
        exact e.weak ⟨rfl, rfl, rfl, rfl, rfl, trivial⟩
set_option maxRecDepth 100000 in
set_option maxHeartbeats 4000000 in
theorem sp_M_bases {σ : am_G} {h w rh pn : Nat} {f v rl : am_Gr} {I : Nat → Int32} {m : Nat} (hn : nV σ h w f v rh rl pn I) (hmd : m ∈ mdL) : am_Call am_TX 14 0 c_M_bases [.ref 120, .int (nI m)] (mm σ) (am_Ok (some (.int (nI (cbN (frB f m h w) (rkO f m (2 ^ h - 1) (2 ^ w - 1) h w) 64)))) (fun σ1 => smP pQ σ σ1 ∧ σ1.1 120 0 = 0)) := by
  have hv := hn.toV
  have hs := hn.2.1.2.1
  have hh1 := hv.1.1.1
  have hh6 := hv.1.1.2
  have hw1 := hv.1.2.1
  have hw6 := hv.1.2.2
  have hp6 := hn.2.1.2.2.2.1.1
  have hr6 := hn.2.1.2.2.2.2.2.2.1
  have hs7 := lw_lt hh6
  have ws7 := lw_lt hw6
  have hm97 := md_97 hmd
  have hp2h := Nat.two_pow_pos h
  have hp2w := Nat.two_pow_pos w
  have h2h : 2 ^ h ≤ 2 ^ 6 := Nat.pow_le_pow_right (by omega) hv.1.1.2
  have h2w : 2 ^ w ≤ 2 ^ 6 := Nat.pow_le_pow_right (by omega) hv.1.2.2
  refine ⟨mf_M_bases, Nat.le_of_ble_eq_true rfl, ?_⟩
  refine R_aload_n rfl rfl ?_
  refine R_iload_n rfl rfl ?_
  refine R_cS (as := [.int (nI m)]) rfl rfl iv_M_isModulus (isMod_1 hmd) (by omega) rfl rfl rfl rfl (Nat.le_of_ble_eq_true rfl) (fun _ q => ?_)
  obtain rfl := q.symm
  refine R_cV (as := [.int 1]) rfl rfl iv_M_passes (pass_1) (by omega) rfl rfl rfl (by decide) rfl rfl (Nat.le_of_ble_eq_true rfl) (fun _ q => ?_)
  obtain rfl := q.symm
  refine R_if_ne rfl rfl (fun _ => ?_) (fun z => absurd z (by decide))
  refine R_aload_n rfl rfl ?_
  refine R_iload_n rfl rfl ?_
  refine R_cV (as := [.int (nI m)]) rfl rfl iv_M_rankAll (sp_rankAll (m := m) ((smP_sI (p := pQ) (k := 120) (j := 0) (x := 0) (by unfold pQ; omega)).mV hv (fun b => by unfold pQ; omega) (fun b => by unfold pQ; omega) (by unfold pQ; omega)) hs (by omega)) (by omega) rfl rfl rfl (by decide) rfl rfl (Nat.le_of_ble_eq_true rfl) (fun σ3 hσ3 => ?_)
  refine R_istore_n rfl (by decide) ?_
  refine R_iconst (v := 0) rfl rfl ?_
  refine R_istore_n rfl (by decide) ?_
  refine R_iconst (v := 0) rfl rfl ?_
  refine R_istore rfl (by decide) ?_
  have e64 := @cbN_64 f m h w (rkO f m (2 ^ h - 1) (2 ^ w - 1) h w) hh6 (64 - 2 ^ h) (by omega)
  rw [show 2 ^ h + (64 - 2 ^ h) = 64 by omega] at e64
  rw [e64]
  exact (lp_mbas hn hmd (by omega) (2 ^ h) 0 _ (by omega) ⟨((smP_sI (p := pQ) (k := 120) (j := 0) (x := 0) (by unfold pQ; omega)).trans (hσ3.mono (q := pQ) pQ_W)), ((hσ3.i (by unfold pW; omega)).trans sI_s)⟩).weak ⟨rfl, rfl, rfl, rfl, rfl, trivial⟩
set_option maxRecDepth 100000 in
set_option maxHeartbeats 4000000 in
theorem sp_M_bases_x0 {σ : am_G} {h w rh pn : Nat} {f v rl : am_Gr} {I : Nat → Int32} {x : Int32} (hn : nV σ h w f v rh rl pn I) (hb : ∀ n, n ∈ mdL → x ≠ nI n) : am_Call am_TX 14 0 c_M_bases [.ref 120, .int x] (mm σ) (am_Ok (some (.int 0)) (fun σ1 => smP pQ σ σ1 ∧ σ1.1 120 0 = 1)) := by
  have hv := hn.toV
  have hs := hn.2.1.2.1
  have hh1 := hv.1.1.1
  have hh6 := hv.1.1.2
  have hw1 := hv.1.2.1
  have hw6 := hv.1.2.2
  have hp6 := hn.2.1.2.2.2.1.1
  have hr6 := hn.2.1.2.2.2.2.2.2.1
  have hs7 := lw_lt hh6
  have ws7 := lw_lt hw6
  refine ⟨mf_M_bases, Nat.le_of_ble_eq_true rfl, ?_⟩
  refine R_aload_n rfl rfl ?_
  refine R_iload_n rfl rfl ?_
  refine R_cS (as := [.int x]) rfl rfl iv_M_isModulus (isMod_0 hb) (by omega) rfl rfl rfl rfl (Nat.le_of_ble_eq_true rfl) (fun _ q => ?_)
  obtain rfl := q.symm
  refine R_cV (as := [.int 0]) rfl rfl iv_M_passes (pass_0) (by omega) rfl rfl rfl (by decide) rfl rfl (Nat.le_of_ble_eq_true rfl) (fun _ q => ?_)
  obtain rfl := q.symm
  refine R_if_ne rfl rfl (fun z => absurd z (by decide)) (fun _ => ?_)
  refine R_iconst (v := 0) rfl rfl ?_
  exact T_ireturn rfl rfl (am_oki rfl ⟨(smP_sI (p := pQ) (k := 120) (j := 0) (x := 1) (by unfold pQ; omega)), sI_s⟩)
set_option maxRecDepth 100000 in
set_option maxHeartbeats 4000000 in
theorem lp_mcir {σ : am_G} {h w m S : Nat} {f : am_Gr} {d k0 : Nat} (hv : mV σ h w f) (hs : fSm f h w) (hm : m < 2 ^ 31) (hS : S < 2 ^ h) (hfr : ¬ frB f m h w S = true) (hd : 8 ≤ d)  : ∀ (uu i : Nat) (τ : am_G), i + uu = h → (smP pW σ τ ∧ ∀ r, r < i → S.testBit r = true → frB f m h w (wo S r) = true) → am_R am_TX d k0 c_M_isCircuit 13 [some (.ref 120), some (.int (nI m)), some (.int (nI S)), some (.int (nI i))] [] (mm τ) (am_Ok (some (.int (zP (ciB (frB f m h w) 6 S = true)))) (fun σ1 => smP pW σ σ1)) := by
  have hh1 := hv.1.1.1
  have hh6 := hv.1.1.2
  have hw1 := hv.1.2.1
  have hw6 := hv.1.2.2
  have hS6 := p2_64 hS hh6
  intro uu
  induction uu with
  | zero =>
    intro i τ hi hI
    obtain rfl : h = i := by omega
    refine R_iload_n rfl rfl ?_
    refine R_aload_n rfl rfl ?_
    refine R_cV (as := []) rfl rfl iv_M_rows (sp_rows (hI.1.mV hv (fun b => by unfold pW; omega) (fun b => by unfold pW; omega) (by unfold pW; omega))) (by omega) rfl rfl rfl (by decide) rfl rfl (Nat.le_of_ble_eq_true rfl) (fun _ q => ?_)
    obtain rfl := q.symm
    refine R_nicmp_ge (x := h) (y := h) rfl rfl (by omega) (by omega) (fun g1 => ?_) (fun z => by omega)
    refine R_iconst (v := 1) rfl rfl ?_
    exact T_zreturn rfl rfl rfl (am_oki (zP_t (by unfold ciB; rw [ciN_t 6 (fun r hr ht => by by_cases a : r < h; exact hI.2 r a ht; exact absurd ht (tb_hi (Nat.lt_of_lt_of_le hS (Nat.pow_le_pow_right (n := 2) (by omega) (by omega)))))]; simpa using hfr)).symm hI.1)
  | succ uu ih =>
    intro i τ hi hI
    refine R_iload_n rfl rfl ?_
    refine R_aload_n rfl rfl ?_
    refine R_cV (as := []) rfl rfl iv_M_rows (sp_rows (hI.1.mV hv (fun b => by unfold pW; omega) (fun b => by unfold pW; omega) (by unfold pW; omega))) (by omega) rfl rfl rfl (by decide) rfl rfl (Nat.le_of_ble_eq_true rfl) (fun _ q => ?_)
    obtain rfl := q.symm
    refine R_nicmp_ge (x := i) (y := h) rfl rfl (by omega) (by omega) (fun z => by omega) (fun g1 => ?_)
    refine R_iload_n rfl rfl ?_
    refine R_iload_n rfl rfl ?_
    refine R_cS (as := [.int (nI S), .int (nI i)]) rfl rfl iv_M_has (sp_mhas (s := S) (k := i) (by first | assumption | exact lw_lt (by omega) | exact wi_lt (by first | assumption | omega) (by omega) | exact wo_lt (by first | assumption | omega) (by omega) | omega) (by omega)) (by omega) rfl rfl rfl rfl (Nat.le_of_ble_eq_true rfl) (fun _ q => ?_)
    obtain rfl := q.symm
    refine R_zif_eq rfl rfl (fun g2 => ?_) (fun g2 => ?_)
    · refine R_iincN (x := i) (m := 1) rfl rfl rfl (by decide) ?_
      refine R_goto rfl rfl ?_
      refine (ih (i + 1) _ (by omega) ⟨hI.1, fun r hr ht => ?_⟩).weak ⟨rfl, rfl, rfl, rfl, trivial⟩
      rcases Nat.lt_or_eq_of_le (Nat.le_of_lt_succ hr) with a | a
      · exact hI.2 r a ht
      · subst a; exact absurd ht g2
    · refine R_aload_n rfl rfl ?_
      refine R_iload_n rfl rfl ?_
      refine R_iload_n rfl rfl ?_
      refine R_iconst (v := 1) rfl rfl ?_
      refine R_iload_n rfl rfl ?_
      refine R_shl1N (y := i) rfl (by omega) ?_
      refine R_iconst (v := -1) rfl rfl ?_
      refine R_ixor rfl ?_
      refine R_iandB (s := S) (y := i) rfl (by first | assumption | omega) (by omega) ?_
      refine R_cV (as := [.int (nI m), .int (nI (wo S i))]) rfl rfl iv_M_areFree (sp_areFree (m := m) (S := (wo S i)) (hI.1.mV hv (fun b => by unfold pW; omega) (fun b => by unfold pW; omega) (by unfold pW; omega)) hs (by omega) (by first | assumption | exact lw_lt (by omega) | exact wi_lt (by first | assumption | omega) (by omega) | exact wo_lt (by first | assumption | omega) (by omega) | omega)) (by omega) rfl rfl rfl (by decide) rfl rfl (Nat.le_of_ble_eq_true rfl) (fun σ3 hσ3 => ?_)
      refine R_zif_ne rfl rfl (fun g3 => ?_) (fun g3 => ?_)
      · refine R_iincN (x := i) (m := 1) rfl rfl rfl (by decide) ?_
        refine R_goto rfl rfl ?_
        refine (ih (i + 1) _ (by omega) ⟨(hI.1.trans hσ3), fun r hr ht => ?_⟩).weak ⟨rfl, rfl, rfl, rfl, trivial⟩
        rcases Nat.lt_or_eq_of_le (Nat.le_of_lt_succ hr) with a | a
        · exact hI.2 r a ht
        · subst a; exact g3
      · refine R_iconst (v := 0) rfl rfl ?_
        exact T_zreturn rfl rfl rfl (am_oki (zP_f (by unfold ciB; rw [ciN_f g2 g3 6 (by omega)]; simp)).symm (hI.1.trans hσ3))
set_option maxRecDepth 100000 in
set_option maxHeartbeats 4000000 in
theorem sp_misCircuit {σ : am_G} {h w m S : Nat} {f : am_Gr} (hv : mV σ h w f) (hs : fSm f h w) (hm : m < 2 ^ 31) (hS : S < 2 ^ h) : am_Call am_TX 8 0 c_M_isCircuit [.ref 120, .int (nI m), .int (nI S)] (mm σ) (am_Ok (some (.int (zP (ciB (frB f m h w) 6 S = true)))) (fun σ1 => smP pW σ σ1)) := by
  have hh1 := hv.1.1.1
  have hh6 := hv.1.1.2
  have hw1 := hv.1.2.1
  have hw6 := hv.1.2.2
  have hS6 := p2_64 hS hh6
  refine ⟨mf_M_isCircuit, Nat.le_of_ble_eq_true rfl, ?_⟩
  refine R_aload_n rfl rfl ?_
  refine R_iload_n rfl rfl ?_
  refine R_iload_n rfl rfl ?_
  refine R_cV (as := [.int (nI m), .int (nI S)]) rfl rfl iv_M_areFree (sp_areFree (m := m) (S := S) hv hs (by omega) (by first | assumption | exact lw_lt (by omega) | exact wi_lt (by first | assumption | omega) (by omega) | exact wo_lt (by first | assumption | omega) (by omega) | omega)) (by omega) rfl rfl rfl (by decide) rfl rfl (Nat.le_of_ble_eq_true rfl) (fun σ1 hσ1 => ?_)
  refine R_zif_eq rfl rfl (fun g1 => ?_) (fun g1 => ?_)
  · refine R_iconst (v := 0) rfl rfl ?_
    refine R_istore_n rfl (by decide) ?_
    exact (lp_mcir hv hs hm hS g1 (by omega) h 0 _ (by omega) ⟨hσ1, fun r hr => absurd hr (Nat.not_lt_zero _)⟩).weak ⟨rfl, rfl, rfl, rfl, trivial⟩
  · refine R_iconst (v := 0) rfl rfl ?_
    exact T_zreturn rfl rfl rfl (am_oki (zP_f (by unfold ciB; rw [g1]; simp)).symm hσ1)
set_option maxRecDepth 100000 in
set_option maxHeartbeats 4000000 in
theorem lp_mccs {σ : am_G} {h w rh pn : Nat} {f v rl : am_Gr} {I : Nat → Int32} {m : Nat} {d k0 : Nat} (hn : nV σ h w f v rh rl pn I) (hmd : m ∈ mdL) (hd : 10 ≤ d)  : ∀ (uu i : Nat) (τ : am_G), i + uu = 2 ^ h → (smP pQ σ τ ∧ τ.1 120 0 = 0 ∧ 1 ≤ i) → am_R am_TX d k0 c_M_circuits 17 [some (.ref 120), some (.int (nI m)), some (.int (nI (ccN (frB f m h w) 6 i))), some (.int (nI i))] [] (mm τ) (am_Ok (some (.int (nI (ccN (frB f m h w) 6 (2 ^ h))))) (fun σ1 => smP pQ σ σ1 ∧ σ1.1 120 0 = 0)) := by
  have hv := hn.toV
  have hs := hn.2.1.2.1
  have hh1 := hv.1.1.1
  have hh6 := hv.1.1.2
  have hw1 := hv.1.2.1
  have hw6 := hv.1.2.2
  have hp6 := hn.2.1.2.2.2.1.1
  have hr6 := hn.2.1.2.2.2.2.2.2.1
  have hs7 := lw_lt hh6
  have ws7 := lw_lt hw6
  have hp2h := Nat.two_pow_pos h
  have hp2w := Nat.two_pow_pos w
  have h2h : 2 ^ h ≤ 2 ^ 6 := Nat.pow_le_pow_right (by omega) hv.1.1.2
  have h2w : 2 ^ w ≤ 2 ^ 6 := Nat.pow_le_pow_right (by omega) hv.1.2.2
  have hm97 := md_97 hmd
  intro uu
  induction uu with
  | zero =>
    intro i τ hi hI
    obtain rfl : 2 ^ h = i := by omega
    skip
    refine R_iload_n rfl rfl ?_
    refine R_aload_n rfl rfl ?_
    refine R_cV (as := []) rfl rfl iv_M_allRows (sp_mallRows (hI.1.mV hv (fun b => by unfold pQ; omega) (fun b => by unfold pQ; omega) (by unfold pQ; omega))) (by omega) rfl rfl rfl (by decide) rfl rfl (Nat.le_of_ble_eq_true rfl) (fun _ q => ?_)
    obtain rfl := q.symm
    refine R_nicmp_gt (x := (2 ^ h)) (y := (2 ^ h - 1)) rfl rfl (by omega) (by omega) (fun g1 => ?_) (fun z => by omega)
    refine R_iload_n rfl rfl ?_
    exact T_ireturn rfl rfl (am_oki rfl ⟨hI.1, hI.2.1⟩)
  | succ uu ih =>
    intro i τ hi hI
    have hi1 : 1 ≤ i := hI.2.2
    refine R_iload_n rfl rfl ?_
    refine R_aload_n rfl rfl ?_
    refine R_cV (as := []) rfl rfl iv_M_allRows (sp_mallRows (hI.1.mV hv (fun b => by unfold pQ; omega) (fun b => by unfold pQ; omega) (by unfold pQ; omega))) (by omega) rfl rfl rfl (by decide) rfl rfl (Nat.le_of_ble_eq_true rfl) (fun _ q => ?_)
    obtain rfl := q.symm
    refine R_nicmp_gt (x := i) (y := (2 ^ h - 1)) rfl rfl (by omega) (by omega) (fun z => by omega) (fun g1 => ?_)
    refine R_iload_n rfl rfl ?_
    refine R_aload_n rfl rfl ?_
    refine R_iload_n rfl rfl ?_
    refine R_iload_n rfl rfl ?_
    refine R_cV (as := [.int (nI m), .int (nI i)]) rfl rfl iv_M_isCircuit (sp_misCircuit (m := m) (S := i) (hI.1.mV hv (fun b => by unfold pQ; omega) (fun b => by unfold pQ; omega) (by unfold pQ; omega)) hs (by omega) (by omega)) (by omega) rfl rfl rfl (by decide) rfl rfl (Nat.le_of_ble_eq_true rfl) (fun σ2 hσ2 => ?_)
    refine R_zif_eq rfl rfl (fun g2 => ?_) (fun g2 => ?_)
    · refine R_iconst (v := 0) rfl rfl ?_
      refine R_iaddN (x := (ccN (frB f m h w) 6 i)) (y := 0) rfl ?_
      refine R_istore_n rfl (by decide) ?_
      refine R_iincN (x := i) (m := 1) rfl rfl rfl (by decide) ?_
      refine R_goto rfl rfl ?_
      have e := ih (i + 1) _ (by omega) ⟨(hI.1.trans (hσ2.mono (q := pQ) pQ_W)), ((hσ2.i (by unfold pW; omega)).trans hI.2.1), by omega⟩
      rw [show ccN (frB f m h w) 6 (i + 1) = ccN (frB f m h w) 6 i + 0 from by simp only [ccN]; exact if_neg (fun z => g2 z.2)] at e
      exact e.weak ⟨rfl, rfl, rfl, rfl, trivial⟩
    · refine R_iconst (v := 1) rfl rfl ?_
      refine R_goto rfl rfl ?_
      refine R_iaddN (x := (ccN (frB f m h w) 6 i)) (y := 1) rfl ?_
      refine R_istore_n rfl (by decide) ?_
      refine R_iincN (x := i) (m := 1) rfl rfl rfl (by decide) ?_
      refine R_goto rfl rfl ?_
      have e := ih (i + 1) _ (by omega) ⟨(hI.1.trans (hσ2.mono (q := pQ) pQ_W)), ((hσ2.i (by unfold pW; omega)).trans hI.2.1), by omega⟩
      rw [show ccN (frB f m h w) 6 (i + 1) = ccN (frB f m h w) 6 i + 1 from by simp only [ccN]; exact if_pos ⟨by omega, g2⟩] at e
      exact e.weak ⟨rfl, rfl, rfl, rfl, trivial⟩
set_option maxRecDepth 100000 in
set_option maxHeartbeats 4000000 in
theorem sp_M_circuits {σ : am_G} {h w rh pn : Nat} {f v rl : am_Gr} {I : Nat → Int32} {m : Nat} (hn : nV σ h w f v rh rl pn I) (hmd : m ∈ mdL) : am_Call am_TX 14 0 c_M_circuits [.ref 120, .int (nI m)] (mm σ) (am_Ok (some (.int (nI (ccN (frB f m h w) 6 (2 ^ h))))) (fun σ1 => smP pQ σ σ1 ∧ σ1.1 120 0 = 0)) := by
  have hv := hn.toV
  have hs := hn.2.1.2.1
  have hh1 := hv.1.1.1
  have hh6 := hv.1.1.2
  have hw1 := hv.1.2.1
  have hw6 := hv.1.2.2
  have hp6 := hn.2.1.2.2.2.1.1
  have hr6 := hn.2.1.2.2.2.2.2.2.1
  have hs7 := lw_lt hh6
  have ws7 := lw_lt hw6
  have hm97 := md_97 hmd
  have hp2h := Nat.two_pow_pos h
  have hp2w := Nat.two_pow_pos w
  have h2h : 2 ^ h ≤ 2 ^ 6 := Nat.pow_le_pow_right (by omega) hv.1.1.2
  have h2w : 2 ^ w ≤ 2 ^ 6 := Nat.pow_le_pow_right (by omega) hv.1.2.2
  refine ⟨mf_M_circuits, Nat.le_of_ble_eq_true rfl, ?_⟩
  refine R_aload_n rfl rfl ?_
  refine R_iload_n rfl rfl ?_
  refine R_cS (as := [.int (nI m)]) rfl rfl iv_M_isModulus (isMod_1 hmd) (by omega) rfl rfl rfl rfl (Nat.le_of_ble_eq_true rfl) (fun _ q => ?_)
  obtain rfl := q.symm
  refine R_cV (as := [.int 1]) rfl rfl iv_M_passes (pass_1) (by omega) rfl rfl rfl (by decide) rfl rfl (Nat.le_of_ble_eq_true rfl) (fun _ q => ?_)
  obtain rfl := q.symm
  refine R_if_ne rfl rfl (fun _ => ?_) (fun z => absurd z (by decide))
  refine R_iconst (v := 0) rfl rfl ?_
  refine R_istore_n rfl (by decide) ?_
  refine R_iconst (v := 1) rfl rfl ?_
  refine R_istore_n rfl (by decide) ?_
  exact (lp_mccs hn hmd (by omega) (2 ^ h - 1) 1 _ (by omega) ⟨(smP_sI (p := pQ) (k := 120) (j := 0) (x := 0) (by unfold pQ; omega)), sI_s, by omega⟩).weak ⟨rfl, rfl, rfl, rfl, trivial⟩
set_option maxRecDepth 100000 in
set_option maxHeartbeats 4000000 in
theorem sp_M_circuits_x0 {σ : am_G} {h w rh pn : Nat} {f v rl : am_Gr} {I : Nat → Int32} {x : Int32} (hn : nV σ h w f v rh rl pn I) (hb : ∀ n, n ∈ mdL → x ≠ nI n) : am_Call am_TX 14 0 c_M_circuits [.ref 120, .int x] (mm σ) (am_Ok (some (.int 0)) (fun σ1 => smP pQ σ σ1 ∧ σ1.1 120 0 = 1)) := by
  have hv := hn.toV
  have hs := hn.2.1.2.1
  have hh1 := hv.1.1.1
  have hh6 := hv.1.1.2
  have hw1 := hv.1.2.1
  have hw6 := hv.1.2.2
  have hp6 := hn.2.1.2.2.2.1.1
  have hr6 := hn.2.1.2.2.2.2.2.2.1
  have hs7 := lw_lt hh6
  have ws7 := lw_lt hw6
  refine ⟨mf_M_circuits, Nat.le_of_ble_eq_true rfl, ?_⟩
  refine R_aload_n rfl rfl ?_
  refine R_iload_n rfl rfl ?_
  refine R_cS (as := [.int x]) rfl rfl iv_M_isModulus (isMod_0 hb) (by omega) rfl rfl rfl rfl (Nat.le_of_ble_eq_true rfl) (fun _ q => ?_)
  obtain rfl := q.symm
  refine R_cV (as := [.int 0]) rfl rfl iv_M_passes (pass_0) (by omega) rfl rfl rfl (by decide) rfl rfl (Nat.le_of_ble_eq_true rfl) (fun _ q => ?_)
  obtain rfl := q.symm
  refine R_if_ne rfl rfl (fun z => absurd z (by decide)) (fun _ => ?_)
  refine R_iconst (v := 0) rfl rfl ?_
  exact T_ireturn rfl rfl (am_oki rfl ⟨(smP_sI (p := pQ) (k := 120) (j := 0) (x := 1) (by unfold pQ; omega)), sI_s⟩)
set_option maxRecDepth 100000 in
set_option maxHeartbeats 4000000 in
theorem lp_mcco {σ : am_G} {h w rh pn : Nat} {f v rl : am_Gr} {I : Nat → Int32} {m r : Nat} {d k0 : Nat} (hn : nV σ h w f v rh rl pn I) (hmd : m ∈ mdL) (r_h : r < h) (hd : 10 ≤ d)  : ∀ (uu i : Nat) (τ : am_G), i + uu = 2 ^ h → (smP pQ σ τ ∧ τ.1 120 0 = 0) → am_R am_TX d k0 c_M_circuit 20 [some (.ref 120), some (.int (nI m)), some (.int (nI r)), some (.int (nI i))] [] (mm τ) (am_Ok (some (.int (lcF (frB f m h w) 6 r uu i))) (fun σ1 => smP pQ σ σ1 ∧ σ1.1 120 0 = 0)) := by
  have hv := hn.toV
  have hs := hn.2.1.2.1
  have hh1 := hv.1.1.1
  have hh6 := hv.1.1.2
  have hw1 := hv.1.2.1
  have hw6 := hv.1.2.2
  have hp6 := hn.2.1.2.2.2.1.1
  have hr6 := hn.2.1.2.2.2.2.2.2.1
  have hs7 := lw_lt hh6
  have ws7 := lw_lt hw6
  have hp2h := Nat.two_pow_pos h
  have hp2w := Nat.two_pow_pos w
  have h2h : 2 ^ h ≤ 2 ^ 6 := Nat.pow_le_pow_right (by omega) hv.1.1.2
  have h2w : 2 ^ w ≤ 2 ^ 6 := Nat.pow_le_pow_right (by omega) hv.1.2.2
  have hm97 := md_97 hmd
  intro uu
  induction uu with
  | zero =>
    intro i τ hi hI
    obtain rfl : 2 ^ h = i := by omega
    refine R_iload_n rfl rfl ?_
    refine R_aload_n rfl rfl ?_
    refine R_cV (as := []) rfl rfl iv_M_allRows (sp_mallRows (hI.1.mV hv (fun b => by unfold pQ; omega) (fun b => by unfold pQ; omega) (by unfold pQ; omega))) (by omega) rfl rfl rfl (by decide) rfl rfl (Nat.le_of_ble_eq_true rfl) (fun _ q => ?_)
    obtain rfl := q.symm
    refine R_nicmp_gt (x := (2 ^ h)) (y := (2 ^ h - 1)) rfl rfl (by omega) (by omega) (fun g1 => ?_) (fun z => by omega)
    refine R_iconst (v := -1) rfl rfl ?_
    exact T_ireturn rfl rfl (am_oki rfl hI)
  | succ uu ih =>
    intro i τ hi hI
    refine R_iload_n rfl rfl ?_
    refine R_aload_n rfl rfl ?_
    refine R_cV (as := []) rfl rfl iv_M_allRows (sp_mallRows (hI.1.mV hv (fun b => by unfold pQ; omega) (fun b => by unfold pQ; omega) (by unfold pQ; omega))) (by omega) rfl rfl rfl (by decide) rfl rfl (Nat.le_of_ble_eq_true rfl) (fun _ q => ?_)
    obtain rfl := q.symm
    refine R_nicmp_gt (x := i) (y := (2 ^ h - 1)) rfl rfl (by omega) (by omega) (fun z => by omega) (fun g1 => ?_)
    refine R_iload_n rfl rfl ?_
    refine R_iload_n rfl rfl ?_
    refine R_cS (as := [.int (nI i), .int (nI r)]) rfl rfl iv_M_has (sp_mhas (s := i) (k := r) (by first | assumption | exact lw_lt (by omega) | exact wi_lt (by first | assumption | omega) (by omega) | exact wo_lt (by first | assumption | omega) (by omega) | omega) (by omega)) (by omega) rfl rfl rfl rfl (Nat.le_of_ble_eq_true rfl) (fun _ q => ?_)
    obtain rfl := q.symm
    refine R_zif_eq rfl rfl (fun g2 => ?_) (fun g2 => ?_)
    · refine R_iincN (x := i) (m := 1) rfl rfl rfl (by decide) ?_
      refine R_goto rfl rfl ?_
      have e := ih (i + 1) _ (by omega) ⟨hI.1, hI.2⟩
      rw [show lcF (frB f m h w) 6 r (uu + 1) i = lcF (frB f m h w) 6 r uu (i + 1) from by simp only [lcF]; exact if_neg (fun z => g2 z.1)]
      exact e.weak ⟨rfl, rfl, rfl, rfl, trivial⟩
    · refine R_aload_n rfl rfl ?_
      refine R_iload_n rfl rfl ?_
      refine R_iload_n rfl rfl ?_
      refine R_cV (as := [.int (nI m), .int (nI i)]) rfl rfl iv_M_isCircuit (sp_misCircuit (m := m) (S := i) (hI.1.mV hv (fun b => by unfold pQ; omega) (fun b => by unfold pQ; omega) (by unfold pQ; omega)) hs (by omega) (by omega)) (by omega) rfl rfl rfl (by decide) rfl rfl (Nat.le_of_ble_eq_true rfl) (fun σ3 hσ3 => ?_)
      refine R_zif_eq rfl rfl (fun g3 => ?_) (fun g3 => ?_)
      · refine R_iincN (x := i) (m := 1) rfl rfl rfl (by decide) ?_
        refine R_goto rfl rfl ?_
        have e := ih (i + 1) _ (by omega) ⟨(hI.1.trans (hσ3.mono (q := pQ) pQ_W)), ((hσ3.i (by unfold pW; omega)).trans hI.2)⟩
        rw [show lcF (frB f m h w) 6 r (uu + 1) i = lcF (frB f m h w) 6 r uu (i + 1) from by simp only [lcF]; exact if_neg (fun z => g3 z.2)]
        exact e.weak ⟨rfl, rfl, rfl, rfl, trivial⟩
      · refine R_iload_n rfl rfl ?_
        exact T_ireturn rfl rfl (am_oki (if_pos ⟨g2, g3⟩).symm ⟨(hI.1.trans (hσ3.mono (q := pQ) pQ_W)), ((hσ3.i (by unfold pW; omega)).trans hI.2)⟩)
set_option maxRecDepth 100000 in
set_option maxHeartbeats 4000000 in
theorem sp_M_circuit {σ : am_G} {h w rh pn : Nat} {f v rl : am_Gr} {I : Nat → Int32} {r : Nat} {m : Nat} (hn : nV σ h w f v rh rl pn I) (r_h : r < h) (hmd : m ∈ mdL) : am_Call am_TX 14 0 c_M_circuit [.ref 120, .int (nI m), .int (nI r)] (mm σ) (am_Ok (some (.int (lcF (frB f m h w) 6 r (2 ^ h - 1) 1))) (fun σ1 => smP pQ σ σ1 ∧ σ1.1 120 0 = 0)) := by
  have hv := hn.toV
  have hs := hn.2.1.2.1
  have hh1 := hv.1.1.1
  have hh6 := hv.1.1.2
  have hw1 := hv.1.2.1
  have hw6 := hv.1.2.2
  have hp6 := hn.2.1.2.2.2.1.1
  have hr6 := hn.2.1.2.2.2.2.2.2.1
  have hs7 := lw_lt hh6
  have ws7 := lw_lt hw6
  have hm97 := md_97 hmd
  have hp2h := Nat.two_pow_pos h
  have hp2w := Nat.two_pow_pos w
  have h2h : 2 ^ h ≤ 2 ^ 6 := Nat.pow_le_pow_right (by omega) hv.1.1.2
  have h2w : 2 ^ w ≤ 2 ^ 6 := Nat.pow_le_pow_right (by omega) hv.1.2.2
  refine ⟨mf_M_circuit, Nat.le_of_ble_eq_true rfl, ?_⟩
  refine R_aload_n rfl rfl ?_
  refine R_aload_n rfl rfl ?_
  refine R_iload_n rfl rfl ?_
  refine R_cV (as := [.int (nI r)]) rfl rfl iv_M_isRow (isRow_1 (n := r) hv (by omega)) (by omega) rfl rfl rfl (by decide) rfl rfl (Nat.le_of_ble_eq_true rfl) (fun _ q => ?_)
  obtain rfl := q.symm
  refine R_iload_n rfl rfl ?_
  refine R_cS (as := [.int (nI m)]) rfl rfl iv_M_isModulus (isMod_1 hmd) (by omega) rfl rfl rfl rfl (Nat.le_of_ble_eq_true rfl) (fun _ q => ?_)
  obtain rfl := q.symm
  refine R_cV (as := [.int 1, .int 1]) rfl rfl iv_M_passes2 (pass2_11) (by omega) rfl rfl rfl (by decide) rfl rfl (Nat.le_of_ble_eq_true rfl) (fun _ q => ?_)
  obtain rfl := q.symm
  refine R_if_ne rfl rfl (fun _ => ?_) (fun z => absurd z (by decide))
  refine R_iconst (v := 1) rfl rfl ?_
  refine R_istore_n rfl (by decide) ?_
  exact (lp_mcco hn hmd r_h (by omega) (2 ^ h - 1) 1 _ (by omega) ⟨(smP_sI (p := pQ) (k := 120) (j := 0) (x := 0) (by unfold pQ; omega)), sI_s⟩).weak ⟨rfl, rfl, rfl, rfl, trivial⟩
set_option maxRecDepth 100000 in
set_option maxHeartbeats 4000000 in
theorem sp_M_circuit_x0 {σ : am_G} {h w rh pn : Nat} {f v rl : am_Gr} {I : Nat → Int32} {m_ : Int32} {x : Int32} (hn : nV σ h w f v rh rl pn I) (hb : ¬ (0 ≤ x ∧ x < nI h)) : am_Call am_TX 14 0 c_M_circuit [.ref 120, .int m_, .int x] (mm σ) (am_Ok (some (.int 0)) (fun σ1 => smP pQ σ σ1 ∧ σ1.1 120 0 = 1)) := by
  have hv := hn.toV
  have hs := hn.2.1.2.1
  have hh1 := hv.1.1.1
  have hh6 := hv.1.1.2
  have hw1 := hv.1.2.1
  have hw6 := hv.1.2.2
  have hp6 := hn.2.1.2.2.2.1.1
  have hr6 := hn.2.1.2.2.2.2.2.2.1
  have hs7 := lw_lt hh6
  have ws7 := lw_lt hw6
  refine ⟨mf_M_circuit, Nat.le_of_ble_eq_true rfl, ?_⟩
  refine R_aload_n rfl rfl ?_
  refine R_aload_n rfl rfl ?_
  refine R_iload_n rfl rfl ?_
  refine R_cV (as := [.int x]) rfl rfl iv_M_isRow (isRow_0 hv hb) (by omega) rfl rfl rfl (by decide) rfl rfl (Nat.le_of_ble_eq_true rfl) (fun _ q => ?_)
  obtain rfl := q.symm
  refine R_iload_n rfl rfl ?_
  refine R_cS (as := [.int m_]) rfl rfl iv_M_isModulus (isMod_u (x := m_)) (by omega) rfl rfl rfl rfl (Nat.le_of_ble_eq_true rfl) (fun _ q => ?_)
  obtain rfl := q.symm
  refine R_cV (as := [.int 0, .int (zP (mdB m_ = true))]) rfl rfl iv_M_passes2 (pass2_0u (P := mdB m_ = true)) (by omega) rfl rfl rfl (by decide) rfl rfl (Nat.le_of_ble_eq_true rfl) (fun _ q => ?_)
  obtain rfl := q.symm
  refine R_if_ne rfl rfl (fun z => absurd z (by decide)) (fun _ => ?_)
  refine R_iconst (v := 0) rfl rfl ?_
  exact T_ireturn rfl rfl (am_oki rfl ⟨(smP_sI (p := pQ) (k := 120) (j := 0) (x := 1) (by unfold pQ; omega)), sI_s⟩)
set_option maxRecDepth 100000 in
set_option maxHeartbeats 4000000 in
theorem sp_M_circuit_x1 {σ : am_G} {h w rh pn : Nat} {f v rl : am_Gr} {I : Nat → Int32} {r : Nat} {x : Int32} (hn : nV σ h w f v rh rl pn I) (r_h : r < h) (hb : ∀ n, n ∈ mdL → x ≠ nI n) : am_Call am_TX 14 0 c_M_circuit [.ref 120, .int x, .int (nI r)] (mm σ) (am_Ok (some (.int 0)) (fun σ1 => smP pQ σ σ1 ∧ σ1.1 120 0 = 2)) := by
  have hv := hn.toV
  have hs := hn.2.1.2.1
  have hh1 := hv.1.1.1
  have hh6 := hv.1.1.2
  have hw1 := hv.1.2.1
  have hw6 := hv.1.2.2
  have hp6 := hn.2.1.2.2.2.1.1
  have hr6 := hn.2.1.2.2.2.2.2.2.1
  have hs7 := lw_lt hh6
  have ws7 := lw_lt hw6
  refine ⟨mf_M_circuit, Nat.le_of_ble_eq_true rfl, ?_⟩
  refine R_aload_n rfl rfl ?_
  refine R_aload_n rfl rfl ?_
  refine R_iload_n rfl rfl ?_
  refine R_cV (as := [.int (nI r)]) rfl rfl iv_M_isRow (isRow_1 (n := r) hv (by omega)) (by omega) rfl rfl rfl (by decide) rfl rfl (Nat.le_of_ble_eq_true rfl) (fun _ q => ?_)
  obtain rfl := q.symm
  refine R_iload_n rfl rfl ?_
  refine R_cS (as := [.int x]) rfl rfl iv_M_isModulus (isMod_0 hb) (by omega) rfl rfl rfl rfl (Nat.le_of_ble_eq_true rfl) (fun _ q => ?_)
  obtain rfl := q.symm
  refine R_cV (as := [.int 1, .int 0]) rfl rfl iv_M_passes2 (pass2_10) (by omega) rfl rfl rfl (by decide) rfl rfl (Nat.le_of_ble_eq_true rfl) (fun _ q => ?_)
  obtain rfl := q.symm
  refine R_if_ne rfl rfl (fun z => absurd z (by decide)) (fun _ => ?_)
  refine R_iconst (v := 0) rfl rfl ?_
  exact T_ireturn rfl rfl (am_oki rfl ⟨(smP_sI (p := pQ) (k := 120) (j := 0) (x := 2) (by unfold pQ; omega)), sI_s⟩)
set_option maxRecDepth 100000 in
set_option maxHeartbeats 4000000 in
theorem lp_mclo {σ : am_G} {h w rh pn : Nat} {f v rl : am_Gr} {I : Nat → Int32} {m S : Nat} {d k0 : Nat} (hn : nV σ h w f v rh rl pn I) (hmd : m ∈ mdL) (hS : S < 2 ^ h) (hd : 10 ≤ d)  : ∀ (uu i : Nat) (τ : am_G), i + uu = h → (smP pQ σ τ ∧ τ.1 120 0 = 0) → am_R am_TX d k0 c_M_closure 34 [some (.ref 120), some (.int (nI m)), some (.int (nI S)), some (.int (nI (spN f m h w S i))), some (.int (nI i))] [] (mm τ) (am_Ok (some (.int (nI (spN f m h w S h)))) (fun σ1 => smP pQ σ σ1 ∧ σ1.1 120 0 = 0)) := by
  have hv := hn.toV
  have hs := hn.2.1.2.1
  have hh1 := hv.1.1.1
  have hh6 := hv.1.1.2
  have hw1 := hv.1.2.1
  have hw6 := hv.1.2.2
  have hp6 := hn.2.1.2.2.2.1.1
  have hr6 := hn.2.1.2.2.2.2.2.2.1
  have hs7 := lw_lt hh6
  have ws7 := lw_lt hw6
  have hm97 := md_97 hmd
  have hS6 := p2_64 hS hh6
  intro uu
  induction uu with
  | zero =>
    intro i τ hi hI
    obtain rfl : h = i := by omega
    skip
    refine R_iload rfl rfl ?_
    refine R_aload_n rfl rfl ?_
    refine R_cV (as := []) rfl rfl iv_M_rows (sp_rows (hI.1.mV hv (fun b => by unfold pQ; omega) (fun b => by unfold pQ; omega) (by unfold pQ; omega))) (by omega) rfl rfl rfl (by decide) rfl rfl (Nat.le_of_ble_eq_true rfl) (fun _ q => ?_)
    obtain rfl := q.symm
    refine R_nicmp_ge (x := h) (y := h) rfl rfl (by omega) (by omega) (fun g1 => ?_) (fun z => by omega)
    refine R_iload_n rfl rfl ?_
    exact T_ireturn rfl rfl (am_oki rfl hI)
  | succ uu ih =>
    intro i τ hi hI
    have hsp := @spN_lt f m h w S i (by omega)
    have hk1 : rkO f m (wi S i) (2 ^ w - 1) h w ≤ 6 := rkO_6 hh6
    have hk2 : rkO f m S (2 ^ w - 1) h w ≤ 6 := rkO_6 hh6
    refine R_iload rfl rfl ?_
    refine R_aload_n rfl rfl ?_
    refine R_cV (as := []) rfl rfl iv_M_rows (sp_rows (hI.1.mV hv (fun b => by unfold pQ; omega) (fun b => by unfold pQ; omega) (by unfold pQ; omega))) (by omega) rfl rfl rfl (by decide) rfl rfl (Nat.le_of_ble_eq_true rfl) (fun _ q => ?_)
    obtain rfl := q.symm
    refine R_nicmp_ge (x := i) (y := h) rfl rfl (by omega) (by omega) (fun z => by omega) (fun g1 => ?_)
    refine R_iload_n rfl rfl ?_
    refine R_aload_n rfl rfl ?_
    refine R_iload_n rfl rfl ?_
    refine R_iload_n rfl rfl ?_
    refine R_iconst (v := 1) rfl rfl ?_
    refine R_iload rfl rfl ?_
    refine R_shl1N (y := i) rfl (by omega) ?_
    refine R_iorB (s := S) (y := i) rfl (by first | assumption | omega) (by omega) ?_
    refine R_cV (as := [.int (nI m), .int (nI (wi S i))]) rfl rfl iv_M_rankOfRows (sp_rankOfRows (m := m) (S := (wi S i)) (hI.1.mV hv (fun b => by unfold pQ; omega) (fun b => by unfold pQ; omega) (by unfold pQ; omega)) hs (by omega) (by first | assumption | exact lw_lt (by omega) | exact wi_lt (by first | assumption | omega) (by omega) | exact wo_lt (by first | assumption | omega) (by omega) | omega)) (by omega) rfl rfl rfl (by decide) rfl rfl (Nat.le_of_ble_eq_true rfl) (fun σ2 hσ2 => ?_)
    refine R_aload_n rfl rfl ?_
    refine R_iload_n rfl rfl ?_
    refine R_iload_n rfl rfl ?_
    refine R_cV (as := [.int (nI m), .int (nI S)]) rfl rfl iv_M_rankOfRows (sp_rankOfRows (m := m) (S := S) ((hI.1.trans (hσ2.mono (q := pQ) pQ_W)).mV hv (fun b => by unfold pQ; omega) (fun b => by unfold pQ; omega) (by unfold pQ; omega)) hs (by omega) (by first | assumption | exact lw_lt (by omega) | exact wi_lt (by first | assumption | omega) (by omega) | exact wo_lt (by first | assumption | omega) (by omega) | omega)) (by omega) rfl rfl rfl (by decide) rfl rfl (Nat.le_of_ble_eq_true rfl) (fun σ4 hσ4 => ?_)
    refine R_nicmp_ne (x := (rkO f m (wi S i) (2 ^ w - 1) h w)) (y := (rkO f m S (2 ^ w - 1) h w)) rfl rfl (by omega) (by omega) (fun g2 => ?_) (fun g2 => ?_)
    · refine R_iconst (v := 0) rfl rfl ?_
      refine R_ior rfl ?_
      rw [Int32.or_zero]
      refine R_istore_n rfl (by decide) ?_
      refine R_iincN (x := i) (m := 1) rfl rfl rfl (by decide) ?_
      refine R_goto rfl rfl ?_
      have e := ih (i + 1) _ (by omega) ⟨((hI.1.trans (hσ2.mono (q := pQ) pQ_W)).trans (hσ4.mono (q := pQ) pQ_W)), ((hσ4.i (by unfold pW; omega)).trans ((hσ2.i (by unfold pW; omega)).trans hI.2))⟩
      rw [show spN f m h w S (i + 1) = spN f m h w S i from by simp only [spN]; exact if_neg g2] at e
      exact e.weak ⟨rfl, rfl, rfl, rfl, rfl, trivial⟩
    · refine R_iconst (v := 1) rfl rfl ?_
      refine R_iload rfl rfl ?_
      refine R_shl1N (y := i) rfl (by omega) ?_
      refine R_goto rfl rfl ?_
      refine R_iorB (s := (spN f m h w S i)) (y := i) rfl (by first | assumption | omega) (by omega) ?_
      refine R_istore_n rfl (by decide) ?_
      refine R_iincN (x := i) (m := 1) rfl rfl rfl (by decide) ?_
      refine R_goto rfl rfl ?_
      have e := ih (i + 1) _ (by omega) ⟨((hI.1.trans (hσ2.mono (q := pQ) pQ_W)).trans (hσ4.mono (q := pQ) pQ_W)), ((hσ4.i (by unfold pW; omega)).trans ((hσ2.i (by unfold pW; omega)).trans hI.2))⟩
      rw [show spN f m h w S (i + 1) = wi (spN f m h w S i) i from by simp only [spN]; exact if_pos g2] at e
      exact e.weak ⟨rfl, rfl, rfl, rfl, rfl, trivial⟩
set_option maxRecDepth 100000 in
set_option maxHeartbeats 4000000 in
theorem sp_M_closure {σ : am_G} {h w rh pn : Nat} {f v rl : am_Gr} {I : Nat → Int32} {m : Nat} {S : Nat} (hn : nV σ h w f v rh rl pn I) (hmd : m ∈ mdL) (hS : S < 2 ^ h) : am_Call am_TX 14 0 c_M_closure [.ref 120, .int (nI m), .int (nI S)] (mm σ) (am_Ok (some (.int (nI (spN f m h w S h)))) (fun σ1 => smP pQ σ σ1 ∧ σ1.1 120 0 = 0)) := by
  have hv := hn.toV
  have hs := hn.2.1.2.1
  have hh1 := hv.1.1.1
  have hh6 := hv.1.1.2
  have hw1 := hv.1.2.1
  have hw6 := hv.1.2.2
  have hp6 := hn.2.1.2.2.2.1.1
  have hr6 := hn.2.1.2.2.2.2.2.2.1
  have hs7 := lw_lt hh6
  have ws7 := lw_lt hw6
  have hm97 := md_97 hmd
  have hS6 := p2_64 hS hh6
  refine ⟨mf_M_closure, Nat.le_of_ble_eq_true rfl, ?_⟩
  refine R_aload_n rfl rfl ?_
  refine R_iload_n rfl rfl ?_
  refine R_cS (as := [.int (nI m)]) rfl rfl iv_M_isModulus (isMod_1 hmd) (by omega) rfl rfl rfl rfl (Nat.le_of_ble_eq_true rfl) (fun _ q => ?_)
  obtain rfl := q.symm
  refine R_if_eq rfl rfl (fun z => absurd z (by decide)) (fun _ => ?_)
  refine R_aload_n rfl rfl ?_
  refine R_iload_n rfl rfl ?_
  refine R_cV (as := [.int (nI S)]) rfl rfl iv_M_areRows (areRows_1 hv (msk_ok hh6 hS)) (by omega) rfl rfl rfl (by decide) rfl rfl (Nat.le_of_ble_eq_true rfl) (fun _ q => ?_)
  obtain rfl := q.symm
  refine R_if_eq rfl rfl (fun z => absurd z (by decide)) (fun _ => ?_)
  refine R_iconst (v := 1) rfl rfl ?_
  refine R_goto rfl rfl ?_
  refine R_cV (as := [.int 1]) rfl rfl iv_M_passes (pass_1) (by omega) rfl rfl rfl (by decide) rfl rfl (Nat.le_of_ble_eq_true rfl) (fun _ q => ?_)
  obtain rfl := q.symm
  refine R_if_ne rfl rfl (fun _ => ?_) (fun z => absurd z (by decide))
  refine R_iconst (v := 0) rfl rfl ?_
  refine R_istore_n rfl (by decide) ?_
  refine R_iconst (v := 0) rfl rfl ?_
  refine R_istore rfl (by decide) ?_
  exact (lp_mclo hn hmd hS (by omega) h 0 _ (by omega) ⟨(smP_sI (p := pQ) (k := 120) (j := 0) (x := 0) (by unfold pQ; omega)), sI_s⟩).weak ⟨rfl, rfl, rfl, rfl, rfl, trivial⟩
set_option maxRecDepth 100000 in
set_option maxHeartbeats 4000000 in
theorem sp_M_closure_x0 {σ : am_G} {h w rh pn : Nat} {f v rl : am_Gr} {I : Nat → Int32} {S_ : Int32} {x : Int32} (hn : nV σ h w f v rh rl pn I) (hb : ∀ n, n ∈ mdL → x ≠ nI n) : am_Call am_TX 14 0 c_M_closure [.ref 120, .int x, .int S_] (mm σ) (am_Ok (some (.int 0)) (fun σ1 => smP pQ σ σ1 ∧ σ1.1 120 0 = 1)) := by
  have hv := hn.toV
  have hs := hn.2.1.2.1
  have hh1 := hv.1.1.1
  have hh6 := hv.1.1.2
  have hw1 := hv.1.2.1
  have hw6 := hv.1.2.2
  have hp6 := hn.2.1.2.2.2.1.1
  have hr6 := hn.2.1.2.2.2.2.2.2.1
  have hs7 := lw_lt hh6
  have ws7 := lw_lt hw6
  refine ⟨mf_M_closure, Nat.le_of_ble_eq_true rfl, ?_⟩
  refine R_aload_n rfl rfl ?_
  refine R_iload_n rfl rfl ?_
  refine R_cS (as := [.int x]) rfl rfl iv_M_isModulus (isMod_0 hb) (by omega) rfl rfl rfl rfl (Nat.le_of_ble_eq_true rfl) (fun _ q => ?_)
  obtain rfl := q.symm
  refine R_if_eq rfl rfl (fun _ => ?_) (fun z => absurd z (by decide))
  refine R_iconst (v := 0) rfl rfl ?_
  refine R_cV (as := [.int 0]) rfl rfl iv_M_passes (pass_0) (by omega) rfl rfl rfl (by decide) rfl rfl (Nat.le_of_ble_eq_true rfl) (fun _ q => ?_)
  obtain rfl := q.symm
  refine R_if_ne rfl rfl (fun z => absurd z (by decide)) (fun _ => ?_)
  refine R_iconst (v := 0) rfl rfl ?_
  exact T_ireturn rfl rfl (am_oki rfl ⟨(smP_sI (p := pQ) (k := 120) (j := 0) (x := 1) (by unfold pQ; omega)), sI_s⟩)
set_option maxRecDepth 100000 in
set_option maxHeartbeats 4000000 in
theorem sp_M_closure_x1 {σ : am_G} {h w rh pn : Nat} {f v rl : am_Gr} {I : Nat → Int32} {m : Nat} {x : Int32} (hn : nV σ h w f v rh rl pn I) (hmd : m ∈ mdL) (hb : ¬ x &&& (nI (2 ^ h - 1) ^^^ (-1)) = 0) : am_Call am_TX 14 0 c_M_closure [.ref 120, .int (nI m), .int x] (mm σ) (am_Ok (some (.int 0)) (fun σ1 => smP pQ σ σ1 ∧ σ1.1 120 0 = 1)) := by
  have hv := hn.toV
  have hs := hn.2.1.2.1
  have hh1 := hv.1.1.1
  have hh6 := hv.1.1.2
  have hw1 := hv.1.2.1
  have hw6 := hv.1.2.2
  have hp6 := hn.2.1.2.2.2.1.1
  have hr6 := hn.2.1.2.2.2.2.2.2.1
  have hs7 := lw_lt hh6
  have ws7 := lw_lt hw6
  have hm97 := md_97 hmd
  refine ⟨mf_M_closure, Nat.le_of_ble_eq_true rfl, ?_⟩
  refine R_aload_n rfl rfl ?_
  refine R_iload_n rfl rfl ?_
  refine R_cS (as := [.int (nI m)]) rfl rfl iv_M_isModulus (isMod_1 hmd) (by omega) rfl rfl rfl rfl (Nat.le_of_ble_eq_true rfl) (fun _ q => ?_)
  obtain rfl := q.symm
  refine R_if_eq rfl rfl (fun z => absurd z (by decide)) (fun _ => ?_)
  refine R_aload_n rfl rfl ?_
  refine R_iload_n rfl rfl ?_
  refine R_cV (as := [.int x]) rfl rfl iv_M_areRows (areRows_0 hv hb) (by omega) rfl rfl rfl (by decide) rfl rfl (Nat.le_of_ble_eq_true rfl) (fun _ q => ?_)
  obtain rfl := q.symm
  refine R_if_eq rfl rfl (fun _ => ?_) (fun z => absurd z (by decide))
  refine R_iconst (v := 0) rfl rfl ?_
  refine R_cV (as := [.int 0]) rfl rfl iv_M_passes (pass_0) (by omega) rfl rfl rfl (by decide) rfl rfl (Nat.le_of_ble_eq_true rfl) (fun _ q => ?_)
  obtain rfl := q.symm
  refine R_if_ne rfl rfl (fun z => absurd z (by decide)) (fun _ => ?_)
  refine R_iconst (v := 0) rfl rfl ?_
  exact T_ireturn rfl rfl (am_oki rfl ⟨(smP_sI (p := pQ) (k := 120) (j := 0) (x := 1) (by unfold pQ; omega)), sI_s⟩)
set_option maxRecDepth 100000 in
set_option maxHeartbeats 4000000 in
theorem lp_mext {σ : am_G} {h w rh pn : Nat} {f v rl : am_Gr} {I : Nat → Int32} {m S : Nat} {d k0 : Nat} (hn : nV σ h w f v rh rl pn I) (hmd : m ∈ mdL) (hS : S < 2 ^ h) (hd : 10 ≤ d)  : ∀ (uu i : Nat) (τ : am_G), i + uu = h → (smP pQ σ τ ∧ τ.1 120 0 = 0) → am_R am_TX d k0 c_M_extensions 54 [some (.ref 120), some (.int (nI m)), some (.int (nI S)), some (.int 1), some (.int (nI (exN f m h w S i))), some (.int (nI i))] [] (mm τ) (am_Ok (some (.int (nI (exN f m h w S h)))) (fun σ1 => smP pQ σ σ1 ∧ σ1.1 120 0 = 0)) := by
  have hv := hn.toV
  have hs := hn.2.1.2.1
  have hh1 := hv.1.1.1
  have hh6 := hv.1.1.2
  have hw1 := hv.1.2.1
  have hw6 := hv.1.2.2
  have hp6 := hn.2.1.2.2.2.1.1
  have hr6 := hn.2.1.2.2.2.2.2.2.1
  have hs7 := lw_lt hh6
  have ws7 := lw_lt hw6
  have hm97 := md_97 hmd
  have hS6 := p2_64 hS hh6
  intro uu
  induction uu with
  | zero =>
    intro i τ hi hI
    obtain rfl : h = i := by omega
    skip
    refine R_iload rfl rfl ?_
    refine R_aload_n rfl rfl ?_
    refine R_cV (as := []) rfl rfl iv_M_rows (sp_rows (hI.1.mV hv (fun b => by unfold pQ; omega) (fun b => by unfold pQ; omega) (by unfold pQ; omega))) (by omega) rfl rfl rfl (by decide) rfl rfl (Nat.le_of_ble_eq_true rfl) (fun _ q => ?_)
    obtain rfl := q.symm
    refine R_nicmp_ge (x := h) (y := h) rfl rfl (by omega) (by omega) (fun g1 => ?_) (fun z => by omega)
    refine R_iload rfl rfl ?_
    exact T_ireturn rfl rfl (am_oki rfl hI)
  | succ uu ih =>
    intro i τ hi hI
    have hsp := @exN_lt f m h w S i (by omega)
    refine R_iload rfl rfl ?_
    refine R_aload_n rfl rfl ?_
    refine R_cV (as := []) rfl rfl iv_M_rows (sp_rows (hI.1.mV hv (fun b => by unfold pQ; omega) (fun b => by unfold pQ; omega) (by unfold pQ; omega))) (by omega) rfl rfl rfl (by decide) rfl rfl (Nat.le_of_ble_eq_true rfl) (fun _ q => ?_)
    obtain rfl := q.symm
    refine R_nicmp_ge (x := i) (y := h) rfl rfl (by omega) (by omega) (fun z => by omega) (fun g1 => ?_)
    refine R_iload rfl rfl ?_
    refine R_iload_n rfl rfl ?_
    refine R_iload rfl rfl ?_
    refine R_cS (as := [.int (nI S), .int (nI i)]) rfl rfl iv_M_has (sp_mhas (s := S) (k := i) (by first | assumption | exact lw_lt (by omega) | exact wi_lt (by first | assumption | omega) (by omega) | exact wo_lt (by first | assumption | omega) (by omega) | omega) (by omega)) (by omega) rfl rfl rfl rfl (Nat.le_of_ble_eq_true rfl) (fun _ q => ?_)
    obtain rfl := q.symm
    refine R_zif_ne rfl rfl (fun g2 => ?_) (fun g2 => ?_)
    · refine R_iconst (v := 0) rfl rfl ?_
      refine R_ior rfl ?_
      rw [Int32.or_zero]
      refine R_istore rfl (by decide) ?_
      refine R_iincN (x := i) (m := 1) rfl rfl rfl (by decide) ?_
      refine R_goto rfl rfl ?_
      have e := ih (i + 1) _ (by omega) ⟨hI.1, hI.2⟩
      rw [show exN f m h w S (i + 1) = exN f m h w S i from by simp only [exN]; exact if_neg (fun z => z.1 g2)] at e
      exact e.weak ⟨rfl, rfl, rfl, rfl, rfl, rfl, trivial⟩
    · refine R_aload_n rfl rfl ?_
      refine R_iload_n rfl rfl ?_
      refine R_iload_n rfl rfl ?_
      refine R_iconst (v := 1) rfl rfl ?_
      refine R_iload rfl rfl ?_
      refine R_shl1N (y := i) rfl (by omega) ?_
      refine R_iorB (s := S) (y := i) rfl (by first | assumption | omega) (by omega) ?_
      refine R_cV (as := [.int (nI m), .int (nI (wi S i))]) rfl rfl iv_M_areFree (sp_areFree (m := m) (S := (wi S i)) (hI.1.mV hv (fun b => by unfold pQ; omega) (fun b => by unfold pQ; omega) (by unfold pQ; omega)) hs (by omega) (by first | assumption | exact lw_lt (by omega) | exact wi_lt (by first | assumption | omega) (by omega) | exact wo_lt (by first | assumption | omega) (by omega) | omega)) (by omega) rfl rfl rfl (by decide) rfl rfl (Nat.le_of_ble_eq_true rfl) (fun σ3 hσ3 => ?_)
      refine R_zif_eq rfl rfl (fun g3 => ?_) (fun g3 => ?_)
      · refine R_iconst (v := 0) rfl rfl ?_
        refine R_ior rfl ?_
        rw [Int32.or_zero]
        refine R_istore rfl (by decide) ?_
        refine R_iincN (x := i) (m := 1) rfl rfl rfl (by decide) ?_
        refine R_goto rfl rfl ?_
        have e := ih (i + 1) _ (by omega) ⟨(hI.1.trans (hσ3.mono (q := pQ) pQ_W)), ((hσ3.i (by unfold pW; omega)).trans hI.2)⟩
        rw [show exN f m h w S (i + 1) = exN f m h w S i from by simp only [exN]; exact if_neg (fun z => g3 z.2)] at e
        exact e.weak ⟨rfl, rfl, rfl, rfl, rfl, rfl, trivial⟩
      · refine R_iconst (v := 1) rfl rfl ?_
        refine R_iload rfl rfl ?_
        refine R_shl1N (y := i) rfl (by omega) ?_
        refine R_goto rfl rfl ?_
        refine R_iorB (s := (exN f m h w S i)) (y := i) rfl (by first | assumption | omega) (by omega) ?_
        refine R_istore rfl (by decide) ?_
        refine R_iincN (x := i) (m := 1) rfl rfl rfl (by decide) ?_
        refine R_goto rfl rfl ?_
        have e := ih (i + 1) _ (by omega) ⟨(hI.1.trans (hσ3.mono (q := pQ) pQ_W)), ((hσ3.i (by unfold pW; omega)).trans hI.2)⟩
        rw [show exN f m h w S (i + 1) = wi (exN f m h w S i) i from by simp only [exN]; exact if_pos ⟨g2, g3⟩] at e
        exact e.weak ⟨rfl, rfl, rfl, rfl, rfl, rfl, trivial⟩
set_option maxRecDepth 100000 in
set_option maxHeartbeats 4000000 in
theorem sp_M_extensions {σ : am_G} {h w rh pn : Nat} {f v rl : am_Gr} {I : Nat → Int32} {m : Nat} {S : Nat} (hn : nV σ h w f v rh rl pn I) (hmd : m ∈ mdL) (hS : S < 2 ^ h) (hfree : frB f m h w S = true) : am_Call am_TX 14 0 c_M_extensions [.ref 120, .int (nI m), .int (nI S)] (mm σ) (am_Ok (some (.int (nI (sdf (2 ^ h - 1) (spN f m h w S h))))) (fun σ1 => smP pQ σ σ1 ∧ σ1.1 120 0 = 0)) := by
  have hv := hn.toV
  have hs := hn.2.1.2.1
  have hh1 := hv.1.1.1
  have hh6 := hv.1.1.2
  have hw1 := hv.1.2.1
  have hw6 := hv.1.2.2
  have hp6 := hn.2.1.2.2.2.1.1
  have hr6 := hn.2.1.2.2.2.2.2.2.1
  have hs7 := lw_lt hh6
  have ws7 := lw_lt hw6
  have hm97 := md_97 hmd
  have hS6 := p2_64 hS hh6
  refine ⟨mf_M_extensions, Nat.le_of_ble_eq_true rfl, ?_⟩
  refine R_iload_n rfl rfl ?_
  refine R_cS (as := [.int (nI m)]) rfl rfl iv_M_isModulus (isMod_1 hmd) (by omega) rfl rfl rfl rfl (Nat.le_of_ble_eq_true rfl) (fun _ q => ?_)
  obtain rfl := q.symm
  refine R_if_eq rfl rfl (fun z => absurd z (by decide)) (fun _ => ?_)
  refine R_aload_n rfl rfl ?_
  refine R_iload_n rfl rfl ?_
  refine R_cV (as := [.int (nI S)]) rfl rfl iv_M_areRows (areRows_1 hv (msk_ok hh6 hS)) (by omega) rfl rfl rfl (by decide) rfl rfl (Nat.le_of_ble_eq_true rfl) (fun _ q => ?_)
  obtain rfl := q.symm
  refine R_if_eq rfl rfl (fun z => absurd z (by decide)) (fun _ => ?_)
  refine R_iconst (v := 1) rfl rfl ?_
  refine R_goto rfl rfl ?_
  refine R_istore_n rfl (by decide) ?_
  refine R_aload_n rfl rfl ?_
  refine R_iload_n rfl rfl ?_
  refine R_if_eq rfl rfl (fun z => absurd z (by decide)) (fun _ => ?_)
  refine R_aload_n rfl rfl ?_
  refine R_iload_n rfl rfl ?_
  refine R_iload_n rfl rfl ?_
  refine R_cV (as := [.int (nI m), .int (nI S)]) rfl rfl iv_M_areFree (sp_areFree (m := m) (S := S) hv hs (by omega) (by first | assumption | exact lw_lt (by omega) | exact wi_lt (by first | assumption | omega) (by omega) | exact wo_lt (by first | assumption | omega) (by omega) | omega)) (by omega) rfl rfl rfl (by decide) rfl rfl (Nat.le_of_ble_eq_true rfl) (fun σ3 hσ3 => ?_)
  refine R_if_eq rfl rfl (fun z => absurd ((zP_t hfree).symm.trans z) (by decide)) (fun g1 => ?_)
  refine R_iconst (v := 1) rfl rfl ?_
  refine R_goto rfl rfl ?_
  refine R_cV (as := [.int 1]) rfl rfl iv_M_passes (pass_1) (by omega) rfl rfl rfl (by decide) rfl rfl (Nat.le_of_ble_eq_true rfl) (fun _ q => ?_)
  obtain rfl := q.symm
  refine R_if_ne rfl rfl (fun _ => ?_) (fun z => absurd z (by decide))
  refine R_iconst (v := 0) rfl rfl ?_
  refine R_istore rfl (by decide) ?_
  refine R_iconst (v := 0) rfl rfl ?_
  refine R_istore rfl (by decide) ?_
  rw [← (exN_sd (md_dom hmd).1 (md_dom hmd).2 hs hh6 hw6 hS6 hfree h (Nat.le_refl h)).1]
  exact (lp_mext hn hmd hS (by omega) h 0 _ (by omega) ⟨((hσ3.mono (q := pQ) pQ_W).trans (smP_sI (p := pQ) (k := 120) (j := 0) (x := 0) (by unfold pQ; omega))), sI_s⟩).weak ⟨rfl, rfl, rfl, rfl, rfl, rfl, trivial⟩
set_option maxRecDepth 100000 in
set_option maxHeartbeats 4000000 in
theorem sp_M_extensions_x0 {σ : am_G} {h w rh pn : Nat} {f v rl : am_Gr} {I : Nat → Int32} {S_ : Int32} {x : Int32} (hn : nV σ h w f v rh rl pn I) (hb : ∀ n, n ∈ mdL → x ≠ nI n) : am_Call am_TX 14 0 c_M_extensions [.ref 120, .int x, .int S_] (mm σ) (am_Ok (some (.int 0)) (fun σ1 => smP pQ σ σ1 ∧ σ1.1 120 0 = 1)) := by
  have hv := hn.toV
  have hs := hn.2.1.2.1
  have hh1 := hv.1.1.1
  have hh6 := hv.1.1.2
  have hw1 := hv.1.2.1
  have hw6 := hv.1.2.2
  have hp6 := hn.2.1.2.2.2.1.1
  have hr6 := hn.2.1.2.2.2.2.2.2.1
  have hs7 := lw_lt hh6
  have ws7 := lw_lt hw6
  refine ⟨mf_M_extensions, Nat.le_of_ble_eq_true rfl, ?_⟩
  refine R_iload_n rfl rfl ?_
  refine R_cS (as := [.int x]) rfl rfl iv_M_isModulus (isMod_0 hb) (by omega) rfl rfl rfl rfl (Nat.le_of_ble_eq_true rfl) (fun _ q => ?_)
  obtain rfl := q.symm
  refine R_if_eq rfl rfl (fun _ => ?_) (fun z => absurd z (by decide))
  refine R_iconst (v := 0) rfl rfl ?_
  refine R_istore_n rfl (by decide) ?_
  refine R_aload_n rfl rfl ?_
  refine R_iload_n rfl rfl ?_
  refine R_if_eq rfl rfl (fun _ => ?_) (fun z => absurd z (by decide))
  refine R_iconst (v := 0) rfl rfl ?_
  refine R_cV (as := [.int 0]) rfl rfl iv_M_passes (pass_0) (by omega) rfl rfl rfl (by decide) rfl rfl (Nat.le_of_ble_eq_true rfl) (fun _ q => ?_)
  obtain rfl := q.symm
  refine R_if_ne rfl rfl (fun z => absurd z (by decide)) (fun _ => ?_)
  refine R_iconst (v := 0) rfl rfl ?_
  exact T_ireturn rfl rfl (am_oki rfl ⟨(smP_sI (p := pQ) (k := 120) (j := 0) (x := 1) (by unfold pQ; omega)), sI_s⟩)
set_option maxRecDepth 100000 in
set_option maxHeartbeats 4000000 in
theorem sp_M_extensions_x1 {σ : am_G} {h w rh pn : Nat} {f v rl : am_Gr} {I : Nat → Int32} {m : Nat} {x : Int32} (hn : nV σ h w f v rh rl pn I) (hmd : m ∈ mdL) (hb : ¬ x &&& (nI (2 ^ h - 1) ^^^ (-1)) = 0) : am_Call am_TX 14 0 c_M_extensions [.ref 120, .int (nI m), .int x] (mm σ) (am_Ok (some (.int 0)) (fun σ1 => smP pQ σ σ1 ∧ σ1.1 120 0 = 1)) := by
  have hv := hn.toV
  have hs := hn.2.1.2.1
  have hh1 := hv.1.1.1
  have hh6 := hv.1.1.2
  have hw1 := hv.1.2.1
  have hw6 := hv.1.2.2
  have hp6 := hn.2.1.2.2.2.1.1
  have hr6 := hn.2.1.2.2.2.2.2.2.1
  have hs7 := lw_lt hh6
  have ws7 := lw_lt hw6
  have hm97 := md_97 hmd
  refine ⟨mf_M_extensions, Nat.le_of_ble_eq_true rfl, ?_⟩
  refine R_iload_n rfl rfl ?_
  refine R_cS (as := [.int (nI m)]) rfl rfl iv_M_isModulus (isMod_1 hmd) (by omega) rfl rfl rfl rfl (Nat.le_of_ble_eq_true rfl) (fun _ q => ?_)
  obtain rfl := q.symm
  refine R_if_eq rfl rfl (fun z => absurd z (by decide)) (fun _ => ?_)
  refine R_aload_n rfl rfl ?_
  refine R_iload_n rfl rfl ?_
  refine R_cV (as := [.int x]) rfl rfl iv_M_areRows (areRows_0 hv hb) (by omega) rfl rfl rfl (by decide) rfl rfl (Nat.le_of_ble_eq_true rfl) (fun _ q => ?_)
  obtain rfl := q.symm
  refine R_if_eq rfl rfl (fun _ => ?_) (fun z => absurd z (by decide))
  refine R_iconst (v := 0) rfl rfl ?_
  refine R_istore_n rfl (by decide) ?_
  refine R_aload_n rfl rfl ?_
  refine R_iload_n rfl rfl ?_
  refine R_if_eq rfl rfl (fun _ => ?_) (fun z => absurd z (by decide))
  refine R_iconst (v := 0) rfl rfl ?_
  refine R_cV (as := [.int 0]) rfl rfl iv_M_passes (pass_0) (by omega) rfl rfl rfl (by decide) rfl rfl (Nat.le_of_ble_eq_true rfl) (fun _ q => ?_)
  obtain rfl := q.symm
  refine R_if_ne rfl rfl (fun z => absurd z (by decide)) (fun _ => ?_)
  refine R_iconst (v := 0) rfl rfl ?_
  exact T_ireturn rfl rfl (am_oki rfl ⟨(smP_sI (p := pQ) (k := 120) (j := 0) (x := 1) (by unfold pQ; omega)), sI_s⟩)
set_option maxRecDepth 100000 in
set_option maxHeartbeats 4000000 in
theorem sp_M_extensions_f {σ : am_G} {h w rh pn : Nat} {f v rl : am_Gr} {I : Nat → Int32} {m : Nat} {S : Nat} (hn : nV σ h w f v rh rl pn I) (hmd : m ∈ mdL) (hS : S < 2 ^ h) (hfree : ¬ frB f m h w S = true) : am_Call am_TX 14 0 c_M_extensions [.ref 120, .int (nI m), .int (nI S)] (mm σ) (am_Ok (some (.int 0)) (fun σ1 => smP pQ σ σ1 ∧ σ1.1 120 0 = 1)) := by
  have hv := hn.toV
  have hs := hn.2.1.2.1
  have hh1 := hv.1.1.1
  have hh6 := hv.1.1.2
  have hw1 := hv.1.2.1
  have hw6 := hv.1.2.2
  have hp6 := hn.2.1.2.2.2.1.1
  have hr6 := hn.2.1.2.2.2.2.2.2.1
  have hs7 := lw_lt hh6
  have ws7 := lw_lt hw6
  have hm97 := md_97 hmd
  have hS6 := p2_64 hS hh6
  refine ⟨mf_M_extensions, Nat.le_of_ble_eq_true rfl, ?_⟩
  refine R_iload_n rfl rfl ?_
  refine R_cS (as := [.int (nI m)]) rfl rfl iv_M_isModulus (isMod_1 hmd) (by omega) rfl rfl rfl rfl (Nat.le_of_ble_eq_true rfl) (fun _ q => ?_)
  obtain rfl := q.symm
  refine R_if_eq rfl rfl (fun z => absurd z (by decide)) (fun _ => ?_)
  refine R_aload_n rfl rfl ?_
  refine R_iload_n rfl rfl ?_
  refine R_cV (as := [.int (nI S)]) rfl rfl iv_M_areRows (areRows_1 hv (msk_ok hh6 hS)) (by omega) rfl rfl rfl (by decide) rfl rfl (Nat.le_of_ble_eq_true rfl) (fun _ q => ?_)
  obtain rfl := q.symm
  refine R_if_eq rfl rfl (fun z => absurd z (by decide)) (fun _ => ?_)
  refine R_iconst (v := 1) rfl rfl ?_
  refine R_goto rfl rfl ?_
  refine R_istore_n rfl (by decide) ?_
  refine R_aload_n rfl rfl ?_
  refine R_iload_n rfl rfl ?_
  refine R_if_eq rfl rfl (fun z => absurd z (by decide)) (fun _ => ?_)
  refine R_aload_n rfl rfl ?_
  refine R_iload_n rfl rfl ?_
  refine R_iload_n rfl rfl ?_
  refine R_cV (as := [.int (nI m), .int (nI S)]) rfl rfl iv_M_areFree (sp_areFree (m := m) (S := S) hv hs (by omega) (by first | assumption | exact lw_lt (by omega) | exact wi_lt (by first | assumption | omega) (by omega) | exact wo_lt (by first | assumption | omega) (by omega) | omega)) (by omega) rfl rfl rfl (by decide) rfl rfl (Nat.le_of_ble_eq_true rfl) (fun σ3 hσ3 => ?_)
  refine R_if_eq rfl rfl (fun g1 => ?_) (fun z => absurd (zP_f hfree) z)
  refine R_iconst (v := 0) rfl rfl ?_
  refine R_cV (as := [.int 0]) rfl rfl iv_M_passes (pass_0) (by omega) rfl rfl rfl (by decide) rfl rfl (Nat.le_of_ble_eq_true rfl) (fun _ q => ?_)
  obtain rfl := q.symm
  refine R_if_ne rfl rfl (fun z => absurd z (by decide)) (fun _ => ?_)
  refine R_iconst (v := 0) rfl rfl ?_
  exact T_ireturn rfl rfl (am_oki rfl ⟨((hσ3.mono (q := pQ) pQ_W).trans (smP_sI (p := pQ) (k := 120) (j := 0) (x := 1) (by unfold pQ; omega))), sI_s⟩)
