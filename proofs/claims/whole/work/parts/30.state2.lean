/-! ===== relations' heads and truth; more of states ===== -/
def hdV : Nat → Int32
  | 0 => -1
  | j + 1 => nI j
/-- the last member whose number is not 0 -/
def hdF (g : Nat → Int64) : Nat → Int32
  | 0 => -1
  | j + 1 => if g j = 0 then hdF g j else nI j
def hdN (g : Nat → Int64) : Nat → Nat
  | 0 => 0
  | j + 1 => if g j = 0 then hdN g j else j
theorem hdF_N {g : Nat → Int64} : ∀ n, (∃ j, j < n ∧ g j ≠ 0) → hdF g n = nI (hdN g n) ∧ hdN g n < n
  | 0, h => by obtain ⟨j, hj, _⟩ := h; omega
  | n + 1, h => by
    simp only [hdF, hdN]
    by_cases e : g n = 0
    · rw [if_pos e, if_pos e]
      have ih := @hdF_N g n (by
        obtain ⟨j, hj, hz⟩ := h
        exact ⟨j, by rcases Nat.lt_succ_iff_lt_or_eq.mp hj with q | q; exact q; subst q; exact absurd e hz, hz⟩)
      exact ⟨ih.1, by omega⟩
    · rw [if_neg e, if_neg e]
      exact ⟨rfl, by omega⟩
theorem hdV_dec {j : Nat} : nI j + Int32.ofInt (-1) = hdV j := by
  cases j with
  | zero => rfl
  | succ j =>
    have h1 := pk_sub (a := j + 1) (b := 1) (by omega)
    show nI (j + 1) + Int32.ofInt (-1) = nI j
    rw [show j = j + 1 - 1 by omega, ← h1, Int32.sub_eq_add_neg]; rfl
def trP (rl f : am_Gr) (h w r : Nat) : Prop := ∀ c, c < w → smL (fun a => rl r a * f a c) h = 0
def thF (rl : am_Gr) (h : Nat) : Nat → Nat
  | 0 => 0
  | r + 1 => wi (thF rl h r) (hdN (rl r) h)
set_option maxRecDepth 100000 in
set_option maxHeartbeats 4000000 in
theorem lp_headOf {σ : am_G} {s h rh r : Nat} {rl : am_Gr} (hS : isState s) (hr : vM σ (s + 7) rh h rl) (h6 : r < 6) {d k0 : Nat} (hd : 1 ≤ d) : ∀ j, j ≤ h → am_R am_TX d k0 c_Certificate_headOf 10 [some (.ref (s + 4)), some (.int (nI r)), some (.int (hdV j))] [] (mm σ) (am_Ok (some (.int (hdF (rl r) j))) (fun σ1 => σ1 = σ)) := by
  have hh := hr.2.1.2
  intro j
  induction j with
  | zero =>
    intro _
    show am_R am_TX d k0 _ 10 [some (.ref (s + 4)), some (.int (nI r)), some (.int (-1))] [] (mm σ) (am_Ok (some (.int (-1))) _)
    refine R_iload_n rfl rfl ?_
    refine R_if_lt rfl rfl (fun _ => ?_) (fun z => absurd z (by decide))
    refine R_iconst (v := -1) rfl rfl ?_
    exact T_ireturn rfl rfl (am_oki rfl rfl)
  | succ j ih =>
    intro hj
    show am_R am_TX d k0 _ 10 [some (.ref (s + 4)), some (.int (nI r)), some (.int (nI j))] [] (mm σ) _
    have eg : gL σ (s + 7) r j = rl r j := hr.at (by omega) (by omega)
    refine R_iload_n rfl rfl ?_
    refine R_nif_lt (x := j) rfl rfl (by omega) (fun z => by omega) (fun h1 => ?_)
    refine R_aload_n rfl rfl ?_
    refine R_gP (x := (s + 7)) rfl hS.2.2.2.1 fp_0_1 ((am_P_3 (by decide)).trans hS.2.2.2.2.2.2.2.2.2.2.2.2) ?_
    refine R_iload_n rfl rfl ?_
    refine R_iload_n rfl rfl ?_
    refine R_cV (as := [.int (nI r), .int (nI j)]) rfl rfl iv_Matrix_at (sp_Matrix_at (i := r) (j := j) hS.2.2.2.2.2.1 (by omega) (by omega)) (by omega) rfl rfl hS.2.2.2.2.2.1.1 (by decide) rfl rfl (Nat.le_of_ble_eq_true rfl) (fun _ q => ?_)
    obtain rfl := q.symm
    refine R_lconst (v := 0) rfl rfl ?_
    refine R_l_eq rfl rfl rfl (fun h2 => ?_) (fun h2 => ?_)
    · refine R_iinc rfl rfl (by decide) ?_
      refine R_goto rfl rfl ?_
      rw [hdV_dec, show hdF (rl r) (j + 1) = hdF (rl r) j from if_pos (by rw [eg] at h2; first | exact h2 | exact Classical.not_not.mp h2)]
      exact (ih (by omega)).weak ⟨rfl, rfl, rfl, trivial⟩
    · refine R_iload_n rfl rfl ?_
      exact T_ireturn rfl rfl (am_oki (by rw [eg] at h2; exact (if_neg h2).symm) rfl)
set_option maxRecDepth 100000 in
set_option maxHeartbeats 4000000 in
theorem sp_headOf {σ : am_G} {s h rh r : Nat} {rl : am_Gr} (hS : isState s) (hr : vM σ (s + 7) rh h rl) (h6 : r < 6) (h1 : 1 ≤ h) : am_Call am_TX 1 0 c_Certificate_headOf [.ref (s + 4), .int (nI r)] (mm σ) (am_Ok (some (.int (hdF (rl r) h))) (fun σ1 => σ1 = σ)) := by
  have hh := hr.2.1.2
  refine ⟨mf_Certificate_headOf, Nat.le_of_ble_eq_true rfl, ?_⟩
  refine R_aload_n rfl rfl ?_
  refine R_gP (x := (s + 7)) rfl hS.2.2.2.1 fp_0_1 ((am_P_3 (by decide)).trans hS.2.2.2.2.2.2.2.2.2.2.2.2) ?_
  refine R_gIN (n := h) rfl hS.2.2.2.2.2.1.1 fd_4_1 hr.2.1.1 ?_
  refine R_iconst (v := 1) rfl rfl ?_
  refine R_isubN (x := h) (y := 1) rfl (by omega) ?_
  refine R_istore_n rfl (by decide) ?_
  obtain ⟨j, rfl⟩ : ∃ j, h = j + 1 := ⟨h - 1, by omega⟩
  exact (lp_headOf hS hr h6 (by omega) (j + 1) (Nat.le_refl _)).weak ⟨rfl, rfl, rfl, trivial⟩
set_option maxRecDepth 100000 in
set_option maxHeartbeats 4000000 in
theorem lp_isTrue {σ : am_G} {s h rh r k h2 w : Nat} {rl f : am_Gr} {d k0 : Nat} (hS : isState s) (hr : vM σ (s + 7) rh h rl) (h6 : r < 6) (hM : isMat k) (hv : vM σ k h2 w f) (hd : 2 ≤ d)  : ∀ (uu i : Nat) (τ : am_G), i + uu = w → (τ = σ ∧ ∀ c, c < i → smL (fun a => rl r a * f a c) h = 0) → am_R am_TX d k0 c_Certificate_isTrue 2 [some (.ref (s + 4)), some (.int (nI r)), some (.ref k), some (.int (nI i))] [] (mm τ) (am_Ok (some (.int (zP (∀ c, c < w → smL (fun a => rl r a * f a c) h = 0)))) (fun σ1 => σ1 = σ)) := by
  have hw := hv.2.1.2
  intro uu
  induction uu with
  | zero =>
    intro i τ hi hI
    obtain rfl : w = i := by omega
    refine R_iload_n rfl rfl ?_
    refine R_aload_n rfl rfl ?_
    refine R_gIN (n := w) rfl hM.1 fd_4_1 (by rw [hI.1]; exact hv.2.1.1) ?_
    refine R_nicmp_ge (x := w) (y := w) rfl rfl (by omega) (by omega) (fun h1 => ?_) (fun z => by omega)
    refine R_iconst (v := 1) rfl rfl ?_
    exact T_zreturn rfl rfl rfl (am_oki ((zP_t hI.2).symm) hI.1)
  | succ uu ih =>
    intro i τ hi hI
    refine R_iload_n rfl rfl ?_
    refine R_aload_n rfl rfl ?_
    refine R_gIN (n := w) rfl hM.1 fd_4_1 (by rw [hI.1]; exact hv.2.1.1) ?_
    refine R_nicmp_ge (x := i) (y := w) rfl rfl (by omega) (by omega) (fun z => by omega) (fun h1 => ?_)
    refine R_aload_n rfl rfl ?_
    refine R_gP (x := (s + 7)) rfl hS.2.2.2.1 fp_0_1 ((am_P_3 (by decide)).trans hS.2.2.2.2.2.2.2.2.2.2.2.2) ?_
    refine R_iload_n rfl rfl ?_
    refine R_aload_n rfl rfl ?_
    refine R_iload_n rfl rfl ?_
    refine R_cV (as := [.int (nI r), .ref k, .int (nI i)]) rfl rfl iv_Matrix_combination (sp_Matrix_combination (σ := τ) (r := r) (c := i) hS.2.2.2.2.2.1 (by rw [hI.1]; exact hr) hM (by rw [hI.1]; exact hv) h6 (by omega)) (by omega) rfl rfl hS.2.2.2.2.2.1.1 (by decide) rfl rfl (Nat.le_of_ble_eq_true rfl) (fun _ q => ?_)
    obtain rfl := q.symm
    refine R_lconst (v := 0) rfl rfl ?_
    refine R_l_eq rfl rfl rfl (fun h2 => ?_) (fun h2 => ?_)
    · refine R_iincN (x := i) (m := 1) rfl rfl rfl (by decide) ?_
      refine R_goto rfl rfl ?_
      refine (ih (i + 1) τ (by omega) ⟨hI.1, fun c hc => ?_⟩).weak ⟨rfl, rfl, rfl, rfl, trivial⟩
      by_cases e : c = i
      · subst e; first | exact h2 | exact Classical.not_not.mp h2
      · exact hI.2 c (by omega)
    · refine R_iconst (v := 0) rfl rfl ?_
      exact T_zreturn rfl rfl rfl (am_oki ((zP_f (fun q => h2 (q i (by omega)))).symm) hI.1)
set_option maxRecDepth 100000 in
set_option maxHeartbeats 4000000 in
theorem sp_isTrue {σ : am_G} {s h rh r k h2 w : Nat} {rl f : am_Gr} (hS : isState s) (hr : vM σ (s + 7) rh h rl) (h6 : r < 6) (hM : isMat k) (hv : vM σ k h2 w f) : am_Call am_TX 2 0 c_Certificate_isTrue [.ref (s + 4), .int (nI r), .ref k] (mm σ) (am_Ok (some (.int (zP (∀ c, c < w → smL (fun a => rl r a * f a c) h = 0)))) (fun σ1 => σ1 = σ)) := by
  refine ⟨mf_Certificate_isTrue, Nat.le_of_ble_eq_true rfl, ?_⟩
  refine R_iconst (v := 0) rfl rfl ?_
  refine R_istore_n rfl (by decide) ?_
  exact (lp_isTrue hS hr h6 hM hv (by omega) w 0 σ (by omega) ⟨rfl, fun c hc => absurd hc (by omega)⟩).weak ⟨rfl, rfl, rfl, rfl, trivial⟩
set_option maxRecDepth 100000 in
set_option maxHeartbeats 4000000 in
theorem lp_areAllTrue {σ : am_G} {s h rh k h2 w : Nat} {rl f : am_Gr} {d k0 : Nat} (hS : isState s) (hr : vM σ (s + 7) rh h rl) (hM : isMat k) (hv : vM σ k h2 w f) (hd : 3 ≤ d)  : ∀ (uu i : Nat) (τ : am_G), i + uu = rh → (τ = σ ∧ ∀ r, r < i → ∀ c, c < w → smL (fun a => rl r a * f a c) h = 0) → am_R am_TX d k0 c_Certificate_areAllTrue 2 [some (.ref (s + 4)), some (.ref k), some (.int (nI i))] [] (mm τ) (am_Ok (some (.int (zP (∀ r, r < rh → ∀ c, c < w → smL (fun a => rl r a * f a c) h = 0)))) (fun σ1 => σ1 = σ)) := by
  have hw := hr.1.2
  intro uu
  induction uu with
  | zero =>
    intro i τ hi hI
    obtain rfl : rh = i := by omega
    refine R_iload_n rfl rfl ?_
    refine R_aload_n rfl rfl ?_
    refine R_gP (x := (s + 7)) rfl hS.2.2.2.1 fp_0_1 ((am_P_3 (by decide)).trans hS.2.2.2.2.2.2.2.2.2.2.2.2) ?_
    refine R_gIN (n := rh) rfl hS.2.2.2.2.2.1.1 fd_4_0 (by rw [hI.1]; exact hr.1.1) ?_
    refine R_nicmp_ge (x := rh) (y := rh) rfl rfl (by omega) (by omega) (fun h1 => ?_) (fun z => by omega)
    refine R_iconst (v := 1) rfl rfl ?_
    exact T_zreturn rfl rfl rfl (am_oki ((zP_t hI.2).symm) hI.1)
  | succ uu ih =>
    intro i τ hi hI
    refine R_iload_n rfl rfl ?_
    refine R_aload_n rfl rfl ?_
    refine R_gP (x := (s + 7)) rfl hS.2.2.2.1 fp_0_1 ((am_P_3 (by decide)).trans hS.2.2.2.2.2.2.2.2.2.2.2.2) ?_
    refine R_gIN (n := rh) rfl hS.2.2.2.2.2.1.1 fd_4_0 (by rw [hI.1]; exact hr.1.1) ?_
    refine R_nicmp_ge (x := i) (y := rh) rfl rfl (by omega) (by omega) (fun z => by omega) (fun h1 => ?_)
    refine R_aload_n rfl rfl ?_
    refine R_iload_n rfl rfl ?_
    refine R_aload_n rfl rfl ?_
    refine R_cV (as := [.int (nI i), .ref k]) rfl rfl iv_Certificate_isTrue (sp_isTrue (σ := τ) (r := i) hS (by rw [hI.1]; exact hr) (by omega) hM (by rw [hI.1]; exact hv)) (by omega) rfl rfl hS.2.2.2.1 (by decide) rfl rfl (Nat.le_of_ble_eq_true rfl) (fun _ q => ?_)
    obtain rfl := q.symm
    refine R_zif_ne rfl rfl (fun h2 => ?_) (fun h2 => ?_)
    · refine R_iincN (x := i) (m := 1) rfl rfl rfl (by decide) ?_
      refine R_goto rfl rfl ?_
      refine (ih (i + 1) τ (by omega) ⟨hI.1, fun c hc => ?_⟩).weak ⟨rfl, rfl, rfl, trivial⟩
      by_cases e : c = i
      · subst e; exact h2
      · exact hI.2 c (by omega)
    · refine R_iconst (v := 0) rfl rfl ?_
      exact T_zreturn rfl rfl rfl (am_oki ((zP_f (fun q => h2 (q i (by omega)))).symm) hI.1)
set_option maxRecDepth 100000 in
set_option maxHeartbeats 4000000 in
theorem sp_areAllTrue {σ : am_G} {s h rh k h2 w : Nat} {rl f : am_Gr} (hS : isState s) (hr : vM σ (s + 7) rh h rl) (hM : isMat k) (hv : vM σ k h2 w f) : am_Call am_TX 3 0 c_Certificate_areAllTrue [.ref (s + 4), .ref k] (mm σ) (am_Ok (some (.int (zP (∀ r, r < rh → ∀ c, c < w → smL (fun a => rl r a * f a c) h = 0)))) (fun σ1 => σ1 = σ)) := by
  refine ⟨mf_Certificate_areAllTrue, Nat.le_of_ble_eq_true rfl, ?_⟩
  refine R_iconst (v := 0) rfl rfl ?_
  refine R_istore_n rfl (by decide) ?_
  exact (lp_areAllTrue hS hr hM hv (by omega) rh 0 σ (by omega) ⟨rfl, fun c hc => absurd hc (by omega)⟩).weak ⟨rfl, rfl, rfl, trivial⟩
theorem thF_lt {rl : am_Gr} {h : Nat} (hh : h ≤ 6) : ∀ n, (∀ r, r < n → ∃ j, j < h ∧ rl r j ≠ 0) → thF rl h n < 64
  | 0, _ => by show (0 : Nat) < 64; decide
  | n + 1, hz => by
    have ih := @thF_lt rl h hh n (fun r hr => hz r (by omega))
    have h1 := (hdF_N h (hz n (by omega))).2
    exact wi_lt ih (by omega)
set_option maxRecDepth 100000 in
set_option maxHeartbeats 4000000 in
theorem lp_twin {σ : am_G} {s h rh : Nat} {rl : am_Gr} {d k0 : Nat} (hS : isState s) (hr : vM σ (s + 7) rh h rl) (hp1 : 1 ≤ h) (hz : ∀ r, r < rh → ∃ j, j < h ∧ rl r j ≠ 0) (hd : 2 ≤ d)  : ∀ (uu i : Nat) (τ : am_G), i + uu = rh → (τ = σ ∧ ∀ r, r < i → ¬ (thF rl h r).testBit (hdN (rl r) h) = true) → am_R am_TX d k0 c_Certificate_hasTwinHeads 4 [some (.ref (s + 4)), some (.int (nI (thF rl h i))), some (.int (nI i)), none] [] (mm τ) (am_Ok (some (.int (zP (∃ r, r < rh ∧ (thF rl h r).testBit (hdN (rl r) h) = true)))) (fun σ1 => σ1 = σ)) := by
  have hw := hr.1.2
  have hh := hr.2.1.2
  intro uu
  induction uu with
  | zero =>
    intro i τ hi hI
    obtain rfl : rh = i := by omega
    skip
    refine R_iload_n rfl rfl ?_
    refine R_aload_n rfl rfl ?_
    refine R_gP (x := (s + 7)) rfl hS.2.2.2.1 fp_0_1 ((am_P_3 (by decide)).trans hS.2.2.2.2.2.2.2.2.2.2.2.2) ?_
    refine R_gIN (n := rh) rfl hS.2.2.2.2.2.1.1 fd_4_0 (by rw [hI.1]; exact hr.1.1) ?_
    refine R_nicmp_ge (x := rh) (y := rh) rfl rfl (by omega) (by omega) (fun h1 => ?_) (fun z => by omega)
    refine R_iconst (v := 0) rfl rfl ?_
    exact T_zreturn rfl rfl rfl (am_oki ((zP_f (fun ⟨r, hr, q⟩ => hI.2 r hr q)).symm) hI.1)
  | succ uu ih =>
    intro i τ hi hI
    have hd6 := (hdF_N h (hz i (by omega))).2
    have ht := thF_lt hh i (fun r hr => hz r (by omega))
    refine R_iload_n rfl rfl ?_
    refine R_aload_n rfl rfl ?_
    refine R_gP (x := (s + 7)) rfl hS.2.2.2.1 fp_0_1 ((am_P_3 (by decide)).trans hS.2.2.2.2.2.2.2.2.2.2.2.2) ?_
    refine R_gIN (n := rh) rfl hS.2.2.2.2.2.1.1 fd_4_0 (by rw [hI.1]; exact hr.1.1) ?_
    refine R_nicmp_ge (x := i) (y := rh) rfl rfl (by omega) (by omega) (fun z => by omega) (fun h1 => ?_)
    refine R_aload_n rfl rfl ?_
    refine R_iload_n rfl rfl ?_
    refine R_cV (as := [.int (nI i)]) rfl rfl iv_Certificate_headOf ((by have z := sp_headOf (σ := τ) (r := i) hS (by rw [hI.1]; exact hr) (by omega) hp1; rw [(hdF_N h (hz i (by omega))).1] at z; exact z)) (by omega) rfl rfl hS.2.2.2.1 (by decide) rfl rfl (Nat.le_of_ble_eq_true rfl) (fun _ q => ?_)
    obtain rfl := q.symm
    refine R_istore_n rfl (by decide) ?_
    refine R_iload_n rfl rfl ?_
    refine R_iload_n rfl rfl ?_
    refine R_cN (as := [.int (nI (thF rl h i)), .int (nI (hdN (rl i) h))]) rfl rfl iv_D_has (sp_has (s := (thF rl h i)) (k := (hdN (rl i) h)) (by first | assumption | exact lw_lt (by omega) | exact wi_lt (by first | assumption | omega) (by omega) | exact wo_lt (by first | assumption | omega) (by omega) | omega) (by omega)) (by omega) rfl rfl rfl rfl (Nat.le_of_ble_eq_true rfl) (fun _ q => ?_)
    obtain rfl := q.symm
    refine R_zif_eq rfl rfl (fun h2 => ?_) (fun h2 => ?_)
    · refine R_iload_n rfl rfl ?_
      refine R_iconst (v := 1) rfl rfl ?_
      refine R_iload_n rfl rfl ?_
      refine R_shl1N (y := (hdN (rl i) h)) rfl (by omega) ?_
      refine R_iorB (s := (thF rl h i)) (y := (hdN (rl i) h)) rfl (by first | assumption | omega) (by omega) ?_
      refine R_istore_n rfl (by decide) ?_
      refine R_iincN (x := i) (m := 1) rfl rfl rfl (by decide) ?_
      refine R_goto rfl rfl ?_
      refine (ih (i + 1) τ (by omega) ⟨hI.1, fun c hc => ?_⟩).weak ⟨rfl, rfl, rfl, trivial⟩
      by_cases e : c = i
      · subst e; exact h2
      · exact hI.2 c (by omega)
    · refine R_iconst (v := 1) rfl rfl ?_
      exact T_zreturn rfl rfl rfl (am_oki ((zP_t ⟨i, by omega, h2⟩).symm) hI.1)
set_option maxRecDepth 100000 in
set_option maxHeartbeats 4000000 in
theorem sp_hasTwinHeads {σ : am_G} {s h rh : Nat} {rl : am_Gr} (hS : isState s) (hr : vM σ (s + 7) rh h rl) (hp1 : 1 ≤ h) (hz : ∀ r, r < rh → ∃ j, j < h ∧ rl r j ≠ 0) : am_Call am_TX 2 0 c_Certificate_hasTwinHeads [.ref (s + 4)] (mm σ) (am_Ok (some (.int (zP (∃ r, r < rh ∧ (thF rl h r).testBit (hdN (rl r) h) = true)))) (fun σ1 => σ1 = σ)) := by
  refine ⟨mf_Certificate_hasTwinHeads, Nat.le_of_ble_eq_true rfl, ?_⟩
  refine R_iconst (v := 0) rfl rfl ?_
  refine R_istore_n rfl (by decide) ?_
  refine R_iconst (v := 0) rfl rfl ?_
  refine R_istore_n rfl (by decide) ?_
  exact (lp_twin hS hr hp1 hz (by omega) rh 0 σ (by omega) ⟨rfl, fun c hc => absurd hc (by omega)⟩).weak ⟨rfl, rfl, rfl, trivial⟩
set_option maxRecDepth 100000 in
set_option maxHeartbeats 4000000 in
theorem sp_primeAt {σ : am_G} {s p : Nat} (hS : isState s) (hp : p < 6) : am_Call am_TX 0 0 c_State_primeAt [.ref s, .int (nI p)] (mm σ) (am_Ok (some (.int (σ.1 (s + 9) p))) (fun σ1 => σ1 = σ)) := by
  refine ⟨mf_State_primeAt, Nat.le_of_ble_eq_true rfl, ?_⟩
  refine R_iload_n rfl rfl ?_
  refine R_nif_lt (x := p) rfl rfl (by omega) (fun z => by omega) (fun h1 => ?_)
  refine R_iload_n rfl rfl ?_
  refine R_aload_n rfl rfl ?_
  refine R_gP (x := (s + 9)) rfl hS.1 fp_9_6 ((am_P_3 (by decide)).trans hS.2.2.2.2.2.2.2.2.2.2.1) ?_
  refine R_aln (v := 6) rfl hS.2.2.2.2.2.2.1 (by decide) (by decide) ?_
  refine R_nicmp_ge (x := p) (y := 6) rfl rfl (by omega) (by omega) (fun z => by omega) (fun h2 => ?_)
  refine R_aload_n rfl rfl ?_
  refine R_gP (x := (s + 9)) rfl hS.1 fp_9_6 ((am_P_3 (by decide)).trans hS.2.2.2.2.2.2.2.2.2.2.1) ?_
  refine R_iload_n rfl rfl ?_
  refine R_xI (j := p) rfl hS.2.2.2.2.2.2.1 rfl (by omega) (by decide) ?_
  refine R_goto rfl rfl ?_
  exact T_ireturn rfl rfl (am_oki rfl rfl)
set_option maxRecDepth 100000 in
set_option maxHeartbeats 4000000 in
theorem lp_hasPrime {σ : am_G} {s pn : Nat} {x : Int32} {d k0 : Nat} (hS : isState s) (hp : σ.1 s 3 = nI pn) (hp6 : pn ≤ 6) (hd : 1 ≤ d)  : ∀ (uu i : Nat) (τ : am_G), i + uu = pn → (τ = σ ∧ ∀ j, j < i → ¬ σ.1 (s + 9) j = x) → am_R am_TX d k0 c_State_hasPrime 2 [some (.ref s), some (.int x), some (.int (nI i))] [] (mm τ) (am_Ok (some (.int (zP (∃ j, j < pn ∧ σ.1 (s + 9) j = x)))) (fun σ1 => σ1 = σ)) := by
  intro uu
  induction uu with
  | zero =>
    intro i τ hi hI
    obtain rfl : pn = i := by omega
    refine R_iload_n rfl rfl ?_
    refine R_aload_n rfl rfl ?_
    refine R_gIN (n := pn) rfl hS.1 fd_9_3 (by rw [hI.1]; exact hp) ?_
    refine R_nicmp_ge (x := pn) (y := pn) rfl rfl (by omega) (by omega) (fun h1 => ?_) (fun z => by omega)
    refine R_iconst (v := 0) rfl rfl ?_
    exact T_zreturn rfl rfl rfl (am_oki ((zP_f (fun ⟨j, hj, q⟩ => hI.2 j hj q)).symm) hI.1)
  | succ uu ih =>
    intro i τ hi hI
    refine R_iload_n rfl rfl ?_
    refine R_aload_n rfl rfl ?_
    refine R_gIN (n := pn) rfl hS.1 fd_9_3 (by rw [hI.1]; exact hp) ?_
    refine R_nicmp_ge (x := i) (y := pn) rfl rfl (by omega) (by omega) (fun z => by omega) (fun h1 => ?_)
    refine R_aload_n rfl rfl ?_
    refine R_iload_n rfl rfl ?_
    refine R_cV (as := [.int (nI i)]) rfl rfl iv_State_primeAt (sp_primeAt (p := i) hS (by omega)) (by omega) rfl rfl hS.1 (by decide) rfl rfl (Nat.le_of_ble_eq_true rfl) (fun _ q => ?_)
    obtain rfl := q.symm
    refine R_iload_n rfl rfl ?_
    refine R_icmp_ne rfl rfl (fun h2 => ?_) (fun h2 => ?_)
    · refine R_iincN (x := i) (m := 1) rfl rfl rfl (by decide) ?_
      refine R_goto rfl rfl ?_
      refine (ih (i + 1) τ (by omega) ⟨hI.1, fun c hc => ?_⟩).weak ⟨rfl, rfl, rfl, trivial⟩
      by_cases e : c = i
      · subst e; rw [← hI.1]; exact h2
      · exact hI.2 c (by omega)
    · refine R_iconst (v := 1) rfl rfl ?_
      exact T_zreturn rfl rfl rfl (am_oki ((zP_t ⟨i, by omega, by rw [← hI.1]; first | exact h2 | exact Classical.not_not.mp h2⟩).symm) hI.1)
set_option maxRecDepth 100000 in
set_option maxHeartbeats 4000000 in
theorem sp_hasPrime {σ : am_G} {s pn : Nat} {x : Int32} (hS : isState s) (hp : σ.1 s 3 = nI pn) (hp6 : pn ≤ 6) : am_Call am_TX 1 0 c_State_hasPrime [.ref s, .int x] (mm σ) (am_Ok (some (.int (zP (∃ j, j < pn ∧ σ.1 (s + 9) j = x)))) (fun σ1 => σ1 = σ)) := by
  refine ⟨mf_State_hasPrime, Nat.le_of_ble_eq_true rfl, ?_⟩
  refine R_iconst (v := 0) rfl rfl ?_
  refine R_istore_n rfl (by decide) ?_
  exact (lp_hasPrime hS hp hp6 (by omega) pn 0 σ (by omega) ⟨rfl, fun c hc => absurd hc (by omega)⟩).weak ⟨rfl, rfl, rfl, trivial⟩
set_option maxRecDepth 100000 in
set_option maxHeartbeats 4000000 in
theorem sp_addPrime {σ : am_G} {s pn : Nat} {x : Int32} (hS : isState s) (hp : σ.1 s 3 = nI pn) (hp6 : pn < 6) : am_Call am_TX 0 0 c_State_addPrime [.ref s, .int x] (mm σ) (am_Ok none (fun σ1 => σ1 = sI (sI σ (s + 9) pn x) s 3 (nI (pn + 1)))) := by
  refine ⟨mf_State_addPrime, Nat.le_of_ble_eq_true rfl, ?_⟩
  refine R_aload_n rfl rfl ?_
  refine R_gIN (n := pn) rfl hS.1 fd_9_3 hp ?_
  refine R_nif_lt (x := pn) rfl rfl (by omega) (fun z => by omega) (fun h1 => ?_)
  refine R_aload_n rfl rfl ?_
  refine R_gIN (n := pn) rfl hS.1 fd_9_3 hp ?_
  refine R_aload_n rfl rfl ?_
  refine R_gP (x := (s + 9)) rfl hS.1 fp_9_6 ((am_P_3 (by decide)).trans hS.2.2.2.2.2.2.2.2.2.2.1) ?_
  refine R_aln (v := 6) rfl hS.2.2.2.2.2.2.1 (by decide) (by decide) ?_
  refine R_nicmp_ge (x := pn) (y := 6) rfl rfl (by omega) (by omega) (fun z => by omega) (fun h2 => ?_)
  refine R_aload_n rfl rfl ?_
  refine R_gP (x := (s + 9)) rfl hS.1 fp_9_6 ((am_P_3 (by decide)).trans hS.2.2.2.2.2.2.2.2.2.2.1) ?_
  refine R_aload_n rfl rfl ?_
  refine R_gIN (n := pn) rfl hS.1 fd_9_3 hp ?_
  refine R_iload_n rfl rfl ?_
  refine R_wI (j := pn) rfl hS.2.2.2.2.2.2.1 rfl (by omega) (by decide) ?_
  refine R_aload_n rfl rfl ?_
  refine R_dup rfl rfl ?_
  refine R_gIN (n := pn) rfl hS.1 fd_9_3 ((sI_o (Or.inl (by omega))).trans hp) ?_
  refine R_iconst (v := 1) rfl rfl ?_
  refine R_iaddN (x := pn) (y := 1) rfl ?_
  refine R_pI rfl hS.1 fw_9_3 rfl ?_
  exact T_return rfl rfl (am_okv0 rfl)
/-- what a state says after reset: the primes stay -/
def rsI (q : Nat → Int32) : Nat → Int32 := fun k => if k < 2 then 0 else if k < 8 then -1 else q (k - 8)
set_option maxRecDepth 100000 in
set_option maxHeartbeats 4000000 in
theorem sp_State_reset0 {σ : am_G} {s h w : Nat} (hS : isState s) : am_Call am_TX 2 0 c_State_reset [.ref s, .int (nI h), .int (nI w)] (mm σ) (am_Ok none (fun σ1 => σ1 = sI (sI (sI (clS (setM (setM (gS (setM σ (s + 1) h w (fun _ _ => 0)) (s + 3) (fun _ => -1)) (s + 5) 1 h (fun _ _ => 0)) (s + 7) 0 h (fun _ _ => 0)) (s + 4) (-1) (-1)) s 3 0) s 4 0) s 5 0)) := by
  refine ⟨mf_State_reset, Nat.le_of_ble_eq_true rfl, ?_⟩
  refine R_aload_n rfl rfl ?_
  refine R_gP (x := (s + 1)) rfl hS.1 fp_9_0 ((am_P_3 (by decide)).trans hS.2.2.2.2.2.2.2.1) ?_
  refine R_iload_n rfl rfl ?_
  refine R_iload_n rfl rfl ?_
  refine R_cV (as := [.int (nI h), .int (nI w)]) rfl rfl iv_Matrix_reset (sp_Matrix_reset (h := h) (w := w) hS.2.1) (by decide) rfl rfl hS.2.1.1 (by decide) rfl rfl (Nat.le_of_ble_eq_true rfl) (fun _ q => ?_)
  obtain rfl := q.symm
  refine R_aload_n rfl rfl ?_
  refine R_gP (x := (s + 3)) rfl hS.1 fp_9_1 ((am_P_3 (by decide)).trans hS.2.2.2.2.2.2.2.2.1) ?_
  refine R_cV (as := []) rfl rfl iv_Guess_clear (sp_Guess_clear hS.2.2.1) (by decide) rfl rfl hS.2.2.1 (by decide) rfl rfl (Nat.le_of_ble_eq_true rfl) (fun _ q => ?_)
  obtain rfl := q.symm
  refine R_aload_n rfl rfl ?_
  refine R_gP (x := (s + 4)) rfl hS.1 fp_9_2 ((am_P_3 (by decide)).trans hS.2.2.2.2.2.2.2.2.2.1) ?_
  refine R_iload_n rfl rfl ?_
  refine R_cV (as := [.int (nI h)]) rfl rfl iv_Certificate_clear (sp_Certificate_clear (n := h) hS) (by decide) rfl rfl hS.2.2.2.1 (by decide) rfl rfl (Nat.le_of_ble_eq_true rfl) (fun _ q => ?_)
  obtain rfl := q.symm
  refine R_aload_n rfl rfl ?_
  refine R_iconst (v := 0) rfl rfl ?_
  refine R_pI rfl hS.1 fw_9_3 rfl ?_
  refine R_aload_n rfl rfl ?_
  refine R_iconst (v := 0) rfl rfl ?_
  refine R_pI rfl hS.1 fw_9_4 rfl ?_
  refine R_aload_n rfl rfl ?_
  refine R_iconst (v := 0) rfl rfl ?_
  refine R_pI rfl hS.1 fw_9_5 rfl ?_
  exact T_return rfl rfl (am_okv0 rfl)
theorem aS_self {σ : am_G} {p n : Nat} : aS σ p n (fun j => σ.1 p j) = σ := by
  refine Prod.ext ?_ rfl
  funext a b
  show aI σ.1 p n (fun j => σ.1 p j) a b = σ.1 a b
  unfold aI
  by_cases ha : a = p
  · subst ha
    rw [if_pos rfl]
    by_cases hb : b < n
    · rw [if_pos hb]
    · rw [if_neg hb]
  · rw [if_neg ha]
theorem rs_put {σ : am_G} {s h w : Nat} : sI (sI (sI (clS (setM (setM (gS (setM σ (s + 1) h w (fun _ _ => 0)) (s + 3) (fun _ => -1)) (s + 5) 1 h (fun _ _ => 0)) (s + 7) 0 h (fun _ _ => 0)) (s + 4) (-1) (-1)) s 3 0) s 4 0) s 5 0 = putS σ s h w (fun _ _ => 0) (fun _ _ => 0) 0 (fun _ _ => 0) 0 (rsI (fun j => σ.1 (s + 9) j)) := by
  have e : ∀ (τ : am_G) (q : Nat → Int32), (∀ j, τ.1 (s + 9) j = q j) → aS τ (s + 9) 6 q = τ := fun τ q h => by
    have e1 : q = fun j => τ.1 (s + 9) j := funext (fun j => (h j).symm)
    rw [e1]; exact aS_self
  unfold putS
  rw [e]
  · rfl
  · intro j
    have h1 : rsI (fun j => σ.1 (s + 9) j) (8 + j) = σ.1 (s + 9) j := by
      unfold rsI
      rw [if_neg (by omega), if_neg (by omega), show 8 + j - 8 = j by omega]
    rw [h1, sI_o (Or.inl (by omega)), sI_o (Or.inl (by omega)), sI_o (Or.inl (by omega))]
    have f1 : smP (fun a _ => a < s + 9 ∧ s ≤ a) σ (clS (setM (setM (gS (setM σ (s + 1) h w (fun _ _ => 0)) (s + 3) (fun j => rsI (fun j => σ.1 (s + 9) j) (4 + j))) (s + 5) 1 h (fun _ _ => 0)) (s + 7) 0 h (fun _ _ => 0)) (s + 4) (rsI (fun j => σ.1 (s + 9) j) 2) (rsI (fun j => σ.1 (s + 9) j) 3)) :=
      ((((smP_setM (fun b => by omega) (fun b => by omega)).trans (gS_fr (fun b => by omega))).trans (smP_setM (fun b => by omega) (fun b => by omega))).trans (smP_setM (fun b => by omega) (fun b => by omega))).trans (clS_fr (fun b => by omega))
    exact f1.i (by omega)
theorem sp_State_reset {σ : am_G} {s h w : Nat} (hS : isState s) : am_Call am_TX 2 0 c_State_reset [.ref s, .int (nI h), .int (nI w)] (mm σ) (am_Ok none (fun σ1 => σ1 = putS σ s h w (fun _ _ => 0) (fun _ _ => 0) 0 (fun _ _ => 0) 0 (rsI (fun j => σ.1 (s + 9) j)))) := by
  have z := sp_State_reset0 (σ := σ) (h := h) (w := w) hS
  rw [rs_put] at z
  exact z
