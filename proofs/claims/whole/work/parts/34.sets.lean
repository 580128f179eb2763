/-! ===== the model's profiles, sets, determinants ===== -/
set_option maxRecDepth 100000 in
set_option maxHeartbeats 4000000 in
theorem lp_mprR {σ : am_G} {h w m : Nat} {f : am_Gr} {d k0 : Nat} (hv : mV σ h w f) (hs : fSm f h w) (hz : zdom m) (hm : m ≤ 97) (hd : 5 ≤ d)  : ∀ (uu i : Nat) (τ : am_G), i + uu = h → (smP pW σ τ) → am_R am_TX d k0 c_M_profileOfRows 8 [some (.ref 120), some (.int (nI m)), some (.int (nI (2 ^ w - 1))), some (.int (nI (prR f m h w i))), some (.int (nI (pc (prR f m h w i)))), some (.int (nI i)), none] [] (mm τ) (am_Ok (some (.int (nI (prR f m h w h)))) (fun σ1 => smP pW σ σ1)) := by
  have hh1 := hv.1.1.1
  have hh6 := hv.1.1.2
  have hw1 := hv.1.2.1
  have hw6 := hv.1.2.2
  intro uu
  induction uu with
  | zero =>
    intro i τ hi hI
    obtain rfl : h = i := by omega
    skip
    refine R_iload rfl rfl ?_
    refine R_aload_n rfl rfl ?_
    refine R_cV (as := []) rfl rfl iv_M_rows (sp_rows (hI.mV hv (fun b => by unfold pW; omega) (fun b => by unfold pW; omega) (by unfold pW; omega))) (by omega) rfl rfl rfl (by decide) rfl rfl (Nat.le_of_ble_eq_true rfl) (fun _ q => ?_)
    obtain rfl := q.symm
    refine R_nicmp_ge (x := h) (y := h) rfl rfl (by omega) (by omega) (fun h1 => ?_) (fun z => by omega)
    refine R_iload_n rfl rfl ?_
    exact T_ireturn rfl rfl (am_oki rfl hI)
  | succ uu ih =>
    intro i τ hi hI
    have hq := fun r hr => (prR_rk (r := r) hz hm hs hh6 hw6 hr).1
    have hlt := prR_lt (f := f) (m := m) (h := h) (w := w) i (by omega)
    have hp6 := @pc_le (prR f m h w i)
    have hr6 : rkO f m (2 ^ (i + 1) - 1) (2 ^ w - 1) h w ≤ 6 := rkO_6 hh6
    refine R_iload rfl rfl ?_
    refine R_aload_n rfl rfl ?_
    refine R_cV (as := []) rfl rfl iv_M_rows (sp_rows (hI.mV hv (fun b => by unfold pW; omega) (fun b => by unfold pW; omega) (by unfold pW; omega))) (by omega) rfl rfl rfl (by decide) rfl rfl (Nat.le_of_ble_eq_true rfl) (fun _ q => ?_)
    obtain rfl := q.symm
    refine R_nicmp_ge (x := i) (y := h) rfl rfl (by omega) (by omega) (fun z => by omega) (fun h1 => ?_)
    refine R_aload_n rfl rfl ?_
    refine R_iload_n rfl rfl ?_
    refine R_iconst (v := 1) rfl rfl ?_
    refine R_iload rfl rfl ?_
    refine R_iconst (v := 1) rfl rfl ?_
    refine R_iaddN (x := i) (y := 1) rfl ?_
    refine R_shl1N (y := (i + 1)) rfl (by omega) ?_
    refine R_iconst (v := 1) rfl rfl ?_
    refine R_isubN (x := (2 ^ (i + 1))) (y := 1) rfl (Nat.pos_of_ne_zero (by simp)) ?_
    refine R_iload_n rfl rfl ?_
    refine R_cV (as := [.int (nI m), .int (nI ((2 ^ (i + 1)) - 1)), .int (nI (2 ^ w - 1))]) rfl rfl iv_M_rankBy (sp_rankBy (m := m) (S := ((2 ^ (i + 1)) - 1)) (T := (2 ^ w - 1)) (hI.mV hv (fun b => by unfold pW; omega) (fun b => by unfold pW; omega) (by unfold pW; omega)) hs (by omega) (by first | assumption | exact lw_lt (by omega) | exact wi_lt (by first | assumption | omega) (by omega) | exact wo_lt (by first | assumption | omega) (by omega) | omega) (by first | assumption | exact lwP2 (by omega) | omega)) (by omega) rfl rfl rfl (by decide) rfl rfl (Nat.le_of_ble_eq_true rfl) (fun σ2 hσ2 => ?_)
    refine R_istore rfl (by decide) ?_
    refine R_iload rfl rfl ?_
    refine R_iload rfl rfl ?_
    refine R_nicmp_le (x := (rkO f m ((2 ^ (i + 1)) - 1) (2 ^ w - 1) h w)) (y := (pc (prR f m h w i))) rfl rfl (by omega) (by omega) (fun h2 => ?_) (fun h2 => ?_)
    · refine R_iload rfl rfl ?_
      refine R_istore rfl (by decide) ?_
      refine R_iincN (x := i) (m := 1) rfl rfl rfl (by decide) ?_
      refine R_goto rfl rfl ?_
      have e := ih (i + 1) _ (by omega) ((hI.trans hσ2))
      rw [hq (i + 1) (by omega)] at e
      rw [show prR f m h w (i + 1) = prR f m h w i from by simp only [prR]; exact if_neg (by omega)] at e
      exact e.weak ⟨rfl, rfl, rfl, rfl, rfl, rfl, trivial⟩
    · refine R_iload_n rfl rfl ?_
      refine R_iconst (v := 1) rfl rfl ?_
      refine R_iload rfl rfl ?_
      refine R_shl1N (y := i) rfl (by omega) ?_
      refine R_iorB (s := (prR f m h w i)) (y := i) rfl (by first | assumption | omega) (by omega) ?_
      refine R_istore_n rfl (by decide) ?_
      refine R_iload rfl rfl ?_
      refine R_istore rfl (by decide) ?_
      refine R_iincN (x := i) (m := 1) rfl rfl rfl (by decide) ?_
      refine R_goto rfl rfl ?_
      have e := ih (i + 1) _ (by omega) ((hI.trans hσ2))
      rw [hq (i + 1) (by omega)] at e
      rw [show prR f m h w (i + 1) = wi (prR f m h w i) i from by simp only [prR]; exact if_pos (by omega)] at e
      exact e.weak ⟨rfl, rfl, rfl, rfl, rfl, rfl, trivial⟩
set_option maxRecDepth 100000 in
set_option maxHeartbeats 4000000 in
theorem sp_mprofileOfRows {σ : am_G} {h w m : Nat} {f : am_Gr} (hv : mV σ h w f) (hs : fSm f h w) (hz : zdom m) (hm : m ≤ 97) : am_Call am_TX 5 0 c_M_profileOfRows [.ref 120, .int (nI m), .int (nI (2 ^ w - 1))] (mm σ) (am_Ok (some (.int (nI (prR f m h w h)))) (fun σ1 => smP pW σ σ1)) := by
  have hh1 := hv.1.1.1
  have hh6 := hv.1.1.2
  have hw1 := hv.1.2.1
  have hw6 := hv.1.2.2
  refine ⟨mf_M_profileOfRows, Nat.le_of_ble_eq_true rfl, ?_⟩
  refine R_iconst (v := 0) rfl rfl ?_
  refine R_istore_n rfl (by decide) ?_
  refine R_iconst (v := 0) rfl rfl ?_
  refine R_istore rfl (by decide) ?_
  refine R_iconst (v := 0) rfl rfl ?_
  refine R_istore rfl (by decide) ?_
  have z := lp_mprR (d := 5) (k0 := 0) hv hs hz hm (by omega) h 0 σ (by omega) smP.refl
  rw [show pc (prR f m h w 0) = 0 from by show pc 0 = 0; decide] at z
  exact z.weak ⟨rfl, rfl, rfl, rfl, rfl, rfl, trivial⟩
set_option maxRecDepth 100000 in
set_option maxHeartbeats 4000000 in
theorem lp_mprC {σ : am_G} {h w m S : Nat} {f : am_Gr} {d k0 : Nat} (hv : mV σ h w f) (hs : fSm f h w) (hz : zdom m) (hm : m ≤ 97) (hS : S < 64) (hd : 5 ≤ d)  : ∀ (uu i : Nat) (τ : am_G), i + uu = w → (smP pW σ τ) → am_R am_TX d k0 c_M_profileOfColumns 8 [some (.ref 120), some (.int (nI m)), some (.int (nI S)), some (.int (nI (prC f m S h w i))), some (.int (nI (pc (prC f m S h w i)))), some (.int (nI i)), none] [] (mm τ) (am_Ok (some (.int (nI (prC f m S h w w)))) (fun σ1 => smP pW σ σ1)) := by
  have hh1 := hv.1.1.1
  have hh6 := hv.1.1.2
  have hw1 := hv.1.2.1
  have hw6 := hv.1.2.2
  intro uu
  induction uu with
  | zero =>
    intro i τ hi hI
    obtain rfl : w = i := by omega
    skip
    refine R_iload rfl rfl ?_
    refine R_aload_n rfl rfl ?_
    refine R_cV (as := []) rfl rfl iv_M_columns (sp_columns (hI.mV hv (fun b => by unfold pW; omega) (fun b => by unfold pW; omega) (by unfold pW; omega))) (by omega) rfl rfl rfl (by decide) rfl rfl (Nat.le_of_ble_eq_true rfl) (fun _ q => ?_)
    obtain rfl := q.symm
    refine R_nicmp_ge (x := w) (y := w) rfl rfl (by omega) (by omega) (fun h1 => ?_) (fun z => by omega)
    refine R_iload_n rfl rfl ?_
    exact T_ireturn rfl rfl (am_oki rfl hI)
  | succ uu ih =>
    intro i τ hi hI
    have hq := fun r hr => (prC_rk (S := S) (r := r) hS hz hm hs hh6 hw6 hr).1
    have hlt := prC_lt (f := f) (m := m) (S := S) (h := h) (w := w) i (by omega)
    have hp6 := @pc_le (prC f m S h w i)
    have hr6 : rkO f m S (2 ^ (i + 1) - 1) h w ≤ 6 := rkO_6 hh6
    refine R_iload rfl rfl ?_
    refine R_aload_n rfl rfl ?_
    refine R_cV (as := []) rfl rfl iv_M_columns (sp_columns (hI.mV hv (fun b => by unfold pW; omega) (fun b => by unfold pW; omega) (by unfold pW; omega))) (by omega) rfl rfl rfl (by decide) rfl rfl (Nat.le_of_ble_eq_true rfl) (fun _ q => ?_)
    obtain rfl := q.symm
    refine R_nicmp_ge (x := i) (y := w) rfl rfl (by omega) (by omega) (fun z => by omega) (fun h1 => ?_)
    refine R_aload_n rfl rfl ?_
    refine R_iload_n rfl rfl ?_
    refine R_iload_n rfl rfl ?_
    refine R_iconst (v := 1) rfl rfl ?_
    refine R_iload rfl rfl ?_
    refine R_iconst (v := 1) rfl rfl ?_
    refine R_iaddN (x := i) (y := 1) rfl ?_
    refine R_shl1N (y := (i + 1)) rfl (by omega) ?_
    refine R_iconst (v := 1) rfl rfl ?_
    refine R_isubN (x := (2 ^ (i + 1))) (y := 1) rfl (Nat.pos_of_ne_zero (by simp)) ?_
    refine R_cV (as := [.int (nI m), .int (nI S), .int (nI ((2 ^ (i + 1)) - 1))]) rfl rfl iv_M_rankBy (sp_rankBy (m := m) (S := S) (T := ((2 ^ (i + 1)) - 1)) (hI.mV hv (fun b => by unfold pW; omega) (fun b => by unfold pW; omega) (by unfold pW; omega)) hs (by omega) (by first | assumption | exact lw_lt (by omega) | exact wi_lt (by first | assumption | omega) (by omega) | exact wo_lt (by first | assumption | omega) (by omega) | omega) (by first | assumption | exact lwP2 (by omega) | omega)) (by omega) rfl rfl rfl (by decide) rfl rfl (Nat.le_of_ble_eq_true rfl) (fun σ2 hσ2 => ?_)
    refine R_istore rfl (by decide) ?_
    refine R_iload rfl rfl ?_
    refine R_iload rfl rfl ?_
    refine R_nicmp_le (x := (rkO f m S ((2 ^ (i + 1)) - 1) h w)) (y := (pc (prC f m S h w i))) rfl rfl (by omega) (by omega) (fun h2 => ?_) (fun h2 => ?_)
    · refine R_iload rfl rfl ?_
      refine R_istore rfl (by decide) ?_
      refine R_iincN (x := i) (m := 1) rfl rfl rfl (by decide) ?_
      refine R_goto rfl rfl ?_
      have e := ih (i + 1) _ (by omega) ((hI.trans hσ2))
      rw [hq (i + 1) (by omega)] at e
      rw [show prC f m S h w (i + 1) = prC f m S h w i from by simp only [prC]; exact if_neg (by omega)] at e
      exact e.weak ⟨rfl, rfl, rfl, rfl, rfl, rfl, trivial⟩
    · refine R_iload_n rfl rfl ?_
      refine R_iconst (v := 1) rfl rfl ?_
      refine R_iload rfl rfl ?_
      refine R_shl1N (y := i) rfl (by omega) ?_
      refine R_iorB (s := (prC f m S h w i)) (y := i) rfl (by first | assumption | omega) (by omega) ?_
      refine R_istore_n rfl (by decide) ?_
      refine R_iload rfl rfl ?_
      refine R_istore rfl (by decide) ?_
      refine R_iincN (x := i) (m := 1) rfl rfl rfl (by decide) ?_
      refine R_goto rfl rfl ?_
      have e := ih (i + 1) _ (by omega) ((hI.trans hσ2))
      rw [hq (i + 1) (by omega)] at e
      rw [show prC f m S h w (i + 1) = wi (prC f m S h w i) i from by simp only [prC]; exact if_pos (by omega)] at e
      exact e.weak ⟨rfl, rfl, rfl, rfl, rfl, rfl, trivial⟩
set_option maxRecDepth 100000 in
set_option maxHeartbeats 4000000 in
theorem sp_mprofileOfColumns {σ : am_G} {h w m S : Nat} {f : am_Gr} (hv : mV σ h w f) (hs : fSm f h w) (hz : zdom m) (hm : m ≤ 97) (hS : S < 64) : am_Call am_TX 5 0 c_M_profileOfColumns [.ref 120, .int (nI m), .int (nI S)] (mm σ) (am_Ok (some (.int (nI (prC f m S h w w)))) (fun σ1 => smP pW σ σ1)) := by
  have hh1 := hv.1.1.1
  have hh6 := hv.1.1.2
  have hw1 := hv.1.2.1
  have hw6 := hv.1.2.2
  refine ⟨mf_M_profileOfColumns, Nat.le_of_ble_eq_true rfl, ?_⟩
  refine R_iconst (v := 0) rfl rfl ?_
  refine R_istore_n rfl (by decide) ?_
  refine R_iconst (v := 0) rfl rfl ?_
  refine R_istore rfl (by decide) ?_
  refine R_iconst (v := 0) rfl rfl ?_
  refine R_istore rfl (by decide) ?_
  have z := lp_mprC (d := 5) (k0 := 0) hv hs hz hm hS (by omega) w 0 σ (by omega) smP.refl
  rw [show pc (prC f m S h w 0) = 0 from by show pc 0 = 0; decide] at z
  exact z.weak ⟨rfl, rfl, rfl, rfl, rfl, rfl, trivial⟩
set_option maxRecDepth 100000 in
set_option maxHeartbeats 4000000 in
theorem sp_rankOfRows {σ : am_G} {h w m S : Nat} {f : am_Gr} (hv : mV σ h w f) (hs : fSm f h w) (hm : m < 2 ^ 31) (hS : S < 64) : am_Call am_TX 5 0 c_M_rankOfRows [.ref 120, .int (nI m), .int (nI S)] (mm σ) (am_Ok (some (.int (nI (rkO f m S (2 ^ w - 1) h w)))) (fun σ1 => smP pW σ σ1)) := by
  have hh1 := hv.1.1.1
  have hh6 := hv.1.1.2
  have hw1 := hv.1.2.1
  have hw6 := hv.1.2.2
  refine ⟨mf_M_rankOfRows, Nat.le_of_ble_eq_true rfl, ?_⟩
  refine R_aload_n rfl rfl ?_
  refine R_iload_n rfl rfl ?_
  refine R_iload_n rfl rfl ?_
  refine R_aload_n rfl rfl ?_
  refine R_cV (as := []) rfl rfl iv_M_allColumns (sp_mallColumns hv) (by decide) rfl rfl rfl (by decide) rfl rfl (Nat.le_of_ble_eq_true rfl) (fun _ q => ?_)
  obtain rfl := q.symm
  refine R_cV (as := [.int (nI m), .int (nI S), .int (nI (2 ^ w - 1))]) rfl rfl iv_M_rankBy (sp_rankBy (m := m) (S := S) (T := (2 ^ w - 1)) hv hs (by omega) (by first | assumption | exact lw_lt (by omega) | exact wi_lt (by first | assumption | omega) (by omega) | exact wo_lt (by first | assumption | omega) (by omega) | omega) (by first | assumption | exact lwP2 (by omega) | omega)) (by decide) rfl rfl rfl (by decide) rfl rfl (Nat.le_of_ble_eq_true rfl) (fun σ2 hσ2 => ?_)
  exact T_ireturn rfl rfl (am_oki rfl hσ2)
/-- a set without its least member -/
def blS (s : Nat) : Nat := s &&& (s - 1)
theorem bl_raw : ∀ s : Nat, s < 64 → (s ≠ 0 → nI s &&& (nI s - 1) = nI (blS s) ∧ pc (blS s) + 1 = pc s ∧ blS s < 64) := by decide +kernel
set_option maxRecDepth 100000 in
set_option maxHeartbeats 4000000 in
theorem lp_bits {σ : am_G} {d k0 : Nat} : ∀ (n t s : Nat), s < 64 → pc s = n → t + n ≤ 6 → am_R am_TX d k0 c_M_bits 4 [none, some (.int (nI t)), some (.int (nI s))] [] (mm σ) (am_Ok (some (.int (nI (t + pc s)))) (fun σ1 => σ1 = σ)) := by
  intro n
  induction n with
  | zero =>
    intro t s hs hp ht
    obtain rfl : s = 0 := Classical.byContradiction fun e => by have := pc_pos hs e; omega
    refine R_iload_n rfl rfl ?_
    refine R_nif_eq (x := 0) rfl rfl (by omega) (fun h1 => ?_) (fun z => absurd rfl z)
    refine R_iload_n rfl rfl ?_
    exact T_ireturn rfl rfl (am_oki (by rw [hp]; rfl) rfl)
  | succ n ih =>
    intro t s hs hp ht
    have hs0 : s ≠ 0 := fun e => by subst e; rw [show pc 0 = 0 from by decide] at hp; omega
    obtain ⟨b1, b2, b3⟩ := bl_raw s hs hs0
    refine R_iload_n rfl rfl ?_
    refine R_nif_eq (x := s) rfl rfl (by omega) (fun z => absurd z hs0) (fun h1 => ?_)
    refine R_iincN (x := t) (m := 1) rfl rfl rfl (by decide) ?_
    refine R_iload_n rfl rfl ?_
    refine R_iload_n rfl rfl ?_
    refine R_iconst (v := 1) rfl rfl ?_
    refine R_isub rfl ?_
    refine R_iand rfl ?_
    refine R_istore_n rfl (by decide) ?_
    refine R_goto rfl rfl ?_
    rw [b1]
    have e := ih (t + 1) (blS s) b3 (by omega) (by omega)
    rw [show t + 1 + pc (blS s) = t + pc s by omega] at e
    exact e.weak ⟨rfl, rfl, trivial⟩
set_option maxRecDepth 100000 in
set_option maxHeartbeats 4000000 in
theorem sp_bits {σ : am_G} {s : Nat} (hs : s < 64) : am_Call am_TX 0 0 c_M_bits [.int (nI s)] (mm σ) (am_Ok (some (.int (nI (pc s)))) (fun σ1 => σ1 = σ)) := by
  refine ⟨mf_M_bits, Nat.le_of_ble_eq_true rfl, ?_⟩
  refine R_iconst (v := 0) rfl rfl ?_
  refine R_istore_n rfl (by decide) ?_
  refine R_iload_n rfl rfl ?_
  refine R_istore_n rfl (by decide) ?_
  have e := lp_bits (σ := σ) (d := 0) (k0 := 0) (pc s) 0 s hs rfl (by have := @pc_le s; omega)
  rw [Nat.zero_add] at e
  exact e.weak ⟨rfl, rfl, trivial⟩
set_option maxRecDepth 100000 in
set_option maxHeartbeats 4000000 in
theorem sp_areFree {σ : am_G} {h w m S : Nat} {f : am_Gr} (hv : mV σ h w f) (hs : fSm f h w) (hm : m < 2 ^ 31) (hS : S < 64) : am_Call am_TX 6 0 c_M_areFree [.ref 120, .int (nI m), .int (nI S)] (mm σ) (am_Ok (some (.int (zP (frB f m h w S = true)))) (fun σ1 => smP pW σ σ1)) := by
  have hh1 := hv.1.1.1
  have hh6 := hv.1.1.2
  have hw1 := hv.1.2.1
  have hw6 := hv.1.2.2
  have hr6 : rkO f m S (2 ^ w - 1) h w ≤ 6 := rkO_6 hh6
  have hp6 := @pc_le S
  refine ⟨mf_M_areFree, Nat.le_of_ble_eq_true rfl, ?_⟩
  refine R_aload_n rfl rfl ?_
  refine R_iload_n rfl rfl ?_
  refine R_iload_n rfl rfl ?_
  refine R_cV (as := [.int (nI m), .int (nI S)]) rfl rfl iv_M_rankOfRows (sp_rankOfRows (m := m) (S := S) hv hs (by omega) (by first | assumption | exact lw_lt (by omega) | exact wi_lt (by first | assumption | omega) (by omega) | exact wo_lt (by first | assumption | omega) (by omega) | omega)) (by decide) rfl rfl rfl (by decide) rfl rfl (Nat.le_of_ble_eq_true rfl) (fun σ1 hσ1 => ?_)
  refine R_iload_n rfl rfl ?_
  refine R_cS (as := [.int (nI S)]) rfl rfl iv_M_bits (sp_bits (s := S) (by first | assumption | exact lw_lt (by omega) | exact wi_lt (by first | assumption | omega) (by omega) | exact wo_lt (by first | assumption | omega) (by omega) | omega)) (by decide) rfl rfl rfl rfl (Nat.le_of_ble_eq_true rfl) (fun _ q => ?_)
  obtain rfl := q.symm
  refine R_nicmp_ne (x := (rkO f m S (2 ^ w - 1) h w)) (y := (pc S)) rfl rfl (by omega) (by omega) (fun h1 => ?_) (fun h1 => ?_)
  · refine R_iconst (v := 0) rfl rfl ?_
    exact T_zreturn rfl rfl rfl (am_oki ((zP_f (fun z => h1 (of_decide_eq_true z)))).symm hσ1)
  · refine R_iconst (v := 1) rfl rfl ?_
    refine R_goto rfl rfl ?_
    exact T_zreturn rfl rfl rfl (am_oki ((zP_t (decide_eq_true h1))).symm hσ1)
/-- a modulus: 0 or a prime -/
def mdL : List Nat := 0 :: prL
theorem md_dom {n : Nat} (h : n ∈ mdL) : zdom n ∧ n ≤ 97 := by
  rcases List.mem_cons.mp h with rfl | h
  · exact ⟨zdom_0, by omega⟩
  · exact ⟨zdom_p h, (prL_le n h).2⟩
theorem in97 {x : Int32} (h : (2 : Int64) ≤ x.toInt64 ∧ x.toInt64 ≤ 97) : ∃ n, 2 ≤ n ∧ n ≤ 97 ∧ x = nI n := by
  rw [l_le, l_le, Int32.toInt_toInt64, show (2 : Int64).toInt = 2 from rfl, show (97 : Int64).toInt = 97 from rfl] at h
  refine ⟨x.toInt.toNat, by omega, by omega, ?_⟩
  apply Int32.toInt_inj.mp
  rw [nI_toInt (by omega)]; omega
theorem in97_n {n : Nat} (h1 : 2 ≤ n) (h2 : n ≤ 97) : (2 : Int64) ≤ (nI n).toInt64 ∧ (nI n).toInt64 ≤ 97 := by
  rw [l_le, l_le, nI_64 (by omega), show (2 : Int64).toInt = 2 from rfl, show (97 : Int64).toInt = 97 from rfl]
  omega
set_option maxRecDepth 100000 in
set_option maxHeartbeats 4000000 in
theorem sp_isModulus {σ : am_G} {x : Int32} {b : Bool} (hb : b = true ↔ ∃ n, n ∈ mdL ∧ x = nI n) : am_Call am_TX 1 0 c_M_isModulus [.int x] (mm σ) (am_Ok (some (.int (zP (b = true)))) (fun σ1 => σ1 = σ)) := by
  refine ⟨mf_M_isModulus, Nat.le_of_ble_eq_true rfl, ?_⟩
  refine R_iload_n rfl rfl ?_
  refine R_if_eq rfl rfl (fun h1 => ?_) (fun h1 => ?_)
  · refine R_iconst (v := 1) rfl rfl ?_
    refine R_goto rfl rfl ?_
    exact T_zreturn rfl rfl rfl (am_oki ((zP_t (hb.mpr ⟨0, List.mem_cons_self, by rw [h1]; rfl⟩)).symm) rfl)
  · refine R_iload_n rfl rfl ?_
    refine R_i2l rfl ?_
    refine R_ldc2 (v := 2) rfl (by decide) ?_
    refine R_ldc2 (v := 97) rfl (by decide) ?_
    refine R_cS (as := [.long x.toInt64, .long 2, .long 97]) rfl rfl iv_M_in sp_in (by decide) rfl rfl rfl rfl (Nat.le_of_ble_eq_true rfl) (fun _ q => ?_)
    obtain rfl := q.symm
    refine R_zif_eq rfl rfl (fun h2 => ?_) (fun h2 => ?_)
    · refine R_iconst (v := 0) rfl rfl ?_
      refine T_zreturn rfl rfl rfl (am_oki ((zP_f (fun z => ?_)).symm) rfl)
      obtain ⟨n, hn, rfl⟩ := hb.mp z
      rcases List.mem_cons.mp hn with rfl | hn
      · exact h1 rfl
      · exact h2 (in97_n (prL_le n hn).1 (prL_le n hn).2)
    · obtain ⟨n, n1, n2, rfl⟩ := in97 h2
      refine R_iload_n rfl rfl ?_
      refine R_cS (as := [.int (nI n)]) rfl rfl iv_M_isPrime (sp_mprime n1 n2) (by decide) rfl rfl rfl rfl (Nat.le_of_ble_eq_true rfl) (fun _ q => ?_)
      obtain rfl := q.symm
      refine R_zif_eq rfl rfl (fun h3 => ?_) (fun h3 => ?_)
      · refine R_iconst (v := 0) rfl rfl ?_
        refine T_zreturn rfl rfl rfl (am_oki ((zP_f (fun z => ?_)).symm) rfl)
        obtain ⟨k, hk, e⟩ := hb.mp z
        have e1 : n = k := by
          have hk97 := (md_dom hk).2
          have := congrArg Int32.toInt e
          rw [nI_toInt (by omega), nI_toInt (by omega)] at this
          omega
        subst e1
        rcases List.mem_cons.mp hk with rfl | hk
        · exact h1 rfl
        · exact h3 hk
      · refine R_iconst (v := 1) rfl rfl ?_
        refine R_goto rfl rfl ?_
        exact T_zreturn rfl rfl rfl (am_oki ((zP_t (hb.mpr ⟨n, List.mem_cons_of_mem _ h3, rfl⟩)).symm) rfl)
def pK (a b : Nat) : Prop := (a = 120 ∧ b = 9) ∨ a = 124
def pkV (σ : am_G) (n : Nat) (P : Nat → Nat) : Prop := σ.1 120 9 = nI n ∧ ∀ j, j < n → σ.1 124 j = nI (P j)
theorem pkV.fr {Q : Nat → Nat → Prop} {σ σ1 : am_G} (q : smP Q σ σ1) {n : Nat} {P : Nat → Nat} (h : pkV σ n P) (h1 : ¬ Q 120 9) (h2 : ∀ b, ¬ Q 124 b) : pkV σ1 n P := ⟨(q.i h1).trans h.1, fun j hj => (q.i (h2 j)).trans (h.2 j hj)⟩
theorem pK_mV {σ σ1 : am_G} (q : smP pK σ σ1) {h w : Nat} {f : am_Gr} (hv : mV σ h w f) : mV σ1 h w f :=
  q.mV hv (fun b => by unfold pK; omega) (fun b => by unfold pK; omega) (by unfold pK; omega)
set_option maxRecDepth 100000 in
set_option maxHeartbeats 4000000 in
theorem lp_pick {σ : am_G} {S : Nat} {d k0 : Nat} (hS : S < 64) (hd : 1 ≤ d)  : ∀ (uu i : Nat) (τ : am_G), i + uu = 6 → (smP pK σ τ ∧ τ.1 120 9 = nI (nb S i) ∧ ∀ j, j < nb S i → τ.1 124 j = nI (sel S j)) → am_R am_TX d k0 c_M_pick 7 [some (.ref 120), some (.int (nI S)), some (.int (nI i))] [] (mm τ) (am_Ok none (fun σ1 => smP pK σ σ1 ∧ pkV σ1 (pc S) (sel S))) := by
  intro uu
  induction uu with
  | zero =>
    intro i τ hi hI
    obtain rfl : 6 = i := by omega
    skip
    refine R_iload_n rfl rfl ?_
    refine R_bipush (v := 6) rfl (by decide) ?_
    refine R_nicmp_ge (x := 6) (y := 6) rfl rfl (by omega) (by omega) (fun h1 => ?_) (fun z => by omega)
    exact T_return rfl rfl (am_okv0 ⟨hI.1, by rw [pc_nb hS]; exact hI.2⟩)
  | succ uu ih =>
    intro i τ hi hI
    have hb := @nb_le S i
    refine R_iload_n rfl rfl ?_
    refine R_bipush (v := 6) rfl (by decide) ?_
    refine R_nicmp_ge (x := i) (y := 6) rfl rfl (by omega) (by omega) (fun z => by omega) (fun h1 => ?_)
    refine R_iload_n rfl rfl ?_
    refine R_iload_n rfl rfl ?_
    refine R_cS (as := [.int (nI S), .int (nI i)]) rfl rfl iv_M_has (sp_mhas (s := S) (k := i) (by first | assumption | exact lw_lt (by omega) | exact wi_lt (by first | assumption | omega) (by omega) | exact wo_lt (by first | assumption | omega) (by omega) | omega) (by omega)) (by omega) rfl rfl rfl rfl (Nat.le_of_ble_eq_true rfl) (fun _ q => ?_)
    obtain rfl := q.symm
    refine R_zif_ne rfl rfl (fun h2 => ?_) (fun h2 => ?_)
    · refine R_aload_n rfl rfl ?_
      refine R_gP (x := 124) rfl rfl fp_11_8 rfl ?_
      refine R_aload_n rfl rfl ?_
      refine R_gIN (n := (nb S i)) rfl rfl fd_11_9 hI.2.1 ?_
      refine R_iload_n rfl rfl ?_
      refine R_wI (j := (nb S i)) rfl rfl rfl (by omega) (by decide) ?_
      refine R_aload_n rfl rfl ?_
      refine R_dup rfl rfl ?_
      refine R_gIN (n := (nb S i)) rfl rfl fd_11_9 ((sI_o (Or.inl (by decide))).trans hI.2.1) ?_
      refine R_iconst (v := 1) rfl rfl ?_
      refine R_iaddN (x := (nb S i)) (y := 1) rfl ?_
      refine R_pI rfl rfl fw_11_9 rfl ?_
      refine R_iincN (x := i) (m := 1) rfl rfl rfl (by decide) ?_
      refine R_goto rfl rfl ?_
      refine (ih (i + 1) _ (by omega) ⟨(hI.1.trans (smP_sI (Or.inr rfl))).trans (smP_sI (Or.inl ⟨rfl, rfl⟩)), ?_, fun j hj => ?_⟩).weak ⟨rfl, rfl, rfl, trivial⟩
      · rw [nb_t h2]; exact sI_s
      · rw [nb_t h2] at hj
        rw [sI_o (Or.inl (by decide))]
        by_cases e : j = nb S i
        · subst e; rw [sel_nb hS (by omega) h2]; exact sI_s
        · rw [sI_o (Or.inr e)]; exact hI.2.2 j (by omega)
    · refine R_goto rfl rfl ?_
      refine R_iincN (x := i) (m := 1) rfl rfl rfl (by decide) ?_
      refine R_goto rfl rfl ?_
      refine (ih (i + 1) τ (by omega) ⟨hI.1, by rw [nb_f h2]; exact hI.2.1, fun j hj => by rw [nb_f h2] at hj; exact hI.2.2 j hj⟩).weak ⟨rfl, rfl, rfl, trivial⟩
set_option maxRecDepth 100000 in
set_option maxHeartbeats 4000000 in
theorem sp_pick {σ : am_G} {S : Nat} (hS : S < 64) : am_Call am_TX 1 0 c_M_pick [.ref 120, .int (nI S)] (mm σ) (am_Ok none (fun σ1 => smP pK σ σ1 ∧ pkV σ1 (pc S) (sel S))) := by
  refine ⟨mf_M_pick, Nat.le_of_ble_eq_true rfl, ?_⟩
  refine R_aload_n rfl rfl ?_
  refine R_iconst (v := 0) rfl rfl ?_
  refine R_pI rfl rfl fw_11_9 rfl ?_
  refine R_iconst (v := 0) rfl rfl ?_
  refine R_istore_n rfl (by decide) ?_
  exact (lp_pick hS (by omega) 6 0 _ (by omega) ⟨smP_sI (Or.inl ⟨rfl, rfl⟩), sI_s, fun j hj => absurd hj (Nat.not_lt_zero j)⟩).weak ⟨rfl, rfl, rfl, trivial⟩
def dtS (f : am_Gr) (P : Nat → Nat) (k u s c : Nat) : Int := zzS (nb s c) (fun j => zg j * fZ f (P k) (sel s j) * zzD u (fun i l => fZ f (P (k + 1 + i)) (sel s (zk j l))))
theorem dtS_f {f : am_Gr} {P : Nat → Nat} {k u s c : Nat} (h : ¬ s.testBit c = true) : dtS f P k u s (c + 1) = dtS f P k u s c := by unfold dtS; rw [nb_f h]
theorem dtS_t {f : am_Gr} {P : Nat → Nat} {k u s c : Nat} (hs : s < 64) (hc : c < 6) (hp : pc s = u + 1) (h : s.testBit c = true) : dtS f P k u s (c + 1) = dtS f P k u s c + zg (nb s c) * fZ f (P k) c * zzD u (fun i l => fZ f (P (k + 1 + i)) (sel (wo s c) l)) := by
  unfold dtS
  rw [nb_t h]
  show zzS (nb s c) _ + _ = _
  have hj : nb s c < pc s := by rw [pc_nb hs]; exact nb_lt hc h
  have e := sel_nb hs hc h
  dsimp only
  rw [e]
  congr 1
  congr 1
  refine zzD_congr u (fun i l _ hl => ?_)
  rw [← sel_wo hs hj (by omega), e]
theorem dtS_6 {f : am_Gr} {P : Nat → Nat} {k u s : Nat} (hs : s < 64) (hp : pc s = u + 1) : dtS f P k u s 6 = zzD (u + 1) (fun i j => fZ f (P (k + i)) (sel s j)) := by
  unfold dtS
  rw [← pc_nb hs, hp, zzD_s]
  refine zzS_congr _ (fun j _ => ?_)
  rw [Nat.add_zero]
  congr 1
  refine zzD_congr u (fun i l _ _ => ?_)
  rw [show k + 1 + i = k + (i + 1) by omega]
theorem f32_0 {x : Int64} (h : x.toInt.natAbs ≤ 20) (e : x.toInt32 = 0) : x.toInt = 0 := by
  have := sm3264 h
  rw [e] at this
  rw [← this]; rfl
set_option maxRecDepth 100000 in
set_option maxHeartbeats 4000000 in
theorem lp_det {σ : am_G} {h w n : Nat} {f : am_Gr} {P : Nat → Nat} {k u s : Nat} {d k0 : Nat} (hv : mV σ h w f) (hs : fSm f h w) (hp : pkV σ n P) (hn6 : n ≤ 6) (hPh : ∀ j, j < n → P j < h) (hk : k + (u + 1) = n) (hps : pc s = u + 1) (hsw : s < 2 ^ w) (ihd : ∀ s2, pc s2 = u → s2 < 2 ^ w → am_Call am_TX (u + 3) 0 c_M_determinant [.ref 120, .int (nI (k + 1)), .int (nI s2)] (mm σ) (am_Ok (some (.long (Int64.ofInt (zzD u (fun i l => fZ f (P (k + 1 + i)) (sel s2 l)))))) (fun σ1 => σ1 = σ))) (hd : u + 4 ≤ d)  : ∀ (uu i : Nat), i + uu = 6 → am_R am_TX d k0 c_M_determinant 18 [some (.ref 120), some (.int (nI k)), some (.int (nI s)), some (.long (Int64.ofInt (dtS f P k u s i))), none, some (.long (Int64.ofInt (zg (nb s i)))), none, some (.int (nI i))] [] (mm σ) (am_Ok (some (.long (Int64.ofInt (zzD (u + 1) (fun i j => fZ f (P (k + i)) (sel s j)))))) (fun σ1 => σ1 = σ)) := by
  have hh1 := hv.1.1.1
  have hh6 := hv.1.1.2
  have hw1 := hv.1.2.1
  have hw6 := hv.1.2.2
  have h64 := p2_64 hsw hw6
  have hPk := hPh k (by omega)
  intro uu
  induction uu with
  | zero =>
    intro i hi
    obtain rfl : 6 = i := by omega
    skip
    refine R_iload rfl rfl ?_
    refine R_bipush (v := 6) rfl (by decide) ?_
    refine R_nicmp_ge (x := 6) (y := 6) rfl rfl (by omega) (by omega) (fun h1 => ?_) (fun z => by omega)
    refine R_lload_n rfl rfl ?_
    exact T_lreturn rfl rfl (am_okl (by rw [dtS_6 h64 hps]) rfl)
  | succ uu ih =>
    intro i hi
    have hbi := @pc_wo s i h64 (by omega)
    have hiw : s.testBit i = true → i < w := fun z => Classical.byContradiction fun hn => tb_hi (Nat.lt_of_lt_of_le hsw (Nat.pow_le_pow_right (n := 2) (by omega) (show w ≤ i by omega))) z
    refine R_iload rfl rfl ?_
    refine R_bipush (v := 6) rfl (by decide) ?_
    refine R_nicmp_ge (x := i) (y := 6) rfl rfl (by omega) (by omega) (fun z => by omega) (fun h1 => ?_)
    refine R_iload_n rfl rfl ?_
    refine R_iload rfl rfl ?_
    refine R_cS (as := [.int (nI s), .int (nI i)]) rfl rfl iv_M_has (sp_mhas (s := s) (k := i) (by first | assumption | exact lw_lt (by omega) | exact wi_lt (by first | assumption | omega) (by omega) | exact wo_lt (by first | assumption | omega) (by omega) | omega) (by omega)) (by omega) rfl rfl rfl rfl (Nat.le_of_ble_eq_true rfl) (fun _ q => ?_)
    obtain rfl := q.symm
    refine R_zif_ne rfl rfl (fun h2 => ?_) (fun h2 => ?_)
    · refine R_aload_n rfl rfl ?_
      refine R_aload_n rfl rfl ?_
      refine R_gP (x := 124) rfl rfl fp_11_8 rfl ?_
      refine R_iload_n rfl rfl ?_
      refine R_xI (j := k) rfl rfl rfl (by omega) (by decide) ?_
      rw [hp.2 k (by omega)]
      refine R_iload rfl rfl ?_
      refine R_cV (as := [.int (nI (P k)), .int (nI i)]) rfl rfl iv_M_at (sp_at (i := (P k)) (j := i) hv (by omega) (by omega)) (by omega) rfl rfl rfl (by decide) rfl rfl (Nat.le_of_ble_eq_true rfl) (fun _ q => ?_)
      obtain rfl := q.symm
      refine R_if_eq rfl rfl (fun h3 => ?_) (fun h3 => ?_)
      · refine R_lload rfl rfl ?_
        refine R_lneg rfl ?_
        refine R_lstore rfl (by decide) ?_
        refine R_iincN (x := i) (m := 1) rfl rfl rfl (by decide) ?_
        refine R_goto rfl rfl ?_
        have e := ih (i + 1) (by omega)
        rw [dtS_t h64 (by omega) hps h2, nb_t h2, zg_s, Int64.ofInt_neg, show fZ f (P k) i = 0 from f32_0 (hs (P k) i (hPh k (by omega)) (hiw h2)) h3, Int.mul_zero, Int.zero_mul, Int.add_zero] at e
        exact e.weak ⟨rfl, rfl, rfl, rfl, rfl, rfl, trivial⟩
      · refine R_lload_n rfl rfl ?_
        refine R_lload rfl rfl ?_
        refine R_aload_n rfl rfl ?_
        refine R_aload_n rfl rfl ?_
        refine R_gP (x := 124) rfl rfl fp_11_8 rfl ?_
        refine R_iload_n rfl rfl ?_
        refine R_xI (j := k) rfl rfl rfl (by omega) (by decide) ?_
        rw [hp.2 k (by omega)]
        refine R_iload rfl rfl ?_
        refine R_cV (as := [.int (nI (P k)), .int (nI i)]) rfl rfl iv_M_at (sp_at (i := (P k)) (j := i) hv (by omega) (by omega)) (by omega) rfl rfl rfl (by decide) rfl rfl (Nat.le_of_ble_eq_true rfl) (fun _ q => ?_)
        obtain rfl := q.symm
        refine R_i2l rfl ?_
        refine R_lmul rfl ?_
        refine R_aload_n rfl rfl ?_
        refine R_iload_n rfl rfl ?_
        refine R_iconst (v := 1) rfl rfl ?_
        refine R_iaddN (x := k) (y := 1) rfl ?_
        refine R_iload_n rfl rfl ?_
        refine R_iconst (v := 1) rfl rfl ?_
        refine R_iload rfl rfl ?_
        refine R_shl1N (y := i) rfl (by omega) ?_
        refine R_iconst (v := -1) rfl rfl ?_
        refine R_ixor rfl ?_
        refine R_iandB (s := s) (y := i) rfl (by first | assumption | omega) (by omega) ?_
        refine R_cV (as := [.int (nI (k + 1)), .int (nI (wo s i))]) rfl rfl iv_M_determinant (ihd (wo s i) (by have z := hbi h2; omega) (by have z := hbi h2; omega)) (by omega) rfl rfl rfl (by decide) rfl rfl (Nat.le_of_ble_eq_true rfl) (fun _ q => ?_)
        obtain rfl := q.symm
        refine R_lmul rfl ?_
        refine R_ladd rfl ?_
        refine R_lstore_n rfl (by decide) ?_
        refine R_lload rfl rfl ?_
        refine R_lneg rfl ?_
        refine R_lstore rfl (by decide) ?_
        refine R_iincN (x := i) (m := 1) rfl rfl rfl (by decide) ?_
        refine R_goto rfl rfl ?_
        have e := ih (i + 1) (by omega)
        rw [dtS_t h64 (by omega) hps h2, Int64.ofInt_add, Int64.ofInt_mul, Int64.ofInt_mul, nb_t h2, zg_s, Int64.ofInt_neg] at e
        rw [show Int64.ofInt (fZ f (P k) i) = (f (P k) i).toInt32.toInt64 from by rw [sm3264 (hs (P k) i (hPh k (by omega)) (hiw h2))]; exact Int64.ofInt_toInt _] at e
        exact e.weak ⟨rfl, rfl, rfl, rfl, rfl, rfl, trivial⟩
    · refine R_goto rfl rfl ?_
      refine R_iincN (x := i) (m := 1) rfl rfl rfl (by decide) ?_
      refine R_goto rfl rfl ?_
      have e := ih (i + 1) (by omega)
      rw [dtS_f h2, nb_f h2] at e
      exact e.weak ⟨rfl, rfl, rfl, rfl, rfl, rfl, trivial⟩
set_option maxRecDepth 100000 in
set_option maxHeartbeats 4000000 in
theorem sp_det {σ : am_G} {h w n : Nat} {f : am_Gr} {P : Nat → Nat} (hv : mV σ h w f) (hs : fSm f h w) (hp : pkV σ n P) (hn6 : n ≤ 6) (hPh : ∀ j, j < n → P j < h) : ∀ (u k s : Nat), k + u = n → pc s = u → s < 2 ^ w → am_Call am_TX (u + 3) 0 c_M_determinant [.ref 120, .int (nI k), .int (nI s)] (mm σ) (am_Ok (some (.long (Int64.ofInt (zzD u (fun i j => fZ f (P (k + i)) (sel s j)))))) (fun σ1 => σ1 = σ)) := by
  intro u
  induction u with
  | zero =>
    intro k s hk hps hsw
    refine ⟨mf_M_determinant, Nat.le_of_ble_eq_true rfl, ?_⟩
    refine R_iload_n rfl rfl ?_
    refine R_aload_n rfl rfl ?_
    refine R_gIN (n := n) rfl rfl fd_11_9 hp.1 ?_
    refine R_nicmp_ne (x := k) (y := n) rfl rfl (by omega) (by omega) (fun z => by omega) (fun h1 => ?_)
    refine R_lconst (v := 1) rfl rfl ?_
    exact T_lreturn rfl rfl (am_okl rfl rfl)
  | succ u ih =>
    intro k s hk hps hsw
    refine ⟨mf_M_determinant, Nat.le_of_ble_eq_true rfl, ?_⟩
    refine R_iload_n rfl rfl ?_
    refine R_aload_n rfl rfl ?_
    refine R_gIN (n := n) rfl rfl fd_11_9 hp.1 ?_
    refine R_nicmp_ne (x := k) (y := n) rfl rfl (by omega) (by omega) (fun h1 => ?_) (fun z => by omega)
    refine R_lconst (v := 0) rfl rfl ?_
    refine R_lstore_n rfl (by decide) ?_
    refine R_lconst (v := 1) rfl rfl ?_
    refine R_lstore rfl (by decide) ?_
    refine R_iconst (v := 0) rfl rfl ?_
    refine R_istore rfl (by decide) ?_
    exact (lp_det hv hs hp hn6 hPh hk hps hsw (fun s2 a b => ih (k + 1) s2 (by omega) a b) (by omega) 6 0 (by omega)).weak ⟨rfl, rfl, rfl, rfl, rfl, rfl, trivial⟩
set_option maxRecDepth 100000 in
set_option maxHeartbeats 4000000 in
theorem sp_mminorOf {σ : am_G} {h w S s : Nat} {f : am_Gr} (hv : mV σ h w f) (hs : fSm f h w) (hS : S < 2 ^ h) (hsw : s < 2 ^ w) (hc : pc s = pc S) : am_Call am_TX 10 0 c_M_minorOf [.ref 120, .int (nI S), .int (nI s)] (mm σ) (am_Ok (some (.long (mnF f S w s))) (fun σ1 => smP pK σ σ1)) := by
  have hh1 := hv.1.1.1
  have hh6 := hv.1.1.2
  have hw1 := hv.1.2.1
  have hw6 := hv.1.2.2
  have h64 := p2_64 hS hh6
  refine ⟨mf_M_minorOf, Nat.le_of_ble_eq_true rfl, ?_⟩
  refine R_aload_n rfl rfl ?_
  refine R_iload_n rfl rfl ?_
  refine R_cV (as := [.int (nI S)]) rfl rfl iv_M_pick (sp_pick (S := S) (by omega)) (by decide) rfl rfl rfl (by decide) rfl rfl (Nat.le_of_ble_eq_true rfl) (fun σ1 hσ1 => ?_)
  obtain ⟨q1, q2⟩ := hσ1
  refine R_aload_n rfl rfl ?_
  refine R_iconst (v := 0) rfl rfl ?_
  refine R_iload_n rfl rfl ?_
  refine R_cV (as := [.int (nI 0), .int (nI s)]) rfl rfl iv_M_determinant ((sp_det (pK_mV q1 hv) hs q2 pc_le (fun j hj => (sel_in h64 hh6 (by rw [← pc_nbw hS hh6]; exact hj)).1) (pc S) 0 s (by omega) hc hsw).room (d2 := 9) (by have := @pc_le S; omega) (Nat.le_refl 0)) (by decide) rfl rfl rfl (by decide) rfl rfl (Nat.le_of_ble_eq_true rfl) (fun _ q => ?_)
  obtain rfl := q.symm
  exact T_lreturn rfl rfl (am_okl (by rw [mnF_z hw6 hsw (by omega), hc]; congr 2; funext i j; rw [Nat.zero_add]) q1)
