/-! ===== sets of rows, the class's ===== -/
def frB (f : am_Gr) (m h w S : Nat) : Bool := decide (rkO f m S (2 ^ w - 1) h w = pc S)
def pSv (a _b : Nat) : Prop := (19 ≤ a ∧ a < 21) ∨ a = 25
def spN (f : am_Gr) (m h w S : Nat) : Nat → Nat
  | 0 => 0
  | r + 1 => if rkO f m (wi S r) (2 ^ w - 1) h w = rkO f m S (2 ^ w - 1) h w then wi (spN f m h w S r) r else spN f m h w S r
theorem spN_lt {f : am_Gr} {m h w S : Nat} : ∀ r, r ≤ 6 → spN f m h w S r < 64
  | 0, _ => by show (0 : Nat) < 64; decide
  | r + 1, hr => by
    have ih := @spN_lt f m h w S r (by omega)
    simp only [spN]
    split
    · exact wi_lt ih (by omega)
    · exact ih
def ciN (A : Nat → Bool) (s : Nat) : Nat → Bool
  | 0 => true
  | r + 1 => ciN A s r && (!s.testBit r || A (wo s r))
/-- a circuit: not free, but without any one member -/
def ciB (A : Nat → Bool) (n s : Nat) : Bool := !A s && ciN A s n
theorem ciN_f {A : Nat → Bool} {s r : Nat} (h : s.testBit r = true) (h2 : ¬ A (wo s r) = true) : ∀ n, r < n → ciN A s n = false
  | 0, hn => absurd hn (by omega)
  | n + 1, hn => by
    by_cases e : r = n
    · subst e
      have h3 : A (wo s r) = false := by simpa using h2
      simp [ciN, h, h3]
    · simp only [ciN, ciN_f h h2 n (by omega), Bool.false_and]
def cbN (A : Nat → Bool) (rk : Nat) : Nat → Nat
  | 0 => 0
  | s + 1 => if A s = true ∧ pc s = rk then cbN A rk s + 1 else cbN A rk s
def ccN (A : Nat → Bool) (n : Nat) : Nat → Nat
  | 0 => 0
  | s + 1 => if s ≠ 0 ∧ ciB A n s = true then ccN A n s + 1 else ccN A n s
def lcF (A : Nat → Bool) (n r : Nat) : Nat → Nat → Int32
  | 0, _ => -1
  | u + 1, s => if s.testBit r = true ∧ ciB A n s = true then nI s else lcF A n r u (s + 1)
theorem vp_b1 : vp_nar .boolean 1 = 1 := rfl
theorem vp_b0 : vp_nar .boolean 0 = 0 := rfl
set_option maxRecDepth 100000 in
set_option maxHeartbeats 4000000 in
theorem sp_isFree {σ : am_G} {k h w m : Nat} {f : Nat → Nat → Int64} {S : Nat} (hM : isMat k) (hk : 26 ≤ k) (hv : vM σ k h w f) (hm : m < 2 ^ 31) (hS : S < 64) : am_Call am_TX 5 0 c_RowSets_isFree [.ref 24, .ref k, .int (nI m), .int (nI S)] (mm σ) (am_Ok (some (.int (zP (frB f m h w S = true)))) (fun σ1 => smP (plc 19 21) σ σ1)) := by
  have hh := hv.1.2
  have hw := hv.2.1.2
  have hp := @pc_le S
  have hr := @rkO_6 f m S (2 ^ w - 1) h w hh
  refine ⟨mf_RowSets_isFree, Nat.le_of_ble_eq_true rfl, ?_⟩
  refine R_aload_n rfl rfl ?_
  refine R_gP (x := 16) rfl rfl fp_8_0 rfl ?_
  refine R_aload_n rfl rfl ?_
  refine R_iload_n rfl rfl ?_
  refine R_iload_n rfl rfl ?_
  refine R_aload_n rfl rfl ?_
  refine R_cV (as := []) rfl rfl iv_Matrix_allColumns (sp_Matrix_allColumns hM hv.2.1.1 hv.2.1.2) (by decide) rfl rfl hM.1 (by decide) rfl rfl (Nat.le_of_ble_eq_true rfl) (fun _ q => ?_)
  obtain rfl := q.symm
  refine R_cV (as := [.ref k, .int (nI m), .int (nI S), .int (nI (2 ^ w - 1))]) rfl rfl iv_Reckoner_partRank (sp_partRank (m := m) (S := S) (T := (2 ^ w - 1)) hM (by omega) hv (by omega) (by first | assumption | exact lw_lt (by omega) | exact wi_lt (by first | assumption | omega) (by omega) | exact wo_lt (by first | assumption | omega) (by omega) | omega) (by first | assumption | exact lw_lt (by omega) | exact wi_lt (by first | assumption | omega) (by omega) | exact wo_lt (by first | assumption | omega) (by omega) | omega)) (by decide) rfl rfl rfl (by decide) rfl rfl (Nat.le_of_ble_eq_true rfl) (fun σ2 hσ2 => ?_)
  refine R_iload_n rfl rfl ?_
  refine R_cS (as := [.int (nI S)]) rfl rfl iv_JInteger_bitCount (sp_bitCount (s := S) (by first | assumption | exact lw_lt (by omega) | exact wi_lt (by first | assumption | omega) (by omega) | exact wo_lt (by first | assumption | omega) (by omega) | omega)) (by decide) rfl rfl rfl rfl (Nat.le_of_ble_eq_true rfl) (fun _ q => ?_)
  obtain rfl := q.symm
  refine R_nicmp_ne (x := (rkO f m S (2 ^ w - 1) h w)) (y := (pc S)) rfl rfl (by omega) (by omega) (fun h1 => ?_) (fun h1 => ?_)
  · refine R_iconst (v := 0) rfl rfl ?_
    exact T_zreturn rfl rfl rfl (am_oki ((zP_f (by unfold frB; rw [decide_eq_true_iff]; omega)).symm) hσ2)
  · refine R_iconst (v := 1) rfl rfl ?_
    refine R_goto rfl rfl ?_
    exact T_zreturn rfl rfl rfl (am_oki ((zP_t (by unfold frB; rw [decide_eq_true_iff]; omega)).symm) hσ2)
set_option maxRecDepth 100000 in
set_option maxHeartbeats 4000000 in
theorem lp_span {σ : am_G} {k h w m : Nat} {f : Nat → Nat → Int64} {S : Nat} {d k0 : Nat} {Q : am_Res → Prop} (hM : isMat k) (hk : 26 ≤ k) (hv : vM σ k h w f) (hm : m < 2 ^ 31) (hS : S < 64) (hd : 5 ≤ d) (hx : ∀ (τ : am_G), (smP (plc 19 21) σ τ) → am_R am_TX d k0 c_RowSets_span 72 [some (.ref 24), some (.ref k), some (.int (nI m)), some (.int (nI S)), some (.int (nI (2 ^ w - 1))), some (.int (nI (rkO f m S (2 ^ w - 1) h w))), some (.int (nI (spN f m h w S h))), some (.int (nI h))] [] (mm τ) Q) : ∀ (uu i : Nat) (τ : am_G), i + uu = h → (smP (plc 19 21) σ τ) → am_R am_TX d k0 c_RowSets_span 26 [some (.ref 24), some (.ref k), some (.int (nI m)), some (.int (nI S)), some (.int (nI (2 ^ w - 1))), some (.int (nI (rkO f m S (2 ^ w - 1) h w))), some (.int (nI (spN f m h w S i))), some (.int (nI i))] [] (mm τ) Q := by
  have hh := hv.1.2
  have hw := hv.2.1.2
  intro uu
  induction uu with
  | zero =>
    intro i τ hi hI
    obtain rfl : h = i := by omega
    skip
    refine R_iload rfl rfl ?_
    refine R_aload_n rfl rfl ?_
    refine R_gIN (n := h) rfl hM.1 fd_4_0 (hI.vM hv (fun b => by unfold plc; omega) (fun b => by unfold plc; omega)).1.1 ?_
    refine R_nicmp_ge (x := h) (y := h) rfl rfl (by omega) (by omega) (fun h1 => ?_) (fun z => by omega)
    exact hx τ hI
  | succ uu ih =>
    intro i τ hi hI
    have hp := @spN_lt f m h w S i (by omega)
    have hr := @rkO_6 f m (wi S i) (2 ^ w - 1) h w hh
    have hr2 := @rkO_6 f m S (2 ^ w - 1) h w hh
    refine R_iload rfl rfl ?_
    refine R_aload_n rfl rfl ?_
    refine R_gIN (n := h) rfl hM.1 fd_4_0 (hI.vM hv (fun b => by unfold plc; omega) (fun b => by unfold plc; omega)).1.1 ?_
    refine R_nicmp_ge (x := i) (y := h) rfl rfl (by omega) (by omega) (fun z => by omega) (fun h1 => ?_)
    refine R_aload_n rfl rfl ?_
    refine R_gP (x := 16) rfl rfl fp_8_0 rfl ?_
    refine R_aload_n rfl rfl ?_
    refine R_iload_n rfl rfl ?_
    refine R_iload_n rfl rfl ?_
    refine R_iconst (v := 1) rfl rfl ?_
    refine R_iload rfl rfl ?_
    refine R_shl1N (y := i) rfl (by omega) ?_
    refine R_iorB (s := S) (y := i) rfl (by first | assumption | omega) (by omega) ?_
    refine R_iload rfl rfl ?_
    refine R_cV (as := [.ref k, .int (nI m), .int (nI (wi S i)), .int (nI (2 ^ w - 1))]) rfl rfl iv_Reckoner_partRank (sp_partRank (m := m) (S := (wi S i)) (T := (2 ^ w - 1)) hM (by omega) (hI.vM hv (fun b => by unfold plc; omega) (fun b => by unfold plc; omega)) (by omega) (by first | assumption | exact lw_lt (by omega) | exact wi_lt (by first | assumption | omega) (by omega) | exact wo_lt (by first | assumption | omega) (by omega) | omega) (by first | assumption | exact lw_lt (by omega) | exact wi_lt (by first | assumption | omega) (by omega) | exact wo_lt (by first | assumption | omega) (by omega) | omega)) (by omega) rfl rfl rfl (by decide) rfl rfl (Nat.le_of_ble_eq_true rfl) (fun σ1 hσ1 => ?_)
    refine R_iload rfl rfl ?_
    refine R_nicmp_ne (x := (rkO f m (wi S i) (2 ^ w - 1) h w)) (y := (rkO f m S (2 ^ w - 1) h w)) rfl rfl (by omega) (by omega) (fun h2 => ?_) (fun h2 => ?_)
    · refine R_iincN (x := i) (m := 1) rfl rfl rfl (by decide) ?_
      refine R_goto rfl rfl ?_
      have e := ih (i + 1) σ1 (by omega) (hI.trans hσ1)
      rw [show spN f m h w S (i + 1) = spN f m h w S i from if_neg (by omega)] at e
      exact e.weak ⟨rfl, rfl, rfl, rfl, rfl, rfl, rfl, rfl, trivial⟩
    · refine R_iload rfl rfl ?_
      refine R_iconst (v := 1) rfl rfl ?_
      refine R_iload rfl rfl ?_
      refine R_shl1N (y := i) rfl (by omega) ?_
      refine R_iorB (s := (spN f m h w S i)) (y := i) rfl (by first | assumption | omega) (by omega) ?_
      refine R_istore rfl (by decide) ?_
      refine R_iincN (x := i) (m := 1) rfl rfl rfl (by decide) ?_
      refine R_goto rfl rfl ?_
      have e := ih (i + 1) σ1 (by omega) (hI.trans hσ1)
      rw [show spN f m h w S (i + 1) = wi (spN f m h w S i) i from if_pos (by omega)] at e
      exact e.weak ⟨rfl, rfl, rfl, rfl, rfl, rfl, rfl, rfl, trivial⟩
set_option maxRecDepth 100000 in
set_option maxHeartbeats 4000000 in
theorem sp_span {σ : am_G} {k h w m : Nat} {f : Nat → Nat → Int64} {S : Nat} (hM : isMat k) (hk : 26 ≤ k) (hv : vM σ k h w f) (hm : m < 2 ^ 31) (hS : S < 64) : am_Call am_TX 5 0 c_RowSets_span [.ref 24, .ref k, .int (nI m), .int (nI S)] (mm σ) (am_Ok (some (.int (nI (spN f m h w S h)))) (fun σ1 => smP (plc 19 21) σ σ1)) := by
  have hh := hv.1.2
  have hw := hv.2.1.2
  refine ⟨mf_RowSets_span, Nat.le_of_ble_eq_true rfl, ?_⟩
  refine R_aload_n rfl rfl ?_
  refine R_cV (as := []) rfl rfl iv_Matrix_allColumns (sp_Matrix_allColumns hM hv.2.1.1 hv.2.1.2) (by decide) rfl rfl hM.1 (by decide) rfl rfl (Nat.le_of_ble_eq_true rfl) (fun _ q => ?_)
  obtain rfl := q.symm
  refine R_istore rfl (by decide) ?_
  refine R_aload_n rfl rfl ?_
  refine R_gP (x := 16) rfl rfl fp_8_0 rfl ?_
  refine R_aload_n rfl rfl ?_
  refine R_iload_n rfl rfl ?_
  refine R_iload_n rfl rfl ?_
  refine R_iload rfl rfl ?_
  refine R_cV (as := [.ref k, .int (nI m), .int (nI S), .int (nI (2 ^ w - 1))]) rfl rfl iv_Reckoner_partRank (sp_partRank (m := m) (S := S) (T := (2 ^ w - 1)) hM (by omega) hv (by omega) (by first | assumption | exact lw_lt (by omega) | exact wi_lt (by first | assumption | omega) (by omega) | exact wo_lt (by first | assumption | omega) (by omega) | omega) (by first | assumption | exact lw_lt (by omega) | exact wi_lt (by first | assumption | omega) (by omega) | exact wo_lt (by first | assumption | omega) (by omega) | omega)) (by decide) rfl rfl rfl (by decide) rfl rfl (Nat.le_of_ble_eq_true rfl) (fun σ2 hσ2 => ?_)
  refine R_istore rfl (by decide) ?_
  refine R_iconst (v := 0) rfl rfl ?_
  refine R_istore rfl (by decide) ?_
  refine R_iconst (v := 0) rfl rfl ?_
  refine R_istore rfl (by decide) ?_
  refine (lp_span hM hk hv hm hS (by omega) (fun τ1 hτ1 => ?_) h 0 _ (by omega) (hσ2)).weak ⟨rfl, rfl, rfl, rfl, rfl, rfl, rfl, rfl, trivial⟩
  refine R_iload rfl rfl ?_
  exact T_ireturn rfl rfl (am_oki rfl hτ1)
set_option maxRecDepth 100000 in
set_option maxHeartbeats 4000000 in
theorem lp_survey {σ : am_G} {k h w m : Nat} {f : Nat → Nat → Int64} {d k0 : Nat} {Q : am_Res → Prop} (hM : isMat k) (hk : 26 ≤ k) (hv : vM σ k h w f) (hm : m < 2 ^ 31) (hd : 5 ≤ d) (hx : ∀ (τ : am_G), (smP (pSv) σ τ ∧ ∀ s, s < 64 → τ.1 25 s = zP (frB f m h w s = true)) → am_R am_TX d k0 c_RowSets_survey 53 [some (.ref 24), some (.ref k), some (.int (nI m)), some (.int (nI 64)), none] [] (mm τ) Q) : ∀ (uu i : Nat) (τ : am_G), i + uu = 64 → (smP (pSv) σ τ ∧ ∀ s, s < i → τ.1 25 s = zP (frB f m h w s = true)) → am_R am_TX d k0 c_RowSets_survey 2 [some (.ref 24), some (.ref k), some (.int (nI m)), some (.int (nI i)), none] [] (mm τ) Q := by
  have hh := hv.1.2
  have hw := hv.2.1.2
  intro uu
  induction uu with
  | zero =>
    intro i τ hi hI
    obtain rfl : 64 = i := by omega
    skip
    refine R_iload_n rfl rfl ?_
    refine R_aload_n rfl rfl ?_
    refine R_gP (x := 25) rfl rfl fp_8_1 rfl ?_
    refine R_aln (v := 64) rfl rfl (by decide) (by decide) ?_
    refine R_nicmp_ge (x := 64) (y := 64) rfl rfl (by omega) (by omega) (fun h1 => ?_) (fun z => by omega)
    exact hx τ hI
  | succ uu ih =>
    intro i τ hi hI
    have hp := @pc_le i
    have hr := @rkO_6 f m i (2 ^ w - 1) h w hh
    refine R_iload_n rfl rfl ?_
    refine R_aload_n rfl rfl ?_
    refine R_gP (x := 25) rfl rfl fp_8_1 rfl ?_
    refine R_aln (v := 64) rfl rfl (by decide) (by decide) ?_
    refine R_nicmp_ge (x := i) (y := 64) rfl rfl (by omega) (by omega) (fun z => by omega) (fun h1 => ?_)
    refine R_aload_n rfl rfl ?_
    refine R_gP (x := 16) rfl rfl fp_8_0 rfl ?_
    refine R_aload_n rfl rfl ?_
    refine R_iload_n rfl rfl ?_
    refine R_iload_n rfl rfl ?_
    refine R_aload_n rfl rfl ?_
    refine R_cV (as := []) rfl rfl iv_Matrix_allColumns (sp_Matrix_allColumns hM (hI.1.vM hv (fun b => by unfold pSv; omega) (fun b => by unfold pSv; omega)).2.1.1 (hI.1.vM hv (fun b => by unfold pSv; omega) (fun b => by unfold pSv; omega)).2.1.2) (by omega) rfl rfl hM.1 (by decide) rfl rfl (Nat.le_of_ble_eq_true rfl) (fun _ q => ?_)
    obtain rfl := q.symm
    refine R_cV (as := [.ref k, .int (nI m), .int (nI i), .int (nI (2 ^ w - 1))]) rfl rfl iv_Reckoner_partRank (sp_partRank (m := m) (S := i) (T := (2 ^ w - 1)) hM (by omega) (hI.1.vM hv (fun b => by unfold pSv; omega) (fun b => by unfold pSv; omega)) (by omega) (by first | assumption | exact lw_lt (by omega) | exact wi_lt (by first | assumption | omega) (by omega) | exact wo_lt (by first | assumption | omega) (by omega) | omega) (by first | assumption | exact lw_lt (by omega) | exact wi_lt (by first | assumption | omega) (by omega) | exact wo_lt (by first | assumption | omega) (by omega) | omega)) (by omega) rfl rfl rfl (by decide) rfl rfl (Nat.le_of_ble_eq_true rfl) (fun σ2 hσ2 => ?_)
    refine R_istore rfl (by decide) ?_
    refine R_aload_n rfl rfl ?_
    refine R_gP (x := 25) rfl rfl fp_8_1 rfl ?_
    refine R_iload_n rfl rfl ?_
    refine R_iload rfl rfl ?_
    refine R_iload_n rfl rfl ?_
    refine R_cS (as := [.int (nI i)]) rfl rfl iv_JInteger_bitCount (sp_bitCount (s := i) (by first | assumption | exact lw_lt (by omega) | exact wi_lt (by first | assumption | omega) (by omega) | exact wo_lt (by first | assumption | omega) (by omega) | omega)) (by omega) rfl rfl rfl rfl (Nat.le_of_ble_eq_true rfl) (fun _ q => ?_)
    obtain rfl := q.symm
    refine R_nicmp_ne (x := (rkO f m i (2 ^ w - 1) h w)) (y := (pc i)) rfl rfl (by omega) (by omega) (fun h2 => ?_) (fun h2 => ?_)
    · refine R_iconst (v := 0) rfl rfl ?_
      refine R_wZ (j := i) rfl rfl rfl (by omega) (by decide) ?_
      refine R_iincN (x := i) (m := 1) rfl rfl rfl (by decide) ?_
      refine R_goto rfl rfl ?_
      refine (ih (i + 1) (sI σ2 25 i (vp_nar .boolean 0)) (by omega) ⟨((hI.1.trans (hσ2.mono (q := pSv) (fun a b => by unfold plc pSv; omega))).trans (smP_sI (p := pSv) (by unfold pSv; omega))), fun s hs => ?_⟩).weak ⟨rfl, rfl, rfl, rfl, trivial⟩
      by_cases e : s = i
      · subst e
        refine sI_s.trans ?_
        rw [vp_b0]
        exact (zP_f (by unfold frB; rw [decide_eq_true_iff]; omega)).symm
      · refine (sI_o (Or.inr e)).trans ((hσ2.i (by unfold plc; omega)).trans (hI.2 s (by omega)))
    · refine R_iconst (v := 1) rfl rfl ?_
      refine R_goto rfl rfl ?_
      refine R_wZ (j := i) rfl rfl rfl (by omega) (by decide) ?_
      refine R_iincN (x := i) (m := 1) rfl rfl rfl (by decide) ?_
      refine R_goto rfl rfl ?_
      refine (ih (i + 1) (sI σ2 25 i (vp_nar .boolean 1)) (by omega) ⟨((hI.1.trans (hσ2.mono (q := pSv) (fun a b => by unfold plc pSv; omega))).trans (smP_sI (p := pSv) (by unfold pSv; omega))), fun s hs => ?_⟩).weak ⟨rfl, rfl, rfl, rfl, trivial⟩
      by_cases e : s = i
      · subst e
        refine sI_s.trans ?_
        rw [vp_b1]
        exact (zP_t (by unfold frB; rw [decide_eq_true_iff]; omega)).symm
      · refine (sI_o (Or.inr e)).trans ((hσ2.i (by unfold plc; omega)).trans (hI.2 s (by omega)))
set_option maxRecDepth 100000 in
set_option maxHeartbeats 4000000 in
theorem sp_survey {σ : am_G} {k h w m : Nat} {f : Nat → Nat → Int64} (hM : isMat k) (hk : 26 ≤ k) (hv : vM σ k h w f) (hm : m < 2 ^ 31) : am_Call am_TX 5 0 c_RowSets_survey [.ref 24, .ref k, .int (nI m)] (mm σ) (am_Ok none (fun σ1 => smP pSv σ σ1 ∧ ∀ s, s < 64 → σ1.1 25 s = zP (frB f m h w s = true))) := by
  have hh := hv.1.2
  have hw := hv.2.1.2
  refine ⟨mf_RowSets_survey, Nat.le_of_ble_eq_true rfl, ?_⟩
  refine R_iconst (v := 0) rfl rfl ?_
  refine R_istore_n rfl (by decide) ?_
  refine (lp_survey hM hk hv hm (by omega) (fun τ1 hτ1 => ?_) 64 0 _ (by omega) (⟨smP.refl, fun s hs => absurd hs (by omega)⟩)).weak ⟨rfl, rfl, rfl, rfl, trivial⟩
  exact T_return rfl rfl (am_okv0 hτ1)
set_option maxRecDepth 100000 in
set_option maxHeartbeats 4000000 in
theorem sp_isSF {σ : am_G} {A : Nat → Bool} {s : Nat} (hA : ∀ s, s < 64 → σ.1 25 s = zP (A s = true)) (hs : s < 64) : am_Call am_TX 0 0 c_RowSets_isSurveyedFree [.ref 24, .int (nI s)] (mm σ) (am_Ok (some (.int (zP (A s = true)))) (fun σ1 => σ1 = σ)) := by
  refine ⟨mf_RowSets_isSurveyedFree, Nat.le_of_ble_eq_true rfl, ?_⟩
  refine R_iload_n rfl rfl ?_
  refine R_nif_lt (x := s) rfl rfl (by omega) (fun z => by omega) (fun h1 => ?_)
  refine R_iload_n rfl rfl ?_
  refine R_aload_n rfl rfl ?_
  refine R_gP (x := 25) rfl rfl fp_8_1 rfl ?_
  refine R_aln (v := 64) rfl rfl (by decide) (by decide) ?_
  refine R_nicmp_ge (x := s) (y := 64) rfl rfl (by omega) (by omega) (fun z => by omega) (fun h2 => ?_)
  refine R_aload_n rfl rfl ?_
  refine R_gP (x := 25) rfl rfl fp_8_1 rfl ?_
  refine R_iload_n rfl rfl ?_
  refine R_xZ (j := s) rfl rfl rfl (by omega) (by decide) ?_
  refine R_if_eq rfl rfl (fun h3 => ?_) (fun h3 => ?_)
  · refine R_iconst (v := 0) rfl rfl ?_
    exact T_zreturn rfl rfl rfl (am_oki (by rw [hA s hs] at h3; exact (zP_f (zP_0 h3)).symm) rfl)
  · refine R_iconst (v := 1) rfl rfl ?_
    refine R_goto rfl rfl ?_
    exact T_zreturn rfl rfl rfl (am_oki (by rw [hA s hs] at h3; exact (zP_t (zP_ne h3)).symm) rfl)
set_option maxRecDepth 100000 in
set_option maxHeartbeats 4000000 in
theorem lp_isCircuit {σ : am_G} {A : Nat → Bool} {s : Nat} {d k0 : Nat} (hA : ∀ s, s < 64 → σ.1 25 s = zP (A s = true)) (hs : s < 64) (hs0 : A s = false) (hd : 1 ≤ d)  : ∀ (uu i : Nat) (τ : am_G), i + uu = 6 → (τ = σ ∧ ciN A s i = true) → am_R am_TX d k0 c_RowSets_isCircuit 12 [some (.ref 24), some (.int (nI s)), some (.int (nI i))] [] (mm τ) (am_Ok (some (.int (zP (ciB A 6 s = true)))) (fun σ1 => σ1 = σ)) := by
  intro uu
  induction uu with
  | zero =>
    intro i τ hi hI
    obtain rfl : 6 = i := by omega
    refine R_iload_n rfl rfl ?_
    refine R_bipush (v := 6) rfl (by decide) ?_
    refine R_nicmp_ge (x := 6) (y := 6) rfl rfl (by omega) (by omega) (fun h1 => ?_) (fun z => by omega)
    refine R_iconst (v := 1) rfl rfl ?_
    exact T_zreturn rfl rfl rfl (am_oki (zP_t (by unfold ciB; rw [hI.2]; simp [hs0])).symm hI.1)
  | succ uu ih =>
    intro i τ hi hI
    refine R_iload_n rfl rfl ?_
    refine R_bipush (v := 6) rfl (by decide) ?_
    refine R_nicmp_ge (x := i) (y := 6) rfl rfl (by omega) (by omega) (fun z => by omega) (fun h1 => ?_)
    refine R_iload_n rfl rfl ?_
    refine R_iload_n rfl rfl ?_
    refine R_cN (as := [.int (nI s), .int (nI i)]) rfl rfl iv_D_has (sp_has (s := s) (k := i) (by first | assumption | exact lw_lt (by omega) | exact wi_lt (by first | assumption | omega) (by omega) | exact wo_lt (by first | assumption | omega) (by omega) | omega) (by omega)) (by omega) rfl rfl rfl rfl (Nat.le_of_ble_eq_true rfl) (fun _ q => ?_)
    obtain rfl := q.symm
    refine R_zif_eq rfl rfl (fun h2 => ?_) (fun h2 => ?_)
    · refine R_iincN (x := i) (m := 1) rfl rfl rfl (by decide) ?_
      refine R_goto rfl rfl ?_
      exact (ih (i + 1) τ (by omega) ⟨hI.1, by simp only [ciN, hI.2, Bool.true_and]; simp at h2 ⊢; first | (left; exact h2) | (right; exact h2) | simp [h2]⟩).weak ⟨rfl, rfl, rfl, trivial⟩
    · refine R_aload_n rfl rfl ?_
      refine R_iload_n rfl rfl ?_
      refine R_iload_n rfl rfl ?_
      refine R_cN (as := [.int (nI s), .int (nI i)]) rfl rfl iv_D_without (sp_without (s := s) (k := i) (by first | assumption | exact lw_lt (by omega) | exact wi_lt (by first | assumption | omega) (by omega) | exact wo_lt (by first | assumption | omega) (by omega) | omega) (by omega)) (by omega) rfl rfl rfl rfl (Nat.le_of_ble_eq_true rfl) (fun _ q => ?_)
      obtain rfl := q.symm
      refine R_cV (as := [.int (nI (wo s i))]) rfl rfl iv_RowSets_isSurveyedFree (sp_isSF (σ := τ) (A := A) (s := (wo s i)) (by rw [hI.1]; exact hA) (by first | assumption | exact lw_lt (by omega) | exact wi_lt (by first | assumption | omega) (by omega) | exact wo_lt (by first | assumption | omega) (by omega) | omega)) (by omega) rfl rfl rfl (by decide) rfl rfl (Nat.le_of_ble_eq_true rfl) (fun _ q => ?_)
      obtain rfl := q.symm
      refine R_zif_ne rfl rfl (fun h3 => ?_) (fun h3 => ?_)
      · refine R_iincN (x := i) (m := 1) rfl rfl rfl (by decide) ?_
        refine R_goto rfl rfl ?_
        exact (ih (i + 1) τ (by omega) ⟨hI.1, by simp only [ciN, hI.2, Bool.true_and]; simp at h3 ⊢; first | (left; exact h3) | (right; exact h3) | simp [h3]⟩).weak ⟨rfl, rfl, rfl, trivial⟩
      · refine R_iconst (v := 0) rfl rfl ?_
        exact T_zreturn rfl rfl rfl (am_oki (zP_f (by unfold ciB; rw [ciN_f h2 h3 6 (by omega)]; simp)).symm hI.1)
set_option maxRecDepth 100000 in
set_option maxHeartbeats 4000000 in
theorem sp_isCircuit {σ : am_G} {A : Nat → Bool} {s : Nat} (hA : ∀ s, s < 64 → σ.1 25 s = zP (A s = true)) (hs : s < 64) : am_Call am_TX 1 0 c_RowSets_isCircuit [.ref 24, .int (nI s)] (mm σ) (am_Ok (some (.int (zP (ciB A 6 s = true)))) (fun σ1 => σ1 = σ)) := by
  refine ⟨mf_RowSets_isCircuit, Nat.le_of_ble_eq_true rfl, ?_⟩
  refine R_aload_n rfl rfl ?_
  refine R_iload_n rfl rfl ?_
  refine R_cV (as := [.int (nI s)]) rfl rfl iv_RowSets_isSurveyedFree (sp_isSF (s := s) hA (by first | assumption | exact lw_lt (by omega) | exact wi_lt (by first | assumption | omega) (by omega) | exact wo_lt (by first | assumption | omega) (by omega) | omega)) (by decide) rfl rfl rfl (by decide) rfl rfl (Nat.le_of_ble_eq_true rfl) (fun _ q => ?_)
  obtain rfl := q.symm
  refine R_zif_eq rfl rfl (fun h1 => ?_) (fun h1 => ?_)
  · refine R_iconst (v := 0) rfl rfl ?_
    refine R_istore_n rfl (by decide) ?_
    exact (lp_isCircuit hA hs (by simpa using h1) (by omega) 6 0 σ rfl ⟨rfl, rfl⟩).weak ⟨rfl, rfl, rfl, trivial⟩
  · refine R_iconst (v := 0) rfl rfl ?_
    exact T_zreturn rfl rfl rfl (am_oki (zP_f (by unfold ciB; simp [h1])).symm rfl)
set_option maxRecDepth 100000 in
set_option maxHeartbeats 4000000 in
theorem lp_countBases {σ : am_G} {A : Nat → Bool} {k m rk : Nat} {d k0 : Nat} {Q : am_Res → Prop} (hA : ∀ s, s < 64 → σ.1 25 s = zP (A s = true)) (hr : rk ≤ 6) (hd : 1 ≤ d) (hx : am_R am_TX d k0 c_RowSets_countBases 60 [some (.ref 24), some (.ref k), some (.int (nI m)), some (.int (nI rk)), some (.int (nI (cbN A rk 64))), some (.int (nI 64))] [] (mm σ) Q) : ∀ (uu i : Nat), i + uu = 64 → am_R am_TX d k0 c_RowSets_countBases 22 [some (.ref 24), some (.ref k), some (.int (nI m)), some (.int (nI rk)), some (.int (nI (cbN A rk i))), some (.int (nI i))] [] (mm σ) Q := by
  intro uu
  induction uu with
  | zero =>
    intro i hi
    obtain rfl : 64 = i := by omega
    skip
    refine R_iload rfl rfl ?_
    refine R_aload_n rfl rfl ?_
    refine R_gP (x := 25) rfl rfl fp_8_1 rfl ?_
    refine R_aln (v := 64) rfl rfl (by decide) (by decide) ?_
    refine R_nicmp_ge (x := 64) (y := 64) rfl rfl (by omega) (by omega) (fun h1 => ?_) (fun z => by omega)
    exact hx
  | succ uu ih =>
    intro i hi
    have hpi := @pc_le i
    refine R_iload rfl rfl ?_
    refine R_aload_n rfl rfl ?_
    refine R_gP (x := 25) rfl rfl fp_8_1 rfl ?_
    refine R_aln (v := 64) rfl rfl (by decide) (by decide) ?_
    refine R_nicmp_ge (x := i) (y := 64) rfl rfl (by omega) (by omega) (fun z => by omega) (fun h1 => ?_)
    refine R_aload_n rfl rfl ?_
    refine R_gP (x := 25) rfl rfl fp_8_1 rfl ?_
    refine R_iload rfl rfl ?_
    refine R_xZ (j := i) rfl rfl rfl (by omega) (by decide) ?_
    refine R_if_eq rfl rfl (fun h2 => ?_) (fun h2 => ?_)
    · refine R_iincN (x := i) (m := 1) rfl rfl rfl (by decide) ?_
      refine R_goto rfl rfl ?_
      have e := ih (i + 1) (by omega)
      rw [hA i (by omega)] at h2
      rw [show cbN A rk (i + 1) = cbN A rk i from if_neg (fun z => zP_0 h2 z.1)] at e
      exact e.weak ⟨rfl, rfl, rfl, rfl, rfl, rfl, trivial⟩
    · refine R_iload rfl rfl ?_
      refine R_cS (as := [.int (nI i)]) rfl rfl iv_JInteger_bitCount (sp_bitCount (s := i) (by first | assumption | exact lw_lt (by omega) | exact wi_lt (by first | assumption | omega) (by omega) | exact wo_lt (by first | assumption | omega) (by omega) | omega)) (by omega) rfl rfl rfl rfl (Nat.le_of_ble_eq_true rfl) (fun _ q => ?_)
      obtain rfl := q.symm
      refine R_iload_n rfl rfl ?_
      refine R_nicmp_ne (x := (pc i)) (y := rk) rfl rfl (by omega) (by omega) (fun h3 => ?_) (fun h3 => ?_)
      · refine R_iincN (x := i) (m := 1) rfl rfl rfl (by decide) ?_
        refine R_goto rfl rfl ?_
        have e := ih (i + 1) (by omega)
        rw [hA i (by omega)] at h2
        rw [show cbN A rk (i + 1) = cbN A rk i from if_neg (fun z => by omega)] at e
        exact e.weak ⟨rfl, rfl, rfl, rfl, rfl, rfl, trivial⟩
      · refine R_iincN (x := (cbN A rk i)) (m := 1) rfl rfl rfl (by decide) ?_
        refine R_iincN (x := i) (m := 1) rfl rfl rfl (by decide) ?_
        refine R_goto rfl rfl ?_
        have e := ih (i + 1) (by omega)
        rw [hA i (by omega)] at h2
        rw [show cbN A rk (i + 1) = cbN A rk i + 1 from if_pos ⟨zP_ne h2, by omega⟩] at e
        exact e.weak ⟨rfl, rfl, rfl, rfl, rfl, rfl, trivial⟩
set_option maxRecDepth 100000 in
set_option maxHeartbeats 4000000 in
theorem sp_countBases {σ : am_G} {k h w m : Nat} {f : Nat → Nat → Int64} (hM : isMat k) (hk : 26 ≤ k) (hv : vM σ k h w f) (hm : m < 2 ^ 31) : am_Call am_TX 6 0 c_RowSets_countBases [.ref 24, .ref k, .int (nI m)] (mm σ) (am_Ok (some (.int (nI (cbN (frB f m h w) (rkO f m (2 ^ h - 1) (2 ^ w - 1) h w) 64)))) (fun σ1 => smP pSv σ σ1)) := by
  have hh := hv.1.2
  have hw := hv.2.1.2
  refine ⟨mf_RowSets_countBases, Nat.le_of_ble_eq_true rfl, ?_⟩
  refine R_aload_n rfl rfl ?_
  refine R_gP (x := 16) rfl rfl fp_8_0 rfl ?_
  refine R_aload_n rfl rfl ?_
  refine R_iload_n rfl rfl ?_
  refine R_cV (as := [.ref k, .int (nI m)]) rfl rfl iv_Reckoner_fullRank (sp_fullRank (m := m) hM (by omega) hv (by omega)) (by decide) rfl rfl rfl (by decide) rfl rfl (Nat.le_of_ble_eq_true rfl) (fun σ1 hσ1 => ?_)
  refine R_istore_n rfl (by decide) ?_
  refine R_iconst (v := 0) rfl rfl ?_
  refine R_istore rfl (by decide) ?_
  refine R_aload_n rfl rfl ?_
  refine R_aload_n rfl rfl ?_
  refine R_iload_n rfl rfl ?_
  refine R_cV (as := [.ref k, .int (nI m)]) rfl rfl iv_RowSets_survey (sp_survey (m := m) hM (by omega) ((hσ1.mono (q := pSv) (fun a b => by unfold plc pSv; omega)).vM hv (fun b => by unfold pSv; omega) (fun b => by unfold pSv; omega)) hm) (by decide) rfl rfl rfl (by decide) rfl rfl (Nat.le_of_ble_eq_true rfl) (fun σ3 hσ3 => ?_)
  refine R_iconst (v := 0) rfl rfl ?_
  refine R_istore rfl (by decide) ?_
  refine (lp_countBases (A := frB f m h w) hσ3.2 (rkO_6 hh) (by omega) ?_ 64 0 (by omega)).weak ⟨rfl, rfl, rfl, rfl, rfl, rfl, trivial⟩
  exact R_iload rfl rfl (T_ireturn rfl rfl (am_oki rfl ((hσ1.mono (q := pSv) (fun a b => by unfold plc pSv; omega)).trans hσ3.1)))
set_option maxRecDepth 100000 in
set_option maxHeartbeats 4000000 in
theorem lp_countCircuits {σ : am_G} {A : Nat → Bool} {k m h w : Nat} {f : am_Gr} {d k0 : Nat} {Q : am_Res → Prop} (hA : ∀ s, s < 64 → σ.1 25 s = zP (A s = true)) (hM : isMat k) (hv : vM σ k h w f) (hd : 2 ≤ d) (hx : ∀ (τ : am_G), (τ = σ ∧ 1 ≤ 2 ^ h) → am_R am_TX d k0 c_RowSets_countCircuits 38 [some (.ref 24), some (.ref k), some (.int (nI m)), some (.int (nI (ccN A 6 (2 ^ h)))), some (.int (nI (2 ^ h)))] [] (mm τ) Q) : ∀ (uu i : Nat) (τ : am_G), i + uu = 2 ^ h → (τ = σ ∧ 1 ≤ i) → am_R am_TX d k0 c_RowSets_countCircuits 11 [some (.ref 24), some (.ref k), some (.int (nI m)), some (.int (nI (ccN A 6 i))), some (.int (nI i))] [] (mm τ) Q := by
  have hh := hv.1.2
  have pw : 1 ≤ 2 ^ h := Nat.pos_of_ne_zero (by simp)
  have pw6 : 2 ^ h ≤ 64 := Nat.pow_le_pow_right (by omega) hh
  intro uu
  induction uu with
  | zero =>
    intro i τ hi hI
    obtain rfl : 2 ^ h = i := by omega
    skip
    refine R_iload rfl rfl ?_
    refine R_aload_n rfl rfl ?_
    refine R_cV (as := []) rfl rfl iv_Matrix_allRows (sp_Matrix_allRows hM (by rw [hI.1]; exact hv.1.1) hv.1.2) (by omega) rfl rfl hM.1 (by decide) rfl rfl (Nat.le_of_ble_eq_true rfl) (fun _ q => ?_)
    obtain rfl := q.symm
    refine R_nicmp_gt (x := (2 ^ h)) (y := (2 ^ h - 1)) rfl rfl (by omega) (by omega) (fun h1 => ?_) (fun z => by omega)
    exact hx τ hI
  | succ uu ih =>
    intro i τ hi hI
    have h1i := hI.2
    refine R_iload rfl rfl ?_
    refine R_aload_n rfl rfl ?_
    refine R_cV (as := []) rfl rfl iv_Matrix_allRows (sp_Matrix_allRows hM (by rw [hI.1]; exact hv.1.1) hv.1.2) (by omega) rfl rfl hM.1 (by decide) rfl rfl (Nat.le_of_ble_eq_true rfl) (fun _ q => ?_)
    obtain rfl := q.symm
    refine R_nicmp_gt (x := i) (y := (2 ^ h - 1)) rfl rfl (by omega) (by omega) (fun z => by omega) (fun h1 => ?_)
    refine R_aload_n rfl rfl ?_
    refine R_iload rfl rfl ?_
    refine R_cV (as := [.int (nI i)]) rfl rfl iv_RowSets_isCircuit (sp_isCircuit (σ := τ) (A := A) (s := i) (by rw [hI.1]; exact hA) (by first | assumption | exact lw_lt (by omega) | exact wi_lt (by first | assumption | omega) (by omega) | exact wo_lt (by first | assumption | omega) (by omega) | omega)) (by omega) rfl rfl rfl (by decide) rfl rfl (Nat.le_of_ble_eq_true rfl) (fun _ q => ?_)
    obtain rfl := q.symm
    refine R_zif_eq rfl rfl (fun h2 => ?_) (fun h2 => ?_)
    · refine R_iincN (x := i) (m := 1) rfl rfl rfl (by decide) ?_
      refine R_goto rfl rfl ?_
      have e := ih (i + 1) τ (by omega) ⟨hI.1, by omega⟩
      rw [show ccN A 6 (i + 1) = ccN A 6 i from if_neg (fun z => h2 z.2)] at e
      exact e.weak ⟨rfl, rfl, rfl, rfl, rfl, trivial⟩
    · refine R_iincN (x := (ccN A 6 i)) (m := 1) rfl rfl rfl (by decide) ?_
      refine R_iincN (x := i) (m := 1) rfl rfl rfl (by decide) ?_
      refine R_goto rfl rfl ?_
      have e := ih (i + 1) τ (by omega) ⟨hI.1, by omega⟩
      rw [show ccN A 6 (i + 1) = ccN A 6 i + 1 from if_pos ⟨by omega, h2⟩] at e
      exact e.weak ⟨rfl, rfl, rfl, rfl, rfl, trivial⟩
set_option maxRecDepth 100000 in
set_option maxHeartbeats 4000000 in
theorem sp_countCircuits {σ : am_G} {k h w m : Nat} {f : Nat → Nat → Int64} (hM : isMat k) (hk : 26 ≤ k) (hv : vM σ k h w f) (hm : m < 2 ^ 31) : am_Call am_TX 6 0 c_RowSets_countCircuits [.ref 24, .ref k, .int (nI m)] (mm σ) (am_Ok (some (.int (nI (ccN (frB f m h w) 6 (2 ^ h))))) (fun σ1 => smP pSv σ σ1)) := by
  have hh := hv.1.2
  have hw := hv.2.1.2
  have pw : 1 ≤ 2 ^ h := Nat.pos_of_ne_zero (by simp)
  have pw6 : 2 ^ h ≤ 64 := Nat.pow_le_pow_right (by omega) hh
  refine ⟨mf_RowSets_countCircuits, Nat.le_of_ble_eq_true rfl, ?_⟩
  refine R_iconst (v := 0) rfl rfl ?_
  refine R_istore_n rfl (by decide) ?_
  refine R_aload_n rfl rfl ?_
  refine R_aload_n rfl rfl ?_
  refine R_iload_n rfl rfl ?_
  refine R_cV (as := [.ref k, .int (nI m)]) rfl rfl iv_RowSets_survey (sp_survey (m := m) hM (by omega) hv hm) (by decide) rfl rfl rfl (by decide) rfl rfl (Nat.le_of_ble_eq_true rfl) (fun σ1 hσ1 => ?_)
  refine R_iconst (v := 1) rfl rfl ?_
  refine R_istore rfl (by decide) ?_
  refine (lp_countCircuits (A := frB f m h w) (m := m) hσ1.2 hM (hσ1.1.vM hv (fun b => by unfold pSv; omega) (fun b => by unfold pSv; omega)) (by omega) (fun τ1 hτ1 => ?_) (2 ^ h - 1) 1 _ (by omega) ⟨rfl, by omega⟩).weak ⟨rfl, rfl, rfl, rfl, rfl, trivial⟩
  obtain rfl := hτ1.1.symm
  exact R_iload_n rfl rfl (T_ireturn rfl rfl (am_oki rfl hσ1.1))
set_option maxRecDepth 100000 in
set_option maxHeartbeats 4000000 in
theorem lp_leastCircuit {σ : am_G} {A : Nat → Bool} {k m h w r : Nat} {f : am_Gr} {d k0 : Nat} (hA : ∀ s, s < 64 → σ.1 25 s = zP (A s = true)) (hM : isMat k) (hv : vM σ k h w f) (hr : r < 6) (hd : 2 ≤ d)  : ∀ (uu i : Nat) (τ : am_G), i + uu = 2 ^ h → (τ = σ) → am_R am_TX d k0 c_RowSets_leastCircuit 9 [some (.ref 24), some (.ref k), some (.int (nI m)), some (.int (nI r)), some (.int (nI i))] [] (mm τ) (am_Ok (some (.int (lcF A 6 r uu i))) (fun σ1 => σ1 = σ)) := by
  have hh := hv.1.2
  have pw : 1 ≤ 2 ^ h := Nat.pos_of_ne_zero (by simp)
  have pw6 : 2 ^ h ≤ 64 := Nat.pow_le_pow_right (by omega) hh
  intro uu
  induction uu with
  | zero =>
    intro i τ hi hI
    obtain rfl : 2 ^ h = i := by omega
    refine R_iload rfl rfl ?_
    refine R_aload_n rfl rfl ?_
    refine R_cV (as := []) rfl rfl iv_Matrix_allRows (sp_Matrix_allRows hM (by rw [hI]; exact hv.1.1) hv.1.2) (by omega) rfl rfl hM.1 (by decide) rfl rfl (Nat.le_of_ble_eq_true rfl) (fun _ q => ?_)
    obtain rfl := q.symm
    refine R_nicmp_gt (x := (2 ^ h)) (y := (2 ^ h - 1)) rfl rfl (by omega) (by omega) (fun h1 => ?_) (fun z => by omega)
    refine R_iconst (v := -1) rfl rfl ?_
    exact T_ireturn rfl rfl (am_oki (rfl) hI)
  | succ uu ih =>
    intro i τ hi hI
    refine R_iload rfl rfl ?_
    refine R_aload_n rfl rfl ?_
    refine R_cV (as := []) rfl rfl iv_Matrix_allRows (sp_Matrix_allRows hM (by rw [hI]; exact hv.1.1) hv.1.2) (by omega) rfl rfl hM.1 (by decide) rfl rfl (Nat.le_of_ble_eq_true rfl) (fun _ q => ?_)
    obtain rfl := q.symm
    refine R_nicmp_gt (x := i) (y := (2 ^ h - 1)) rfl rfl (by omega) (by omega) (fun z => by omega) (fun h1 => ?_)
    refine R_iload rfl rfl ?_
    refine R_iload_n rfl rfl ?_
    refine R_cN (as := [.int (nI i), .int (nI r)]) rfl rfl iv_D_has (sp_has (s := i) (k := r) (by first | assumption | exact lw_lt (by omega) | exact wi_lt (by first | assumption | omega) (by omega) | exact wo_lt (by first | assumption | omega) (by omega) | omega) (by omega)) (by omega) rfl rfl rfl rfl (Nat.le_of_ble_eq_true rfl) (fun _ q => ?_)
    obtain rfl := q.symm
    refine R_zif_eq rfl rfl (fun h2 => ?_) (fun h2 => ?_)
    · refine R_iincN (x := i) (m := 1) rfl rfl rfl (by decide) ?_
      refine R_goto rfl rfl ?_
      have e := ih (i + 1) τ (by omega) hI
      rw [show lcF A 6 r (uu + 1) i = lcF A 6 r uu (i + 1) from if_neg (fun z => h2 z.1)]
      exact e.weak ⟨rfl, rfl, rfl, rfl, rfl, trivial⟩
    · refine R_aload_n rfl rfl ?_
      refine R_iload rfl rfl ?_
      refine R_cV (as := [.int (nI i)]) rfl rfl iv_RowSets_isCircuit (sp_isCircuit (σ := τ) (A := A) (s := i) (by rw [hI]; exact hA) (by first | assumption | exact lw_lt (by omega) | exact wi_lt (by first | assumption | omega) (by omega) | exact wo_lt (by first | assumption | omega) (by omega) | omega)) (by omega) rfl rfl rfl (by decide) rfl rfl (Nat.le_of_ble_eq_true rfl) (fun _ q => ?_)
      obtain rfl := q.symm
      refine R_zif_eq rfl rfl (fun h3 => ?_) (fun h3 => ?_)
      · refine R_iincN (x := i) (m := 1) rfl rfl rfl (by decide) ?_
        refine R_goto rfl rfl ?_
        have e := ih (i + 1) τ (by omega) hI
        rw [show lcF A 6 r (uu + 1) i = lcF A 6 r uu (i + 1) from if_neg (fun z => h3 z.2)]
        exact e.weak ⟨rfl, rfl, rfl, rfl, rfl, trivial⟩
      · refine R_iload rfl rfl ?_
        exact T_ireturn rfl rfl (am_oki ((if_pos ⟨h2, h3⟩).symm) hI)
set_option maxRecDepth 100000 in
set_option maxHeartbeats 4000000 in
theorem sp_leastCircuit {σ : am_G} {k h w m : Nat} {f : Nat → Nat → Int64} {r : Nat} (hM : isMat k) (hk : 26 ≤ k) (hv : vM σ k h w f) (hm : m < 2 ^ 31) (hr : r < 6) : am_Call am_TX 6 0 c_RowSets_leastCircuit [.ref 24, .ref k, .int (nI m), .int (nI r)] (mm σ) (am_Ok (some (.int (lcF (frB f m h w) 6 r (2 ^ h - 1) 1))) (fun σ1 => smP pSv σ σ1)) := by
  have hh := hv.1.2
  have hw := hv.2.1.2
  have pw : 1 ≤ 2 ^ h := Nat.pos_of_ne_zero (by simp)
  have pw6 : 2 ^ h ≤ 64 := Nat.pow_le_pow_right (by omega) hh
  refine ⟨mf_RowSets_leastCircuit, Nat.le_of_ble_eq_true rfl, ?_⟩
  refine R_aload_n rfl rfl ?_
  refine R_aload_n rfl rfl ?_
  refine R_iload_n rfl rfl ?_
  refine R_cV (as := [.ref k, .int (nI m)]) rfl rfl iv_RowSets_survey (sp_survey (m := m) hM (by omega) hv hm) (by decide) rfl rfl rfl (by decide) rfl rfl (Nat.le_of_ble_eq_true rfl) (fun σ1 hσ1 => ?_)
  refine R_iconst (v := 1) rfl rfl ?_
  refine R_istore rfl (by decide) ?_
  have z := lp_leastCircuit (A := frB f m h w) (m := m) (d := 6) (k0 := 0) hσ1.2 hM (hσ1.1.vM hv (fun b => by unfold pSv; omega) (fun b => by unfold pSv; omega)) hr (by omega) (2 ^ h - 1) 1 _ (by omega) rfl
  exact (z.weak (ls := [some (.ref 24), some (.ref k), some (.int (nI m)), some (.int (nI r)), some (.int 1)]) ⟨rfl, rfl, rfl, rfl, rfl, trivial⟩).mono (am_Ok.mono (fun τ e => by rw [e]; exact hσ1.1))

