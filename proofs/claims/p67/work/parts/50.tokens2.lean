/-! ===== the next token ===== -/
set_option maxRecDepth 100000 in
set_option maxHeartbeats 4000000 in
theorem lp_numb {σ : am_G} {n : Nat} {B : List Int32} {S V : Nat} {d k0 : Nat} (hB : iC σ n B) (hd : 1 ≤ d)  : ∀ (uu i : Nat) (a : Nat) (he : skF isDb B uu i = S) (hV : nvF 1000 B uu i a = V) (hA : a ≤ 1000) (τ : am_G), i + uu = n → (smP pP1 σ τ ∧ τ.1 13 7 = nI i ∧ τ.1 13 8 = nI a) → am_R am_TX d k0 c_Parser_passNumber 10 [some (.ref 13), some (.int (nI i))] [] (mm τ) (am_Ok none (fun σ1 => smP pP1 σ σ1 ∧ σ1.1 13 7 = nI S ∧ σ1.1 13 8 = nI V)) := by
  have h400 := hB.2.2.1
  intro uu
  induction uu with
  | zero =>
    intro i a he hV hA τ hi hI
    obtain rfl : n = i := by omega
    refine R_iload_n rfl rfl ?_
    refine R_aload_n rfl rfl ?_
    refine R_gP (x := 1) rfl rfl fp_6_3 rfl ?_
    refine R_gIN (n := n) rfl rfl fd_3_0 ((hI.1.i (by unfold pP1; omega)).trans hB.2.1) ?_
    refine R_nicmp_ge (x := n) (y := n) rfl rfl (by omega) (by omega) (fun h1 => ?_) (fun z => by omega)
    exact T_return rfl rfl (am_okv0 ⟨hI.1, by rw [← he]; exact hI.2.1, by rw [← hV]; exact hI.2.2⟩)
  | succ uu ih =>
    intro i a he hV hA τ hi hI
    refine R_iload_n rfl rfl ?_
    refine R_aload_n rfl rfl ?_
    refine R_gP (x := 1) rfl rfl fp_6_3 rfl ?_
    refine R_gIN (n := n) rfl rfl fd_3_0 ((hI.1.i (by unfold pP1; omega)).trans hB.2.1) ?_
    refine R_nicmp_ge (x := i) (y := n) rfl rfl (by omega) (by omega) (fun z => by omega) (fun h1 => ?_)
    refine R_aload_n rfl rfl ?_
    refine R_gP (x := 1) rfl rfl fp_6_3 rfl ?_
    refine R_iload_n rfl rfl ?_
    refine R_cV (as := [.int (nI i)]) rfl rfl iv_Input_byteAt (sp_Input_byteAt (k := i) (hB.fr hI.1 (fun b => by unfold pP1; omega)) (by omega)) (by omega) rfl rfl rfl (by decide) rfl rfl (Nat.le_of_ble_eq_true rfl) (fun _ q => ?_)
    obtain rfl := q.symm
    refine R_cS (as := [.int (ibA B i)]) rfl rfl iv_Parser_isDigit (sp_isDigit (x := (ibA B i))) (by omega) rfl rfl rfl rfl (Nat.le_of_ble_eq_true rfl) (fun _ q => ?_)
    obtain rfl := q.symm
    refine R_zif_eq rfl rfl (fun h2 => ?_) (fun h2 => ?_)
    · exact T_return rfl rfl (am_okv0 ⟨hI.1, by rw [← he, show skF isDb B (uu + 1) i = i from by simp only [skF]; exact if_neg h2]; exact hI.2.1, by rw [← hV, show nvF 1000 B (uu + 1) i a = a from by simp only [nvF]; exact if_neg h2]; exact hI.2.2⟩)
    · refine R_aload_n rfl rfl ?_
      refine R_aload_n rfl rfl ?_
      refine R_gIN (n := a) rfl rfl fd_6_8 hI.2.2 ?_
      refine R_bipush (v := 10) rfl (by decide) ?_
      refine R_imulN (x := a) (y := 10) rfl ?_
      refine R_aload_n rfl rfl ?_
      refine R_gP (x := 1) rfl rfl fp_6_3 rfl ?_
      refine R_iload_n rfl rfl ?_
      refine R_cV (as := [.int (nI i)]) rfl rfl iv_Input_byteAt ((by have z := sp_Input_byteAt (k := i) (hB.fr hI.1 (fun b => by unfold pP1; omega)) (by omega); rw [(dgv_b h2).1] at z; exact z)) (by omega) rfl rfl rfl (by decide) rfl rfl (Nat.le_of_ble_eq_true rfl) (fun _ q => ?_)
      obtain rfl := q.symm
      have hd9 := (dgv_b h2).2
      refine R_iaddN (x := (a * 10)) (y := (48 + dgv (ibA B i))) rfl ?_
      refine R_bipush (v := 48) rfl (by decide) ?_
      refine R_isubN (x := ((a * 10) + (48 + dgv (ibA B i)))) (y := 48) rfl (by omega) ?_
      refine R_sipush (v := 1000) rfl (by decide) ?_
      refine R_cS (as := [.int (nI (((a * 10) + (48 + dgv (ibA B i))) - 48)), .int 1000]) rfl rfl iv_JMath_min (sp_minI (x := (((a * 10) + (48 + dgv (ibA B i))) - 48)) (y := 1000) (by omega) (by omega)) (by omega) rfl rfl rfl rfl (Nat.le_of_ble_eq_true rfl) (fun _ q => ?_)
      obtain rfl := q.symm
      refine R_pI rfl rfl fw_6_8 rfl ?_
      refine R_aload_n rfl rfl ?_
      refine R_iload_n rfl rfl ?_
      refine R_iconst (v := 1) rfl rfl ?_
      refine R_iaddN (x := i) (y := 1) rfl ?_
      refine R_pI rfl rfl fw_6_7 rfl ?_
      refine R_iincN (x := i) (m := 1) rfl rfl rfl (by decide) ?_
      refine R_goto rfl rfl ?_
      exact (ih (i + 1) (min ((a * 10 + (48 + dgv (ibA B i))) - 48) 1000) (by rw [← he]; simp only [skF]; exact (if_pos h2).symm) (by rw [← hV]; simp only [nvF]; rw [if_pos h2, show a * 10 + (48 + dgv (ibA B i)) - 48 = a * 10 + dgv (ibA B i) by omega]) (by omega) (sI (sI τ 13 8 (nI (min (((a * 10) + (48 + dgv (ibA B i))) - 48) 1000))) 13 7 (nI (i + 1))) (by omega) ⟨(hI.1.trans (smP_sI ⟨rfl, Or.inr rfl⟩)).trans (smP_sI ⟨rfl, Or.inl rfl⟩), sI_s, (sI_o (Or.inr (by decide))).trans sI_s⟩).weak ⟨rfl, rfl, trivial⟩
set_option maxRecDepth 100000 in
set_option maxHeartbeats 4000000 in
theorem sp_passNumber {σ : am_G} {n : Nat} {B : List Int32} {s : Nat} (hB : iC σ n B) (hs : s ≤ n) (h6 : σ.1 13 6 = nI s) (h7 : σ.1 13 7 = nI s) : am_Call am_TX 2 0 c_Parser_passNumber [.ref 13] (mm σ) (am_Ok none (fun σ1 => smP pP1 σ σ1 ∧ σ1.1 13 7 = nI (skF isDb B (n - s) s) ∧ σ1.1 13 8 = nI (nvF 1000 B (n - s) s 0))) := by
  have h400 := hB.2.2.1
  refine ⟨mf_Parser_passNumber, Nat.le_of_ble_eq_true rfl, ?_⟩
  refine R_aload_n rfl rfl ?_
  refine R_iconst (v := 0) rfl rfl ?_
  refine R_pI rfl rfl fw_6_8 rfl ?_
  refine R_aload_n rfl rfl ?_
  refine R_gIN (n := s) rfl rfl fd_6_6 ((sI_o (Or.inr (by decide))).trans h6) ?_
  refine R_istore_n rfl (by decide) ?_
  exact (lp_numb hB (by omega) (n - s) s 0 rfl rfl (by omega) (sI σ 13 8 0) (by omega) ⟨smP_sI ⟨rfl, Or.inr rfl⟩, (sI_o (Or.inr (by decide))).trans h7, sI_s⟩).weak ⟨rfl, rfl, trivial⟩
set_option maxRecDepth 100000 in
set_option maxHeartbeats 4000000 in
theorem sp_next {σ : am_G} {n : Nat} {B : List Int32} {e : Nat} (hB : iC σ n B) (he : e ≤ n) (h7 : σ.1 13 7 = nI e) : am_Call am_TX 3 0 c_Parser_next [.ref 13] (mm σ) (am_Ok none (fun σ1 => smP pP σ σ1 ∧ tkC σ1 (tkF 1000 B n e))) := by
  have h400 := hB.2.2.1
  refine ⟨mf_Parser_next, Nat.le_of_ble_eq_true rfl, ?_⟩
  refine R_aload_n rfl rfl ?_
  refine R_gIN (n := e) rfl rfl fd_6_7 h7 ?_
  refine R_istore_n rfl (by decide) ?_
  have hS : nxS B n e ≤ n := nxS_le he
  refine (lp_blank (S := (nxS B n e)) hB (fun τ1 q1 e1 => ?_) (by omega) (n - e) e rfl σ (by omega) ⟨smP.refl, h7⟩).weak ⟨rfl, rfl, trivial⟩
  refine R_aload_n rfl rfl ?_
  refine R_aload_n rfl rfl ?_
  refine R_gIN (n := (nxS B n e)) rfl rfl fd_6_7 e1 ?_
  refine R_pI rfl rfl fw_6_6 rfl ?_
  refine R_aload_n rfl rfl ?_
  refine R_gP (x := 1) rfl rfl fp_6_3 rfl ?_
  refine R_aload_n rfl rfl ?_
  refine R_gIN (n := (nxS B n e)) rfl rfl fd_6_6 sI_s ?_
  refine R_cV (as := [.int (nI (nxS B n e))]) rfl rfl iv_Input_byteAt (sp_Input_byteAt (k := (nxS B n e)) (hB.fr (q1.trans (smP_sI (p := pP) (k := 13) (j := 6) (x := (nI (nxS B n e))) (by unfold pP; omega))) (fun b => by unfold pP; omega)) (by omega)) (by decide) rfl rfl rfl (by decide) rfl rfl (Nat.le_of_ble_eq_true rfl) (fun _ q => ?_)
  obtain rfl := q.symm
  refine R_istore_n rfl (by decide) ?_
  refine R_aload_n rfl rfl ?_
  refine R_gIN (n := (nxS B n e)) rfl rfl fd_6_6 sI_s ?_
  refine R_aload_n rfl rfl ?_
  refine R_gP (x := 1) rfl rfl fp_6_3 rfl ?_
  refine R_gIN (n := n) rfl rfl fd_3_0 (((q1.trans (smP_sI (p := pP) (k := 13) (j := 6) (x := (nI (nxS B n e))) (by unfold pP; omega))).i (by unfold pP; omega)).trans hB.2.1) ?_
  refine R_nicmp_lt (x := (nxS B n e)) (y := n) rfl rfl (by omega) (by omega) (fun h1 => ?_) (fun h1 => ?_)
  · refine R_iload_n rfl rfl ?_
    refine R_cS (as := [.int (ibA B (nxS B n e))]) rfl rfl iv_Parser_isLetter (sp_isLetter (x := (ibA B (nxS B n e)))) (by decide) rfl rfl rfl rfl (Nat.le_of_ble_eq_true rfl) (fun _ q => ?_)
    obtain rfl := q.symm
    refine R_zif_eq rfl rfl (fun h2 => ?_) (fun h2 => ?_)
    · refine R_iload_n rfl rfl ?_
      refine R_cS (as := [.int (ibA B (nxS B n e))]) rfl rfl iv_Parser_isDigit (sp_isDigit (x := (ibA B (nxS B n e)))) (by decide) rfl rfl rfl rfl (Nat.le_of_ble_eq_true rfl) (fun _ q => ?_)
      obtain rfl := q.symm
      refine R_zif_eq rfl rfl (fun h3 => ?_) (fun h3 => ?_)
      · refine R_aload_n rfl rfl ?_
        refine R_iconst (v := 3) rfl rfl ?_
        refine R_pI rfl rfl fw_6_5 rfl ?_
        refine R_aload_n rfl rfl ?_
        refine R_aload_n rfl rfl ?_
        refine R_gIN (n := (nxS B n e)) rfl rfl fd_6_6 ((sI_o (Or.inr (by decide))).trans sI_s) ?_
        refine R_iconst (v := 1) rfl rfl ?_
        refine R_iaddN (x := (nxS B n e)) (y := 1) rfl ?_
        refine R_pI rfl rfl fw_6_7 rfl ?_
        exact T_return rfl rfl (am_okv0 ⟨((q1.trans (smP_sI (p := pP) ⟨rfl, by decide⟩)).trans (smP_sI ⟨rfl, by decide⟩)).trans (smP_sI ⟨rfl, by decide⟩), by unfold tkF; rw [if_pos h1, if_neg h2, if_neg h3]; exact ⟨(sI_o (Or.inr (by decide))).trans ((sI_o (Or.inr (by decide))).trans sI_s), sI_s, (sI_o (Or.inr (by decide))).trans sI_s, fun z => absurd (show (3 : Nat) = 2 from z) (by decide)⟩⟩)
      · refine R_aload_n rfl rfl ?_
        refine R_iconst (v := 2) rfl rfl ?_
        refine R_pI rfl rfl fw_6_5 rfl ?_
        refine R_aload_n rfl rfl ?_
        refine R_cV (as := []) rfl rfl iv_Parser_passNumber (sp_passNumber (s := (nxS B n e)) (hB.fr ((q1.trans (smP_sI (p := pP) ⟨rfl, by decide⟩)).trans (smP_sI (p := pP) ⟨rfl, by decide⟩)) (fun b => by unfold pP; omega)) hS ((sI_o (Or.inr (by decide))).trans sI_s) ((sI_o (Or.inr (by decide))).trans ((sI_o (Or.inr (by decide))).trans e1))) (by decide) rfl rfl rfl (by decide) rfl rfl (Nat.le_of_ble_eq_true rfl) (fun τ2 hτ2 => ?_)
        obtain ⟨p2, e2, v2⟩ := hτ2
        refine R_goto rfl rfl ?_
        exact T_return rfl rfl (am_okv0 ⟨((q1.trans (smP_sI (p := pP) ⟨rfl, by decide⟩)).trans (smP_sI (p := pP) ⟨rfl, by decide⟩)).trans (p2.mono (fun a b => by unfold pP1 pP; omega)), by unfold tkF; rw [if_pos h1, if_neg h2, if_pos h3]; exact ⟨(p2.i (by unfold pP1; omega)).trans ((sI_o (Or.inr (by decide))).trans sI_s), e2, (p2.i (by unfold pP1; omega)).trans sI_s, fun _ => v2⟩⟩)
    · refine R_aload_n rfl rfl ?_
      refine R_iconst (v := 1) rfl rfl ?_
      refine R_pI rfl rfl fw_6_5 rfl ?_
      refine R_aload_n rfl rfl ?_
      refine R_cV (as := []) rfl rfl iv_Parser_passWord (sp_passWord (s := (nxS B n e)) (hB.fr ((q1.trans (smP_sI (p := pP) ⟨rfl, by decide⟩)).trans (smP_sI (p := pP) ⟨rfl, by decide⟩)) (fun b => by unfold pP; omega)) hS ((sI_o (Or.inr (by decide))).trans sI_s) ((sI_o (Or.inr (by decide))).trans ((sI_o (Or.inr (by decide))).trans e1))) (by decide) rfl rfl rfl (by decide) rfl rfl (Nat.le_of_ble_eq_true rfl) (fun τ2 hτ2 => ?_)
      obtain ⟨p2, e2⟩ := hτ2
      refine R_goto rfl rfl ?_
      exact T_return rfl rfl (am_okv0 ⟨((q1.trans (smP_sI (p := pP) ⟨rfl, by decide⟩)).trans (smP_sI (p := pP) ⟨rfl, by decide⟩)).trans (p2.mono (fun a b => by unfold pP1 pP; omega)), by unfold tkF; rw [if_pos h1, if_pos h2]; exact ⟨(p2.i (by unfold pP1; omega)).trans ((sI_o (Or.inr (by decide))).trans sI_s), e2, (p2.i (by unfold pP1; omega)).trans sI_s, fun z => absurd (show (1 : Nat) = 2 from z) (by decide)⟩⟩)
  · refine R_aload_n rfl rfl ?_
    refine R_iconst (v := 0) rfl rfl ?_
    refine R_pI rfl rfl fw_6_5 rfl ?_
    refine R_goto rfl rfl ?_
    exact T_return rfl rfl (am_okv0 ⟨(q1.trans (smP_sI (p := pP) ⟨rfl, by decide⟩)).trans (smP_sI ⟨rfl, by decide⟩), by unfold tkF; rw [if_neg h1]; exact ⟨(sI_o (Or.inr (by decide))).trans sI_s, (sI_o (Or.inr (by decide))).trans ((sI_o (Or.inr (by decide))).trans e1), sI_s, fun z => absurd (show (0 : Nat) = 2 from z) (by decide)⟩⟩)
/-- a fault is told -/
def flS (σ : am_G) (c x : Int32) : am_G := sI (sI σ 13 1 c) 13 2 x
/-- the fault of a number: none, not a number, out of its range -/
def ckN (lo hi : Nat) (t : am_T) : Nat := if t.2.2.1 = 2 then (if lo ≤ t.2.2.2 ∧ t.2.2.2 ≤ hi then 0 else 2) else 1
abbrev isSy (B : List Int32) (x : Int32) (t : am_T) : Prop := t.2.2.1 = 3 ∧ ibA B t.1 = x
set_option maxRecDepth 100000 in
set_option maxHeartbeats 4000000 in
theorem sp_fail {σ : am_G} {c x : Int32} (h6 : σ.1 13 6 = x) : am_Call am_TX 0 0 c_Parser_fail [.ref 13, .int c] (mm σ) (am_Ok (some (.int 0)) (fun σ1 => σ1 = flS σ c x)) := by
  refine ⟨mf_Parser_fail, Nat.le_of_ble_eq_true rfl, ?_⟩
  refine R_aload_n rfl rfl ?_
  refine R_iload_n rfl rfl ?_
  refine R_pI rfl rfl fw_6_1 rfl ?_
  refine R_aload_n rfl rfl ?_
  refine R_aload_n rfl rfl ?_
  refine R_gIX (x := x) rfl rfl fd_6_6 ((sI_o (Or.inr (by decide))).trans h6) ?_
  refine R_pI rfl rfl fw_6_2 rfl ?_
  refine R_iconst (v := 0) rfl rfl ?_
  exact T_zreturn rfl rfl rfl (am_oki rfl rfl)
set_option maxRecDepth 100000 in
set_option maxHeartbeats 4000000 in
theorem sp_isNumberFrom {σ : am_G} {t : am_T} {lo hi : Nat} (hT : tkC σ t) (hb : t.2.2.1 ≤ 3 ∧ t.2.2.2 ≤ 1000) (hlo : lo ≤ 100) (hhi : hi ≤ 100) (h0 : ckN lo hi t = 0) : am_Call am_TX 1 0 c_Parser_isNumberFrom [.ref 13, .int (nI lo), .int (nI hi)] (mm σ) (am_Ok (some (.int 1)) (fun σ1 => σ1 = σ)) := by
  have h1 : t.2.2.1 = 2 := by
    unfold ckN at h0; split at h0
    · assumption
    · exact absurd h0 (by decide)
  have h2 : lo ≤ t.2.2.2 ∧ t.2.2.2 ≤ hi := by
    unfold ckN at h0; rw [if_pos h1] at h0; split at h0
    · assumption
    · exact absurd h0 (by decide)
  obtain ⟨h2, h3⟩ := h2
  refine ⟨mf_Parser_isNumberFrom, Nat.le_of_ble_eq_true rfl, ?_⟩
  refine R_aload_n rfl rfl ?_
  refine R_gIN (n := t.2.2.1) rfl rfl fd_6_5 hT.2.2.1 ?_
  refine R_iconst (v := 2) rfl rfl ?_
  refine R_nicmp_eq (x := t.2.2.1) (y := 2) rfl rfl (by omega) (by omega) (fun g1 => ?_) (fun z => by omega)
  refine R_aload_n rfl rfl ?_
  refine R_gIN (n := t.2.2.2) rfl rfl fd_6_8 (hT.2.2.2 h1) ?_
  refine R_iload_n rfl rfl ?_
  refine R_nicmp_lt (x := t.2.2.2) (y := lo) rfl rfl (by omega) (by omega) (fun z => by omega) (fun g2 => ?_)
  refine R_aload_n rfl rfl ?_
  refine R_gIN (n := t.2.2.2) rfl rfl fd_6_8 (hT.2.2.2 h1) ?_
  refine R_iload_n rfl rfl ?_
  refine R_nicmp_le (x := t.2.2.2) (y := hi) rfl rfl (by omega) (by omega) (fun g3 => ?_) (fun z => by omega)
  refine R_iconst (v := 1) rfl rfl ?_
  refine R_goto rfl rfl ?_
  exact T_zreturn rfl rfl rfl (am_oki rfl rfl)
set_option maxRecDepth 100000 in
set_option maxHeartbeats 4000000 in
theorem sp_isNumberFrom_1 {σ : am_G} {t : am_T} {lo hi : Nat} (hT : tkC σ t) (hb : t.2.2.1 ≤ 3 ∧ t.2.2.2 ≤ 1000) (hlo : lo ≤ 100) (hhi : hi ≤ 100) (h1 : ¬ t.2.2.1 = 2) : am_Call am_TX 1 0 c_Parser_isNumberFrom [.ref 13, .int (nI lo), .int (nI hi)] (mm σ) (am_Ok (some (.int 0)) (fun σ1 => σ1 = flS σ 1 (nI t.1))) := by
  refine ⟨mf_Parser_isNumberFrom, Nat.le_of_ble_eq_true rfl, ?_⟩
  refine R_aload_n rfl rfl ?_
  refine R_gIN (n := t.2.2.1) rfl rfl fd_6_5 hT.2.2.1 ?_
  refine R_iconst (v := 2) rfl rfl ?_
  refine R_nicmp_eq (x := t.2.2.1) (y := 2) rfl rfl (by omega) (by omega) (fun z => by omega) (fun g1 => ?_)
  refine R_aload_n rfl rfl ?_
  refine R_iconst (v := 1) rfl rfl ?_
  refine R_cV (as := [.int 1]) rfl rfl iv_Parser_fail (sp_fail hT.1) (by decide) rfl rfl rfl (by decide) rfl rfl (Nat.le_of_ble_eq_true rfl) (fun _ q => ?_)
  obtain rfl := q.symm
  exact T_zreturn rfl rfl rfl (am_oki rfl rfl)
set_option maxRecDepth 100000 in
set_option maxHeartbeats 4000000 in
theorem sp_isNumberFrom_2 {σ : am_G} {t : am_T} {lo hi : Nat} (hT : tkC σ t) (hb : t.2.2.1 ≤ 3 ∧ t.2.2.2 ≤ 1000) (hlo : lo ≤ 100) (hhi : hi ≤ 100) (h1 : t.2.2.1 = 2) (h2 : t.2.2.2 < lo ∨ hi < t.2.2.2) : am_Call am_TX 1 0 c_Parser_isNumberFrom [.ref 13, .int (nI lo), .int (nI hi)] (mm σ) (am_Ok (some (.int 0)) (fun σ1 => σ1 = flS σ 2 (nI t.1))) := by
  refine ⟨mf_Parser_isNumberFrom, Nat.le_of_ble_eq_true rfl, ?_⟩
  refine R_aload_n rfl rfl ?_
  refine R_gIN (n := t.2.2.1) rfl rfl fd_6_5 hT.2.2.1 ?_
  refine R_iconst (v := 2) rfl rfl ?_
  refine R_nicmp_eq (x := t.2.2.1) (y := 2) rfl rfl (by omega) (by omega) (fun g1 => ?_) (fun z => by omega)
  refine R_aload_n rfl rfl ?_
  refine R_gIN (n := t.2.2.2) rfl rfl fd_6_8 (hT.2.2.2 h1) ?_
  refine R_iload_n rfl rfl ?_
  refine R_nicmp_lt (x := t.2.2.2) (y := lo) rfl rfl (by omega) (by omega) (fun g2 => ?_) (fun g2 => ?_)
  · refine R_aload_n rfl rfl ?_
    refine R_iconst (v := 2) rfl rfl ?_
    refine R_cV (as := [.int 2]) rfl rfl iv_Parser_fail (sp_fail hT.1) (by decide) rfl rfl rfl (by decide) rfl rfl (Nat.le_of_ble_eq_true rfl) (fun _ q => ?_)
    obtain rfl := q.symm
    refine R_if_eq rfl rfl (fun _ => ?_) (fun z => absurd z (by decide))
    refine R_iconst (v := 0) rfl rfl ?_
    exact T_zreturn rfl rfl rfl (am_oki rfl rfl)
  · refine R_aload_n rfl rfl ?_
    refine R_gIN (n := t.2.2.2) rfl rfl fd_6_8 (hT.2.2.2 h1) ?_
    refine R_iload_n rfl rfl ?_
    refine R_nicmp_le (x := t.2.2.2) (y := hi) rfl rfl (by omega) (by omega) (fun z => by omega) (fun g3 => ?_)
    refine R_aload_n rfl rfl ?_
    refine R_iconst (v := 2) rfl rfl ?_
    refine R_cV (as := [.int 2]) rfl rfl iv_Parser_fail (sp_fail hT.1) (by decide) rfl rfl rfl (by decide) rfl rfl (Nat.le_of_ble_eq_true rfl) (fun _ q => ?_)
    obtain rfl := q.symm
    refine R_if_eq rfl rfl (fun _ => ?_) (fun z => absurd z (by decide))
    refine R_iconst (v := 0) rfl rfl ?_
    exact T_zreturn rfl rfl rfl (am_oki rfl rfl)
set_option maxRecDepth 100000 in
set_option maxHeartbeats 4000000 in
theorem sp_isSymbol {σ : am_G} {t : am_T} {n : Nat} {B : List Int32} {x : Int32} (hB : iC σ n B) (hT : tkC σ t) (hb : t.2.2.1 ≤ 3 ∧ t.1 ≤ n) : am_Call am_TX 1 0 c_Parser_isSymbol [.ref 13, .int x] (mm σ) (am_Ok (some (.int (zP (isSy B x t)))) (fun σ1 => σ1 = σ)) := by
  have h400 := hB.2.2.1
  refine ⟨mf_Parser_isSymbol, Nat.le_of_ble_eq_true rfl, ?_⟩
  refine R_aload_n rfl rfl ?_
  refine R_gIN (n := t.2.2.1) rfl rfl fd_6_5 hT.2.2.1 ?_
  refine R_iconst (v := 3) rfl rfl ?_
  refine R_nicmp_ne (x := t.2.2.1) (y := 3) rfl rfl (by omega) (by omega) (fun h1 => ?_) (fun h1 => ?_)
  · refine R_iconst (v := 0) rfl rfl ?_
    exact T_zreturn rfl rfl rfl (am_oki ((zP_f (fun z => absurd z.1 (by omega))).symm) rfl)
  · refine R_aload_n rfl rfl ?_
    refine R_gP (x := 1) rfl rfl fp_6_3 rfl ?_
    refine R_aload_n rfl rfl ?_
    refine R_gIN (n := t.1) rfl rfl fd_6_6 hT.1 ?_
    refine R_cV (as := [.int (nI t.1)]) rfl rfl iv_Input_byteAt (sp_Input_byteAt (k := t.1) hB (by omega)) (by decide) rfl rfl rfl (by decide) rfl rfl (Nat.le_of_ble_eq_true rfl) (fun _ q => ?_)
    obtain rfl := q.symm
    refine R_iload_n rfl rfl ?_
    refine R_icmp_ne rfl rfl (fun h2 => ?_) (fun h2 => ?_)
    · refine R_iconst (v := 0) rfl rfl ?_
      exact T_zreturn rfl rfl rfl (am_oki ((zP_f (fun z => absurd z.2 h2)).symm) rfl)
    · refine R_iconst (v := 1) rfl rfl ?_
      refine R_goto rfl rfl ?_
      exact T_zreturn rfl rfl rfl (am_oki ((zP_t ⟨by omega, h2⟩).symm) rfl)

