/-! ===== the parser's rows ===== -/
/-- what is known of a token -/
def tkB (n : Nat) (t : am_T) : Prop := t.2.2.1 ≤ 3 ∧ t.2.2.2 ≤ 1000 ∧ t.1 ≤ n ∧ t.2.1 ≤ n
theorem nvF_le {c : Nat} {B : List Int32} : ∀ u i a, a ≤ c → nvF c B u i a ≤ c
  | 0, _, _, h => h
  | u + 1, i, a, h => by
    simp only [nvF]
    split
    · exact nvF_le u (i + 1) _ (by omega)
    · exact h
theorem tkF_b {n e : Nat} {B : List Int32} (h : e ≤ n) : tkB n (tkF 1000 B n e) := by
  obtain ⟨h1, h2⟩ := tkF_le (cap := 1000) (B := B) h
  refine ⟨?_, ?_, h1, h2⟩
  · unfold tkF
    split
    · split
      · show (1 : Nat) ≤ 3; decide
      · split
        · show (2 : Nat) ≤ 3; decide
        · show (3 : Nat) ≤ 3; decide
    · show (0 : Nat) ≤ 3; decide
  · unfold tkF
    split
    · split
      · show (0 : Nat) ≤ 1000; decide
      · split
        · exact nvF_le _ _ _ (by decide)
        · show (0 : Nat) ≤ 1000; decide
    · show (0 : Nat) ≤ 1000; decide
/-- the next token after one -/
def nx (B : List Int32) (n : Nat) (t : am_T) : am_T := tkF 1000 B n t.2.1
theorem sp_nextT {σ : am_G} {n : Nat} {B : List Int32} {t : am_T} (hB : iC σ n B) (hb : tkB n t) (hT : tkC σ t) : am_Call am_TX 3 0 c_Parser_next [.ref 13] (mm σ) (am_Ok none (fun σ1 => smP pP σ σ1 ∧ tkC σ1 (nx B n t))) := sp_next hB hb.2.2.2 hT.2.1
theorem nx_b {n : Nat} {B : List Int32} {t : am_T} (h : tkB n t) : tkB n (nx B n t) := tkF_b h.2.2.2
theorem sp_isNumberFrom_x {σ : am_G} {t : am_T} {lo hi : Nat} (hT : tkC σ t) (hb : t.2.2.1 ≤ 3 ∧ t.2.2.2 ≤ 1000) (hlo : lo ≤ 100) (hhi : hi ≤ 100) (h0 : ¬ ckN lo hi t = 0) : am_Call am_TX 1 0 c_Parser_isNumberFrom [.ref 13, .int (nI lo), .int (nI hi)] (mm σ) (am_Ok (some (.int 0)) (fun σ1 => σ1 = flS σ (nI (ckN lo hi t)) (nI t.1))) := by
  by_cases h1 : t.2.2.1 = 2
  · by_cases h2 : lo ≤ t.2.2.2 ∧ t.2.2.2 ≤ hi
    · exact absurd (show ckN lo hi t = 0 by unfold ckN; rw [if_pos h1, if_pos h2]) h0
    · rw [show ckN lo hi t = 2 by unfold ckN; rw [if_pos h1, if_neg h2]]
      exact sp_isNumberFrom_2 hT hb hlo hhi h1 (by omega)
  · rw [show ckN lo hi t = 1 by unfold ckN; rw [if_neg h1]]
    exact sp_isNumberFrom_1 hT hb hlo hhi h1
theorem ckN_0 {lo hi : Nat} {t : am_T} (h : ckN lo hi t = 0) : t.2.2.1 = 2 ∧ lo ≤ t.2.2.2 ∧ t.2.2.2 ≤ hi := by
  unfold ckN at h
  split at h
  · split at h
    · exact ⟨by assumption, by assumption⟩
    · exact absurd h (by decide)
  · exact absurd h (by decide)
/-- what the parser changes -/
def pE (a b : Nat) : Prop := (a = 13 ∧ 5 ≤ b) ∨ a = 5
/-- a fault stands told -/
def erC (σ σ1 : am_G) (c : Nat) (x : Nat) : Prop := smP (fun a _ => 3 ≤ a ∧ a < 14) σ σ1 ∧ σ1.1 13 1 = nI c ∧ σ1.1 13 2 = nI x
theorem erC_fl {σ τ : am_G} {c x : Nat} (q : smP pE σ τ) : erC σ (flS τ (nI c) (nI x)) c x := by
  have m : smP (fun a _ => 3 ≤ a ∧ a < 14) σ τ := q.mono (fun a b h => by unfold pE at h; omega)
  exact ⟨m.trans ((smP_sI (show 3 ≤ 13 ∧ 13 < 14 by omega)).trans (smP_sI (show 3 ≤ 13 ∧ 13 < 14 by omega))), (sI_o (Or.inr (by decide))).trans sI_s, sI_s⟩
theorem erC.pre {P : Nat → Nat → Prop} {σ τ σ1 : am_G} {c x : Nat} (q : smP P σ τ) (hP : ∀ a b, P a b → 3 ≤ a ∧ a < 14) (h : erC τ σ1 c x) : erC σ σ1 c x := ⟨(q.mono hP).trans h.1, h.2⟩
theorem pP_pE {σ τ : am_G} (q : smP pP σ τ) : smP pE σ τ := q.mono (fun a b h => by unfold pP at h; unfold pE; omega)
set_option maxRecDepth 100000 in
set_option maxHeartbeats 4000000 in
theorem sp_passSymbol {σ : am_G} {n : Nat} {B : List Int32} {t : am_T} {x : Int32} (hB : iC σ n B) (hb : tkB n t) (hT : tkC σ t) (hs : isSy B x t) : am_Call am_TX 4 0 c_Parser_passSymbol [.ref 13, .int x] (mm σ) (am_Ok (some (.int 1)) (fun σ1 => smP pP σ σ1 ∧ tkC σ1 (nx B n t))) := by
  refine ⟨mf_Parser_passSymbol, Nat.le_of_ble_eq_true rfl, ?_⟩
  refine R_aload_n rfl rfl ?_
  refine R_iload_n rfl rfl ?_
  refine R_cV (as := [.int x]) rfl rfl iv_Parser_isSymbol (sp_isSymbol hB hT ⟨hb.1, hb.2.2.1⟩) (by decide) rfl rfl rfl (by decide) rfl rfl (Nat.le_of_ble_eq_true rfl) (fun _ q => ?_)
  obtain rfl := q.symm
  refine R_if_ne rfl rfl (fun h1 => ?_) (fun z => absurd hs (zP_0 z))
  refine R_aload_n rfl rfl ?_
  refine R_cV (as := []) rfl rfl iv_Parser_next (sp_nextT hB hb hT) (by decide) rfl rfl rfl (by decide) rfl rfl (Nat.le_of_ble_eq_true rfl) (fun τ1 hτ1 => ?_)
  obtain ⟨p1, k1⟩ := hτ1
  refine R_iconst (v := 1) rfl rfl ?_
  exact T_zreturn rfl rfl rfl (am_oki rfl ⟨p1, k1⟩)
set_option maxRecDepth 100000 in
set_option maxHeartbeats 4000000 in
theorem sp_passSymbol_x {σ : am_G} {n : Nat} {B : List Int32} {t : am_T} {x : Int32} (hB : iC σ n B) (hb : tkB n t) (hT : tkC σ t) (hs : ¬ isSy B x t) : am_Call am_TX 4 0 c_Parser_passSymbol [.ref 13, .int x] (mm σ) (am_Ok (some (.int 0)) (fun σ1 => σ1 = flS σ 1 (nI t.1))) := by
  refine ⟨mf_Parser_passSymbol, Nat.le_of_ble_eq_true rfl, ?_⟩
  refine R_aload_n rfl rfl ?_
  refine R_iload_n rfl rfl ?_
  refine R_cV (as := [.int x]) rfl rfl iv_Parser_isSymbol (sp_isSymbol hB hT ⟨hb.1, hb.2.2.1⟩) (by decide) rfl rfl rfl (by decide) rfl rfl (Nat.le_of_ble_eq_true rfl) (fun _ q => ?_)
  obtain rfl := q.symm
  refine R_if_ne rfl rfl (fun z => absurd (zP_ne z) hs) (fun h1 => ?_)
  refine R_aload_n rfl rfl ?_
  refine R_iconst (v := 1) rfl rfl ?_
  refine R_cV (as := [.int 1]) rfl rfl iv_Parser_fail (sp_fail hT.1) (by decide) rfl rfl rfl (by decide) rfl rfl (Nat.le_of_ble_eq_true rfl) (fun _ q => ?_)
  obtain rfl := q.symm
  exact T_zreturn rfl rfl rfl (am_oki rfl rfl)
/-- the token of an entry's number, and its value -/
def eT (B : List Int32) (n : Nat) (t : am_T) : am_T := if isSy B 45 t then nx B n t else t
def eV (B : List Int32) (n : Nat) (t : am_T) : Int64 := if isSy B 45 t then (-(nI (eT B n t).2.2.2)).toInt64 else (nI (eT B n t).2.2.2).toInt64
theorem eT_b {n : Nat} {B : List Int32} {t : am_T} (h : tkB n t) : tkB n (eT B n t) := by
  unfold eT
  split
  · exact nx_b h
  · exact h
set_option maxRecDepth 100000 in
set_option maxHeartbeats 4000000 in
theorem sp_parseEntry {σ : am_G} {n : Nat} {B : List Int32} {t : am_T} {h w rt c : Nat} {f : am_Gr} (hB : iC σ n B) (hb : tkB n t) (hT : tkC σ t) (hR : σ.1 13 0 = nI rt) (hrt : rt < 6) (hc : c < 6) (hv : vM σ 4 h w f) (h0 : ckN 0 20 (eT B n t) = 0) : am_Call am_TX 4 0 c_Parser_parseEntry [.ref 13, .int (nI c)] (mm σ) (am_Ok (some (.int 1)) (fun σ1 => smP pE σ σ1 ∧ tkC σ1 (nx B n (eT B n t)) ∧ vM σ1 4 h w (up2 f rt c (eV B n t)))) := by
  refine ⟨mf_Parser_parseEntry, Nat.le_of_ble_eq_true rfl, ?_⟩
  refine R_aload_n rfl rfl ?_
  refine R_bipush (v := 45) rfl (by decide) ?_
  refine R_cV (as := [.int 45]) rfl rfl iv_Parser_isSymbol (sp_isSymbol hB hT ⟨hb.1, hb.2.2.1⟩) (by decide) rfl rfl rfl (by decide) rfl rfl (Nat.le_of_ble_eq_true rfl) (fun _ q => ?_)
  obtain rfl := q.symm
  refine R_istore_n rfl (by decide) ?_
  refine R_iload_n rfl rfl ?_
  refine R_zif_eq rfl rfl (fun g1 => ?_) (fun g1 => ?_)
  · refine R_aload_n rfl rfl ?_
    refine R_iconst (v := 0) rfl rfl ?_
    refine R_bipush (v := 20) rfl (by decide) ?_
    refine R_cV (as := [.int 0, .int 20]) rfl rfl iv_Parser_isNumberFrom (sp_isNumberFrom hT ⟨hb.1, hb.2.1⟩ (by decide) (by decide) (show ckN 0 20 t = 0 from by rw [← (show eT B n t = t from if_neg g1)]; exact h0)) (by decide) rfl rfl rfl (by decide) rfl rfl (Nat.le_of_ble_eq_true rfl) (fun _ q => ?_)
    obtain rfl := q.symm
    have hk := ckN_0 (show ckN 0 20 t = 0 from by rw [← (show eT B n t = t from if_neg g1)]; exact h0)
    refine R_if_ne rfl rfl (fun _ => ?_) (fun z => absurd z (by decide))
    refine R_aload_n rfl rfl ?_
    refine R_gP (x := 3) rfl rfl fp_6_4 rfl ?_
    refine R_gP (x := 4) rfl rfl fp_9_0 rfl ?_
    refine R_aload_n rfl rfl ?_
    refine R_gIN (n := rt) rfl rfl fd_6_0 hR ?_
    refine R_iload_n rfl rfl ?_
    refine R_iload_n rfl rfl ?_
    refine R_if_eq rfl rfl (fun g2 => ?_) (fun z => absurd (zP_ne z) g1)
    refine R_aload_n rfl rfl ?_
    refine R_gIN (n := t.2.2.2) rfl rfl fd_6_8 (hT.2.2.2 hk.1) ?_
    refine R_i2l rfl ?_
    refine R_cV (as := [.int (nI rt), .int (nI c), .long ((nI t.2.2.2).toInt64)]) rfl rfl iv_Matrix_put (sp_Matrix_put (i := rt) (j := c) (⟨rfl, rfl, rfl⟩ : isMat 4) (by omega) (by omega)) (by decide) rfl rfl rfl (by decide) rfl rfl (Nat.le_of_ble_eq_true rfl) (fun _ q => ?_)
    obtain rfl := q.symm
    refine R_aload_n rfl rfl ?_
    refine R_cV (as := []) rfl rfl iv_Parser_next (sp_nextT (hB.fr (smP_uL (p := pE) (σ := σ) (k := 4) (i := rt) (j := c) (x := ((nI t.2.2.2).toInt64)) (fun b => by unfold pE; omega)) (fun b => by unfold pE; omega)) hb (show tkC (uL σ 4 rt c ((nI t.2.2.2).toInt64)) t from ⟨((smP_uL (p := plc 5 6) (σ := σ) (k := 4) (i := rt) (j := c) (x := ((nI t.2.2.2).toInt64)) (fun b => by unfold plc; omega)).i (by unfold plc; omega)).trans hT.1, ((smP_uL (p := plc 5 6) (σ := σ) (k := 4) (i := rt) (j := c) (x := ((nI t.2.2.2).toInt64)) (fun b => by unfold plc; omega)).i (by unfold plc; omega)).trans hT.2.1, ((smP_uL (p := plc 5 6) (σ := σ) (k := 4) (i := rt) (j := c) (x := ((nI t.2.2.2).toInt64)) (fun b => by unfold plc; omega)).i (by unfold plc; omega)).trans hT.2.2.1, fun z => ((smP_uL (p := plc 5 6) (σ := σ) (k := 4) (i := rt) (j := c) (x := ((nI t.2.2.2).toInt64)) (fun b => by unfold plc; omega)).i (by unfold plc; omega)).trans (hT.2.2.2 z)⟩)) (by decide) rfl rfl rfl (by decide) rfl rfl (Nat.le_of_ble_eq_true rfl) (fun τ2 hτ2 => ?_)
    obtain ⟨p2, k2⟩ := hτ2
    refine R_iconst (v := 1) rfl rfl ?_
    rw [(show eT B n t = t from if_neg g1)]
    exact T_zreturn rfl rfl rfl (am_oki rfl ⟨(smP_uL (p := pE) (σ := σ) (k := 4) (i := rt) (j := c) (x := ((nI t.2.2.2).toInt64)) (fun b => by unfold pE; omega)).trans (pP_pE p2), k2, by rw [(show eV B n t = _ from by unfold eV; rw [if_neg g1, (show eT B n t = t from if_neg g1)])]; exact p2.vM (hv.put (by omega) (by omega)) (fun b => by unfold pP; omega) (fun b => by unfold pP; omega)⟩)
  · refine R_aload_n rfl rfl ?_
    refine R_cV (as := []) rfl rfl iv_Parser_next (sp_nextT hB hb hT) (by decide) rfl rfl rfl (by decide) rfl rfl (Nat.le_of_ble_eq_true rfl) (fun τ1 hτ1 => ?_)
    obtain ⟨p1, k1⟩ := hτ1
    refine R_aload_n rfl rfl ?_
    refine R_iconst (v := 0) rfl rfl ?_
    refine R_bipush (v := 20) rfl (by decide) ?_
    refine R_cV (as := [.int 0, .int 20]) rfl rfl iv_Parser_isNumberFrom (sp_isNumberFrom k1 ⟨(nx_b hb).1, (nx_b hb).2.1⟩ (by decide) (by decide) (show ckN 0 20 (nx B n t) = 0 from by rw [← (show eT B n t = nx B n t from if_pos g1)]; exact h0)) (by decide) rfl rfl rfl (by decide) rfl rfl (Nat.le_of_ble_eq_true rfl) (fun _ q => ?_)
    obtain rfl := q.symm
    have hk := ckN_0 (show ckN 0 20 (nx B n t) = 0 from by rw [← (show eT B n t = nx B n t from if_pos g1)]; exact h0)
    refine R_if_ne rfl rfl (fun _ => ?_) (fun z => absurd z (by decide))
    refine R_aload_n rfl rfl ?_
    refine R_gP (x := 3) rfl rfl fp_6_4 rfl ?_
    refine R_gP (x := 4) rfl rfl fp_9_0 rfl ?_
    refine R_aload_n rfl rfl ?_
    refine R_gIN (n := rt) rfl rfl fd_6_0 ((p1.i (by unfold pP; omega)).trans hR) ?_
    refine R_iload_n rfl rfl ?_
    refine R_iload_n rfl rfl ?_
    refine R_if_eq rfl rfl (fun z => absurd g1 (zP_0 z)) (fun g3 => ?_)
    refine R_aload_n rfl rfl ?_
    refine R_gIN (n := (nx B n t).2.2.2) rfl rfl fd_6_8 (k1.2.2.2 hk.1) ?_
    refine R_ineg rfl ?_
    refine R_i2l rfl ?_
    refine R_goto rfl rfl ?_
    refine R_cV (as := [.int (nI rt), .int (nI c), .long ((-(nI ((nx B n t).2.2.2))).toInt64)]) rfl rfl iv_Matrix_put (sp_Matrix_put (i := rt) (j := c) (⟨rfl, rfl, rfl⟩ : isMat 4) (by omega) (by omega)) (by decide) rfl rfl rfl (by decide) rfl rfl (Nat.le_of_ble_eq_true rfl) (fun _ q => ?_)
    obtain rfl := q.symm
    refine R_aload_n rfl rfl ?_
    refine R_cV (as := []) rfl rfl iv_Parser_next (sp_nextT (hB.fr ((pP_pE p1).trans (smP_uL (p := pE) (σ := τ1) (k := 4) (i := rt) (j := c) (x := ((-(nI ((nx B n t).2.2.2))).toInt64)) (fun b => by unfold pE; omega))) (fun b => by unfold pE; omega)) (nx_b hb) (show tkC (uL τ1 4 rt c ((-(nI ((nx B n t).2.2.2))).toInt64)) (nx B n t) from ⟨((smP_uL (p := plc 5 6) (σ := τ1) (k := 4) (i := rt) (j := c) (x := ((-(nI ((nx B n t).2.2.2))).toInt64)) (fun b => by unfold plc; omega)).i (by unfold plc; omega)).trans k1.1, ((smP_uL (p := plc 5 6) (σ := τ1) (k := 4) (i := rt) (j := c) (x := ((-(nI ((nx B n t).2.2.2))).toInt64)) (fun b => by unfold plc; omega)).i (by unfold plc; omega)).trans k1.2.1, ((smP_uL (p := plc 5 6) (σ := τ1) (k := 4) (i := rt) (j := c) (x := ((-(nI ((nx B n t).2.2.2))).toInt64)) (fun b => by unfold plc; omega)).i (by unfold plc; omega)).trans k1.2.2.1, fun z => ((smP_uL (p := plc 5 6) (σ := τ1) (k := 4) (i := rt) (j := c) (x := ((-(nI ((nx B n t).2.2.2))).toInt64)) (fun b => by unfold plc; omega)).i (by unfold plc; omega)).trans (k1.2.2.2 z)⟩)) (by decide) rfl rfl rfl (by decide) rfl rfl (Nat.le_of_ble_eq_true rfl) (fun τ2 hτ2 => ?_)
    obtain ⟨p2, k2⟩ := hτ2
    refine R_iconst (v := 1) rfl rfl ?_
    rw [(show eT B n t = nx B n t from if_pos g1)]
    exact T_zreturn rfl rfl rfl (am_oki rfl ⟨((pP_pE p1).trans (smP_uL (p := pE) (σ := τ1) (k := 4) (i := rt) (j := c) (x := ((-(nI ((nx B n t).2.2.2))).toInt64)) (fun b => by unfold pE; omega))).trans (pP_pE p2), k2, by rw [(show eV B n t = _ from by unfold eV; rw [if_pos g1, (show eT B n t = nx B n t from if_pos g1)])]; exact p2.vM (((p1.vM hv (fun b => by unfold pP; omega) (fun b => by unfold pP; omega)).put (by omega) (by omega))) (fun b => by unfold pP; omega) (fun b => by unfold pP; omega)⟩)
set_option maxRecDepth 100000 in
set_option maxHeartbeats 4000000 in
theorem sp_parseEntry_x {σ : am_G} {n : Nat} {B : List Int32} {t : am_T} {h w rt c : Nat} {f : am_Gr} (hB : iC σ n B) (hb : tkB n t) (hT : tkC σ t) (hR : σ.1 13 0 = nI rt) (hrt : rt < 6) (hc : c < 6) (hv : vM σ 4 h w f) (h0 : ¬ ckN 0 20 (eT B n t) = 0) : am_Call am_TX 4 0 c_Parser_parseEntry [.ref 13, .int (nI c)] (mm σ) (am_Ok (some (.int 0)) (fun σ1 => erC σ σ1 (ckN 0 20 (eT B n t)) (eT B n t).1)) := by
  refine ⟨mf_Parser_parseEntry, Nat.le_of_ble_eq_true rfl, ?_⟩
  refine R_aload_n rfl rfl ?_
  refine R_bipush (v := 45) rfl (by decide) ?_
  refine R_cV (as := [.int 45]) rfl rfl iv_Parser_isSymbol (sp_isSymbol hB hT ⟨hb.1, hb.2.2.1⟩) (by decide) rfl rfl rfl (by decide) rfl rfl (Nat.le_of_ble_eq_true rfl) (fun _ q => ?_)
  obtain rfl := q.symm
  refine R_istore_n rfl (by decide) ?_
  refine R_iload_n rfl rfl ?_
  refine R_zif_eq rfl rfl (fun g1 => ?_) (fun g1 => ?_)
  · refine R_aload_n rfl rfl ?_
    refine R_iconst (v := 0) rfl rfl ?_
    refine R_bipush (v := 20) rfl (by decide) ?_
    refine R_cV (as := [.int 0, .int 20]) rfl rfl iv_Parser_isNumberFrom (sp_isNumberFrom_x hT ⟨hb.1, hb.2.1⟩ (by decide) (by decide) (show ¬ ckN 0 20 t = 0 from by rw [← (show eT B n t = t from if_neg g1)]; exact h0)) (by decide) rfl rfl rfl (by decide) rfl rfl (Nat.le_of_ble_eq_true rfl) (fun _ q => ?_)
    obtain rfl := q.symm
    refine R_if_ne rfl rfl (fun z => absurd z (by decide)) (fun _ => ?_)
    refine R_iconst (v := 0) rfl rfl ?_
    rw [(show eT B n t = t from if_neg g1)]
    exact T_zreturn rfl rfl rfl (am_oki rfl (erC_fl smP.refl))
  · refine R_aload_n rfl rfl ?_
    refine R_cV (as := []) rfl rfl iv_Parser_next (sp_nextT hB hb hT) (by decide) rfl rfl rfl (by decide) rfl rfl (Nat.le_of_ble_eq_true rfl) (fun τ1 hτ1 => ?_)
    obtain ⟨p1, k1⟩ := hτ1
    refine R_aload_n rfl rfl ?_
    refine R_iconst (v := 0) rfl rfl ?_
    refine R_bipush (v := 20) rfl (by decide) ?_
    refine R_cV (as := [.int 0, .int 20]) rfl rfl iv_Parser_isNumberFrom (sp_isNumberFrom_x k1 ⟨(nx_b hb).1, (nx_b hb).2.1⟩ (by decide) (by decide) (show ¬ ckN 0 20 (nx B n t) = 0 from by rw [← (show eT B n t = nx B n t from if_pos g1)]; exact h0)) (by decide) rfl rfl rfl (by decide) rfl rfl (Nat.le_of_ble_eq_true rfl) (fun _ q => ?_)
    obtain rfl := q.symm
    refine R_if_ne rfl rfl (fun z => absurd z (by decide)) (fun _ => ?_)
    refine R_iconst (v := 0) rfl rfl ?_
    rw [(show eT B n t = nx B n t from if_pos g1)]
    exact T_zreturn rfl rfl rfl (am_oki rfl (erC_fl (pP_pE p1)))

