/-! ===== a whole row, a prime ===== -/
def pRw (a b : Nat) : Prop := (a = 13 ∧ (b = 0 ∨ 5 ≤ b)) ∨ a = 5
theorem pE_pRw {σ τ : am_G} (q : smP pE σ τ) : smP pRw σ τ := q.mono (fun a b h => by unfold pE at h; unfold pRw; omega)
theorem pRw_14 : ∀ a b, pRw a b → 3 ≤ a ∧ a < 14 := fun a b h => by unfold pRw at h; omega
theorem pE_14 : ∀ a b, pE a b → 3 ≤ a ∧ a < 14 := fun a b h => by unfold pE at h; omega
/-- the token before the j-th entry -/
def rS (B : List Int32) (n : Nat) (t0 : am_T) : Nat → am_T
  | 0 => t0
  | j + 1 => nx B n (nx B n (eT B n (rS B n t0 j)))
theorem rS_b {n : Nat} {B : List Int32} {t0 : am_T} (h : tkB n t0) : ∀ j, tkB n (rS B n t0 j)
  | 0 => h
  | j + 1 => nx_b (nx_b (eT_b (rS_b h j)))
/-- the fault of a row, if there is one: what, where -/
def rE (B : List Int32) (n w : Nat) (t0 : am_T) : Nat → Nat → Option (Nat × Nat)
  | 0, _ => none
  | u + 1, j => if ckN 0 20 (eT B n (rS B n t0 j)) = 0 then
      (if isSy B (if j = w - 1 then 59 else 44) (nx B n (eT B n (rS B n t0 j))) then rE B n w t0 u (j + 1) else some (1, (nx B n (eT B n (rS B n t0 j))).1))
    else some (ckN 0 20 (eT B n (rS B n t0 j)), (eT B n (rS B n t0 j)).1)
/-- the entries so far -/
def rF (B : List Int32) (n : Nat) (f : am_Gr) (rt : Nat) (t0 : am_T) : Nat → am_Gr
  | 0 => f
  | j + 1 => up2 (rF B n f rt t0 j) rt j (eV B n (rS B n t0 j))
/-- what holds behind a piece of the parser -/
def rPost (σ σ1 : am_G) (r : Option (Nat × Nat)) (G : Prop) : Prop := match r with
  | none => G
  | some (c, x) => erC σ σ1 c x
set_option maxRecDepth 100000 in
set_option maxHeartbeats 4000000 in
theorem lp_row {σ : am_G} {n : Nat} {B : List Int32} {t0 : am_T} {h w rt : Nat} {f : am_Gr} {d k0 : Nat} (hB : iC σ n B) (hb : tkB n t0) (hh : h ≤ 6) (hw : w ≤ 6) (hrt : rt < h) (hd : 5 ≤ d)  : ∀ (uu i : Nat) (τ : am_G), i + uu = w → (smP pRw σ τ ∧ tkC τ (rS B n t0 i) ∧ vM τ 4 h w (rF B n f rt t0 i) ∧ τ.1 13 0 = nI rt) → am_R am_TX d k0 c_Parser_parseRow 29 [some (.ref 13), some (.int (nI i)), none] [] (mm τ) (am_Ok (some (.int (zP ((rE B n w t0 uu i).isNone = true)))) (fun σ1 => rPost σ σ1 (rE B n w t0 uu i) (smP pRw σ σ1 ∧ tkC σ1 (rS B n t0 w) ∧ vM σ1 4 h w (rF B n f rt t0 w) ∧ σ1.1 13 0 = nI (rt + 1)))) := by
  intro uu
  induction uu with
  | zero =>
    intro i τ hi hI
    obtain rfl : w = i := by omega
    refine R_iload_n rfl rfl ?_
    refine R_aload_n rfl rfl ?_
    refine R_gP (x := 3) rfl rfl fp_6_4 rfl ?_
    refine R_gP (x := 4) rfl rfl fp_9_0 rfl ?_
    refine R_gIN (n := w) rfl rfl fd_4_1 hI.2.2.1.2.1.1 ?_
    refine R_nicmp_ge (x := w) (y := w) rfl rfl (by omega) (by omega) (fun g1 => ?_) (fun z => by omega)
    refine R_aload_n rfl rfl ?_
    refine R_dup rfl rfl ?_
    refine R_gIN (n := rt) rfl rfl fd_6_0 hI.2.2.2 ?_
    refine R_iconst (v := 1) rfl rfl ?_
    refine R_iaddN (x := rt) (y := 1) rfl ?_
    refine R_pI rfl rfl fw_6_0 rfl ?_
    refine R_iconst (v := 1) rfl rfl ?_
    exact T_zreturn rfl rfl rfl (am_oki rfl ⟨hI.1.trans (smP_sI (p := pRw) (k := 13) (j := 0) (x := nI (rt + 1)) (Or.inl ⟨rfl, Or.inl rfl⟩)), ⟨(sI_o (Or.inr (by decide))).trans hI.2.1.1, (sI_o (Or.inr (by decide))).trans hI.2.1.2.1, (sI_o (Or.inr (by decide))).trans hI.2.1.2.2.1, fun z => (sI_o (Or.inr (by decide))).trans (hI.2.1.2.2.2 z)⟩, (smP_sI (p := plc 13 14) (k := 13) (j := 0) (x := nI (rt + 1)) (by unfold plc; omega)).vM hI.2.2.1 (fun b => by unfold plc; omega) (fun b => by unfold plc; omega), sI_s⟩)
  | succ uu ih =>
    intro i τ hi hI
    refine R_iload_n rfl rfl ?_
    refine R_aload_n rfl rfl ?_
    refine R_gP (x := 3) rfl rfl fp_6_4 rfl ?_
    refine R_gP (x := 4) rfl rfl fp_9_0 rfl ?_
    refine R_gIN (n := w) rfl rfl fd_4_1 hI.2.2.1.2.1.1 ?_
    refine R_nicmp_ge (x := i) (y := w) rfl rfl (by omega) (by omega) (fun z => by omega) (fun g1 => ?_)
    refine R_iload_n rfl rfl ?_
    refine R_aload_n rfl rfl ?_
    refine R_gP (x := 3) rfl rfl fp_6_4 rfl ?_
    refine R_gP (x := 4) rfl rfl fp_9_0 rfl ?_
    refine R_gIN (n := w) rfl rfl fd_4_1 hI.2.2.1.2.1.1 ?_
    refine R_iconst (v := 1) rfl rfl ?_
    refine R_isubN (x := w) (y := 1) rfl (by omega) ?_
    refine R_nicmp_ne (x := i) (y := (w - 1)) rfl rfl (by omega) (by omega) (fun g2 => ?_) (fun g2 => ?_)
    · refine R_iconst (v := 0) rfl rfl ?_
      refine R_istore_n rfl (by decide) ?_
      refine R_aload_n rfl rfl ?_
      refine R_iload_n rfl rfl ?_
      by_cases g3 : ckN 0 20 (eT B n (rS B n t0 i)) = 0
      · refine R_cV (as := [.int (nI i)]) rfl rfl iv_Parser_parseEntry (sp_parseEntry (t := (rS B n t0 i)) (hB.fr hI.1 (fun b => by unfold pRw; omega)) (rS_b hb i) hI.2.1 hI.2.2.2 (by omega) (by omega) hI.2.2.1 g3) (by omega) rfl rfl rfl (by decide) rfl rfl (Nat.le_of_ble_eq_true rfl) (fun μ hμ => ?_)
        obtain ⟨p1, k1, v1⟩ := hμ
        refine R_if_eq rfl rfl (fun z => absurd z (by decide)) (fun _ => ?_)
        refine R_aload_n rfl rfl ?_
        refine R_iload_n rfl rfl ?_
        refine R_if_eq rfl rfl (fun _ => ?_) (fun z => absurd z (by decide))
        refine R_bipush (v := 44) rfl (by decide) ?_
        by_cases g4 : isSy B 44 (nx B n (eT B n (rS B n t0 i)))
        · refine R_cV (as := [.int 44]) rfl rfl iv_Parser_passSymbol (sp_passSymbol (t := nx B n (eT B n (rS B n t0 i))) (hB.fr (hI.1.trans (pE_pRw p1)) (fun b => by unfold pRw; omega)) (nx_b (eT_b (rS_b hb i))) k1 g4) (by omega) rfl rfl rfl (by decide) rfl rfl (Nat.le_of_ble_eq_true rfl) (fun ν hν => ?_)
          obtain ⟨p2, k2⟩ := hν
          refine R_if_ne rfl rfl (fun _ => ?_) (fun z => absurd z (by decide))
          refine R_iincN (x := i) (m := 1) rfl rfl rfl (by decide) ?_
          refine R_goto rfl rfl ?_
          have e := ih (i + 1) ν (by omega) ⟨(hI.1.trans (pE_pRw p1)).trans (pE_pRw (pP_pE p2)), k2, p2.vM v1 (fun b => by unfold pP; omega) (fun b => by unfold pP; omega), (p2.i (by unfold pP; omega)).trans ((p1.i (by unfold pE; omega)).trans hI.2.2.2)⟩
          rw [show rE B n w t0 (uu + 1) i = rE B n w t0 uu (i + 1) from by simp only [rE]; rw [if_pos g3, show (if i = w - 1 then (59 : Int32) else 44) = 44 from if_neg (by omega)]; exact if_pos g4]
          exact e.weak ⟨rfl, rfl, trivial⟩
        · refine R_cV (as := [.int 44]) rfl rfl iv_Parser_passSymbol (sp_passSymbol_x (t := nx B n (eT B n (rS B n t0 i))) (hB.fr (hI.1.trans (pE_pRw p1)) (fun b => by unfold pRw; omega)) (nx_b (eT_b (rS_b hb i))) k1 g4) (by omega) rfl rfl rfl (by decide) rfl rfl (Nat.le_of_ble_eq_true rfl) (fun _ q => ?_)
          obtain rfl := q.symm
          refine R_if_ne rfl rfl (fun z => absurd z (by decide)) (fun _ => ?_)
          refine R_iconst (v := 0) rfl rfl ?_
          rw [show rE B n w t0 (uu + 1) i = some (1, (nx B n (eT B n (rS B n t0 i))).1) from by simp only [rE]; rw [if_pos g3, show (if i = w - 1 then (59 : Int32) else 44) = 44 from if_neg (by omega)]; exact if_neg g4]
          exact T_zreturn rfl rfl rfl (am_oki rfl (erC.pre (hI.1.trans (pE_pRw p1)) pRw_14 (erC_fl smP.refl)))
      · refine R_cV (as := [.int (nI i)]) rfl rfl iv_Parser_parseEntry (sp_parseEntry_x (t := (rS B n t0 i)) (hB.fr hI.1 (fun b => by unfold pRw; omega)) (rS_b hb i) hI.2.1 hI.2.2.2 (by omega) (by omega) hI.2.2.1 g3) (by omega) rfl rfl rfl (by decide) rfl rfl (Nat.le_of_ble_eq_true rfl) (fun μ hμ => ?_)
        refine R_if_eq rfl rfl (fun _ => ?_) (fun z => absurd z (by decide))
        refine R_iconst (v := 0) rfl rfl ?_
        rw [show rE B n w t0 (uu + 1) i = some (ckN 0 20 (eT B n (rS B n t0 i)), (eT B n (rS B n t0 i)).1) from by simp only [rE]; exact if_neg g3]
        exact T_zreturn rfl rfl rfl (am_oki rfl (erC.pre hI.1 pRw_14 hμ))
    · refine R_iconst (v := 1) rfl rfl ?_
      refine R_goto rfl rfl ?_
      refine R_istore_n rfl (by decide) ?_
      refine R_aload_n rfl rfl ?_
      refine R_iload_n rfl rfl ?_
      by_cases g5 : ckN 0 20 (eT B n (rS B n t0 i)) = 0
      · refine R_cV (as := [.int (nI i)]) rfl rfl iv_Parser_parseEntry (sp_parseEntry (t := (rS B n t0 i)) (hB.fr hI.1 (fun b => by unfold pRw; omega)) (rS_b hb i) hI.2.1 hI.2.2.2 (by omega) (by omega) hI.2.2.1 g5) (by omega) rfl rfl rfl (by decide) rfl rfl (Nat.le_of_ble_eq_true rfl) (fun μ hμ => ?_)
        obtain ⟨p1, k1, v1⟩ := hμ
        refine R_if_eq rfl rfl (fun z => absurd z (by decide)) (fun _ => ?_)
        refine R_aload_n rfl rfl ?_
        refine R_iload_n rfl rfl ?_
        refine R_if_eq rfl rfl (fun z => absurd z (by decide)) (fun _ => ?_)
        refine R_bipush (v := 59) rfl (by decide) ?_
        refine R_goto rfl rfl ?_
        by_cases g6 : isSy B 59 (nx B n (eT B n (rS B n t0 i)))
        · refine R_cV (as := [.int 59]) rfl rfl iv_Parser_passSymbol (sp_passSymbol (t := nx B n (eT B n (rS B n t0 i))) (hB.fr (hI.1.trans (pE_pRw p1)) (fun b => by unfold pRw; omega)) (nx_b (eT_b (rS_b hb i))) k1 g6) (by omega) rfl rfl rfl (by decide) rfl rfl (Nat.le_of_ble_eq_true rfl) (fun ν hν => ?_)
          obtain ⟨p2, k2⟩ := hν
          refine R_if_ne rfl rfl (fun _ => ?_) (fun z => absurd z (by decide))
          refine R_iincN (x := i) (m := 1) rfl rfl rfl (by decide) ?_
          refine R_goto rfl rfl ?_
          have e := ih (i + 1) ν (by omega) ⟨(hI.1.trans (pE_pRw p1)).trans (pE_pRw (pP_pE p2)), k2, p2.vM v1 (fun b => by unfold pP; omega) (fun b => by unfold pP; omega), (p2.i (by unfold pP; omega)).trans ((p1.i (by unfold pE; omega)).trans hI.2.2.2)⟩
          rw [show rE B n w t0 (uu + 1) i = rE B n w t0 uu (i + 1) from by simp only [rE]; rw [if_pos g5, show (if i = w - 1 then (59 : Int32) else 44) = 59 from if_pos (by omega)]; exact if_pos g6]
          exact e.weak ⟨rfl, rfl, trivial⟩
        · refine R_cV (as := [.int 59]) rfl rfl iv_Parser_passSymbol (sp_passSymbol_x (t := nx B n (eT B n (rS B n t0 i))) (hB.fr (hI.1.trans (pE_pRw p1)) (fun b => by unfold pRw; omega)) (nx_b (eT_b (rS_b hb i))) k1 g6) (by omega) rfl rfl rfl (by decide) rfl rfl (Nat.le_of_ble_eq_true rfl) (fun _ q => ?_)
          obtain rfl := q.symm
          refine R_if_ne rfl rfl (fun z => absurd z (by decide)) (fun _ => ?_)
          refine R_iconst (v := 0) rfl rfl ?_
          rw [show rE B n w t0 (uu + 1) i = some (1, (nx B n (eT B n (rS B n t0 i))).1) from by simp only [rE]; rw [if_pos g5, show (if i = w - 1 then (59 : Int32) else 44) = 59 from if_pos (by omega)]; exact if_neg g6]
          exact T_zreturn rfl rfl rfl (am_oki rfl (erC.pre (hI.1.trans (pE_pRw p1)) pRw_14 (erC_fl smP.refl)))
      · refine R_cV (as := [.int (nI i)]) rfl rfl iv_Parser_parseEntry (sp_parseEntry_x (t := (rS B n t0 i)) (hB.fr hI.1 (fun b => by unfold pRw; omega)) (rS_b hb i) hI.2.1 hI.2.2.2 (by omega) (by omega) hI.2.2.1 g5) (by omega) rfl rfl rfl (by decide) rfl rfl (Nat.le_of_ble_eq_true rfl) (fun μ hμ => ?_)
        refine R_if_eq rfl rfl (fun _ => ?_) (fun z => absurd z (by decide))
        refine R_iconst (v := 0) rfl rfl ?_
        rw [show rE B n w t0 (uu + 1) i = some (ckN 0 20 (eT B n (rS B n t0 i)), (eT B n (rS B n t0 i)).1) from by simp only [rE]; exact if_neg g5]
        exact T_zreturn rfl rfl rfl (am_oki rfl (erC.pre hI.1 pRw_14 hμ))
theorem rPost.pre {P : Nat → Nat → Prop} {σ τ σ1 : am_G} {r : Option (Nat × Nat)} {G G2 : Prop} (q : smP P σ τ) (hP : ∀ a b, P a b → 3 ≤ a ∧ a < 14) (hG : G → G2) (h : rPost τ σ1 r G) : rPost σ σ1 r G2 := by
  match r with
  | none => exact hG h
  | some (c, x) => exact erC.pre q hP h
set_option maxRecDepth 100000 in
set_option maxHeartbeats 4000000 in
theorem sp_parseRow {σ : am_G} {n : Nat} {B : List Int32} {t : am_T} {h w rt : Nat} {f : am_Gr} (hB : iC σ n B) (hb : tkB n t) (hT : tkC σ t) (hR : σ.1 13 0 = nI rt) (hrt6 : rt ≤ 6) (hv : vM σ 4 h w f) (hrt : rt < h) : am_Call am_TX 6 0 c_Parser_parseRow [.ref 13] (mm σ) (am_Ok (some (.int (zP ((rE B n w (nx B n t) w 0).isNone = true)))) (fun σ1 => rPost σ σ1 (rE B n w (nx B n t) w 0) (smP pRw σ σ1 ∧ tkC σ1 (rS B n (nx B n t) w) ∧ vM σ1 4 h w (rF B n f rt (nx B n t) w) ∧ σ1.1 13 0 = nI (rt + 1)))) := by
  have hh := hv.1.2
  have hw := hv.2.1.2
  refine ⟨mf_Parser_parseRow, Nat.le_of_ble_eq_true rfl, ?_⟩
  refine R_aload_n rfl rfl ?_
  refine R_gIN (n := rt) rfl rfl fd_6_0 hR ?_
  refine R_aload_n rfl rfl ?_
  refine R_gP (x := 3) rfl rfl fp_6_4 rfl ?_
  refine R_gP (x := 4) rfl rfl fp_9_0 rfl ?_
  refine R_gIN (n := h) rfl rfl fd_4_0 hv.1.1 ?_
  refine R_nicmp_lt (x := rt) (y := h) rfl rfl (by omega) (by omega) (fun h1 => ?_) (fun z => by omega)
  refine R_aload_n rfl rfl ?_
  refine R_cV (as := []) rfl rfl iv_Parser_next (sp_nextT hB hb hT) (by decide) rfl rfl rfl (by decide) rfl rfl (Nat.le_of_ble_eq_true rfl) (fun τ1 hτ1 => ?_)
  obtain ⟨p1, k1⟩ := hτ1
  refine R_iconst (v := 0) rfl rfl ?_
  refine R_istore_n rfl (by decide) ?_
  have q := fun k0 => lp_row (f := f) (rt := rt) (h := h) (w := w) (t0 := nx B n t) (d := 6) (k0 := k0) (hB.fr p1 (fun b => by unfold pP; omega)) (nx_b hb) hh hw hrt (by omega) w 0 τ1 (by omega) ⟨smP.refl, k1, p1.vM hv (fun b => by unfold pP; omega) (fun b => by unfold pP; omega), (p1.i (by unfold pP; omega)).trans hR⟩
  exact (am_R.mono (q _) (am_Ok.mono fun τ' e => rPost.pre (pP_pE p1) pE_14 (fun z => ⟨(pE_pRw (pP_pE p1)).trans z.1, z.2⟩) e)).weak ⟨rfl, rfl, trivial⟩
set_option maxRecDepth 100000 in
set_option maxHeartbeats 4000000 in
theorem sp_parseRow_x {σ : am_G} {n : Nat} {B : List Int32} {t : am_T} {h w rt : Nat} {f : am_Gr} (hB : iC σ n B) (hb : tkB n t) (hT : tkC σ t) (hR : σ.1 13 0 = nI rt) (hrt6 : rt ≤ 6) (hv : vM σ 4 h w f) (hrt : ¬ rt < h) : am_Call am_TX 6 0 c_Parser_parseRow [.ref 13] (mm σ) (am_Ok (some (.int 0)) (fun σ1 => σ1 = flS σ 5 (nI t.1))) := by
  have hh := hv.1.2
  refine ⟨mf_Parser_parseRow, Nat.le_of_ble_eq_true rfl, ?_⟩
  refine R_aload_n rfl rfl ?_
  refine R_gIN (n := rt) rfl rfl fd_6_0 hR ?_
  refine R_aload_n rfl rfl ?_
  refine R_gP (x := 3) rfl rfl fp_6_4 rfl ?_
  refine R_gP (x := 4) rfl rfl fp_9_0 rfl ?_
  refine R_gIN (n := h) rfl rfl fd_4_0 hv.1.1 ?_
  refine R_nicmp_lt (x := rt) (y := h) rfl rfl (by omega) (by omega) (fun z => by omega) (fun h1 => ?_)
  refine R_aload_n rfl rfl ?_
  refine R_iconst (v := 5) rfl rfl ?_
  refine R_cV (as := [.int 5]) rfl rfl iv_Parser_fail (sp_fail hT.1) (by decide) rfl rfl rfl (by decide) rfl rfl (Nat.le_of_ble_eq_true rfl) (fun _ q => ?_)
  obtain rfl := q.symm
  exact T_zreturn rfl rfl rfl (am_oki rfl rfl)

