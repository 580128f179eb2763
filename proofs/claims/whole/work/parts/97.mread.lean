/-! ===== the model's tokens, told as the class's ===== -/
theorem nvF_min {B : List Int32} : ∀ u i a b, b = min a 1000 → nvF 1000 B u i b = min (nvF 9999 B u i a) 1000
  | 0, _, _, _, h => h
  | u + 1, i, a, b, h => by
    simp only [nvF]
    by_cases c : isDb (ibA B i) = true
    · rw [if_pos c, if_pos c]
      exact nvF_min u (i + 1) _ _ (by omega)
    · rw [if_neg c, if_neg c]; exact h
/-- the model's token, told as the class's -/
def tmC (σ : am_G) (B : List Int32) (t : am_T) : Prop := σ.1 120 14 = nI t.2.1 ∧ σ.1 120 15 = nI t.1 ∧ σ.1 120 16 = nI t.2.2.1 ∧ (t.2.2.1 = 2 → ∃ v, σ.1 120 17 = nI v ∧ v ≤ 9999 ∧ t.2.2.2 = min v 1000) ∧ (t.2.2.1 = 3 → σ.1 120 17 = ibA B t.1)
theorem tmC.fr {P : Nat → Nat → Prop} {σ σ1 : am_G} (q : smP P σ σ1) {B : List Int32} {t : am_T} (h : tmC σ B t) (hp : ∀ b, 14 ≤ b → b < 18 → ¬ P 120 b) : tmC σ1 B t :=
  ⟨(q.i (hp 14 (by omega) (by omega))).trans h.1, (q.i (hp 15 (by omega) (by omega))).trans h.2.1, (q.i (hp 16 (by omega) (by omega))).trans h.2.2.1, fun z => by obtain ⟨v, a, b⟩ := h.2.2.2.1 z; exact ⟨v, (q.i (hp 17 (by omega) (by omega))).trans a, b⟩, fun z => (q.i (hp 17 (by omega) (by omega))).trans (h.2.2.2.2 z)⟩
theorem tmM_C {σ : am_G} {B : List Int32} {n e : Nat} (h : tmM σ B (tkF 9999 B n e)) : tmC σ B (tkF 1000 B n e) := by
  unfold tkF at h ⊢
  by_cases c1 : nxS B n e < n
  · rw [if_pos c1] at h ⊢
    by_cases c2 : isLb (ibA B (nxS B n e)) = true
    · rw [if_pos c2] at h ⊢
      exact ⟨h.1, h.2.1, h.2.2.1, fun z => absurd (show (1 : Nat) = 2 from z) (by decide), fun z => absurd (show (1 : Nat) = 3 from z) (by decide)⟩
    · rw [if_neg c2] at h ⊢
      by_cases c3 : isDb (ibA B (nxS B n e)) = true
      · rw [if_pos c3] at h ⊢
        exact ⟨h.1, h.2.1, h.2.2.1, fun _ => ⟨_, h.2.2.2.1 rfl, nvF_le _ _ _ (by omega), nvF_min _ _ _ _ rfl⟩, fun z => absurd (show (2 : Nat) = 3 from z) (by decide)⟩
      · rw [if_neg c3] at h ⊢
        exact ⟨h.1, h.2.1, h.2.2.1, fun z => absurd (show (3 : Nat) = 2 from z) (by decide), h.2.2.2.2⟩
  · rw [if_neg c1] at h ⊢
    exact ⟨h.1, h.2.1, h.2.2.1, fun z => absurd (show (0 : Nat) = 2 from z) (by decide), fun z => absurd (show (0 : Nat) = 3 from z) (by decide)⟩
/-- what reading the text touches -/
def pDm (a b : Nat) : Prop := (a = 120 ∧ 14 ≤ b ∧ b ≤ 20) ∨ a = 122
theorem pDm_d : ∀ a b, pSd a b → pDm a b := fun a b h => by unfold pSd at h; unfold pDm; omega
/-- the model reads on: no fault yet, the token -/
def tG (σ : am_G) (n : Nat) (B : List Int32) (t : am_T) : Prop := xM σ n B ∧ tkB n t ∧ tmC σ B t ∧ σ.1 120 18 = 0 ∧ σ.1 120 19 = -1
/-- the model has a fault -/
def tE (σ : am_G) (c x : Nat) : Prop := σ.1 120 18 = nI c ∧ (1 ≤ c ∧ c < 6) ∧ σ.1 120 19 = nI x
def mfl (σ : am_G) (c : Nat) (x : Nat) : am_G := sI (sI σ 120 18 (nI c)) 120 19 (nI x)
theorem mfl_q {σ : am_G} {c x : Nat} : smP pDm σ (mfl σ c x) := (smP_sI (p := pDm) (Or.inl ⟨rfl, by omega, by omega⟩)).trans (smP_sI (p := pDm) (Or.inl ⟨rfl, by omega, by omega⟩))
theorem mfl_E {σ : am_G} {c x : Nat} (h : 1 ≤ c ∧ c < 6) : tE (mfl σ c x) c x := ⟨(sI_o (Or.inr (by decide))).trans sI_s, h, sI_s⟩
theorem tG.fr {P : Nat → Nat → Prop} {σ σ1 : am_G} (q : smP P σ σ1) {n : Nat} {B : List Int32} {t : am_T} (h : tG σ n B t) (hp : ∀ b, 13 ≤ b → b < 20 → ¬ P 120 b) (hp2 : ∀ b, ¬ P 126 b) : tG σ1 n B t :=
  ⟨h.1.fr q ⟨hp 13 (by omega) (by omega), hp2⟩, h.2.1, h.2.2.1.fr q (fun b h1 h2 => hp b (by omega) (by omega)), (q.i (hp 18 (by omega) (by omega))).trans h.2.2.2.1, (q.i (hp 19 (by omega) (by omega))).trans h.2.2.2.2⟩
theorem tE.fr {P : Nat → Nat → Prop} {σ σ1 : am_G} (q : smP P σ σ1) {c x : Nat} (h : tE σ c x) (h1 : ¬ P 120 18) (h2 : ¬ P 120 19) : tE σ1 c x := ⟨(q.i h1).trans h.1, h.2.1, (q.i h2).trans h.2.2⟩
theorem good_1 {σ : am_G} (h : σ.1 120 18 = 0) : am_Call am_TX 0 0 c_M_good [.ref 120] (mm σ) (am_Ok (some (.int 1)) (fun σ1 => σ1 = σ)) := by
  have z := sp_good (σ := σ) (c := 0) h (by omega)
  rw [zP_t rfl] at z; exact z
theorem good_0 {σ : am_G} {c x : Nat} (h : tE σ c x) : am_Call am_TX 0 0 c_M_good [.ref 120] (mm σ) (am_Ok (some (.int 0)) (fun σ1 => σ1 = σ)) := by
  have z := sp_good h.1 h.2.1.2
  rw [zP_f (by have := h.2.1.1; omega)] at z; exact z
theorem sp_scanT {σ : am_G} {n : Nat} {B : List Int32} {t : am_T} (h : tG σ n B t) : am_Call am_TX 2 0 c_M_scan [.ref 120] (mm σ) (am_Ok none (fun σ1 => smP pSd σ σ1 ∧ tG σ1 n B (nx B n t))) := by
  have z := sp_scan h.1 h.2.1.2.2.2 h.2.2.1.1
  exact ⟨z.1, z.2.1, z.2.2.mono (am_Ok.mono (fun τ e => ⟨e.1, h.1.fr e.1 ⟨by unfold pSd; omega, fun b => by unfold pSd; omega⟩, nx_b h.2.1, tmM_C e.2, (e.1.i (by unfold pSd; omega)).trans h.2.2.2.1, (e.1.i (by unfold pSd; omega)).trans h.2.2.2.2⟩))⟩
theorem errs_g {σ : am_G} {n c : Nat} {B : List Int32} {t : am_T} (h : tG σ n B t) : am_Call am_TX 1 0 c_M_errs [.ref 120, .int (nI c)] (mm σ) (am_Ok none (fun σ1 => σ1 = mfl σ c t.1)) := sp_errs_0 h.2.2.2.1 h.2.2.1.2.1
theorem errs_b {σ : am_G} {c x : Nat} {y : Int32} (h : tE σ c x) : am_Call am_TX 1 0 c_M_errs [.ref 120, .int y] (mm σ) (am_Ok none (fun σ1 => σ1 = σ)) := sp_errs_1 h.1 h.2.1.2 (by have := h.2.1.1; omega)
set_option maxRecDepth 100000 in
set_option maxHeartbeats 4000000 in
theorem goOn_g {σ : am_G} {n : Nat} {B : List Int32} {t : am_T} (hg : tG σ n B t) : am_Call am_TX 3 0 c_M_goOn [.ref 120] (mm σ) (am_Ok none (fun σ1 => smP pSd σ σ1 ∧ tG σ1 n B (nx B n t))) := by
  refine ⟨mf_M_goOn, Nat.le_of_ble_eq_true rfl, ?_⟩
  refine R_aload_n rfl rfl ?_
  refine R_cV (as := []) rfl rfl iv_M_good (good_1 hg.2.2.2.1) (by omega) rfl rfl rfl (by decide) rfl rfl (Nat.le_of_ble_eq_true rfl) (fun _ q => ?_)
  obtain rfl := q.symm
  refine R_if_eq rfl rfl (fun z => absurd z (by decide)) (fun _ => ?_)
  refine R_aload_n rfl rfl ?_
  refine R_cV (as := []) rfl rfl iv_M_scan (sp_scanT hg) (by omega) rfl rfl rfl (by decide) rfl rfl (Nat.le_of_ble_eq_true rfl) (fun ρ hρ => ?_)
  obtain ⟨q1, g1⟩ := hρ
  exact T_return rfl rfl (am_okv0 ⟨q1, g1⟩)
set_option maxRecDepth 100000 in
set_option maxHeartbeats 4000000 in
theorem goOn_b {σ : am_G} {c x : Nat} (he : tE σ c x) : am_Call am_TX 3 0 c_M_goOn [.ref 120] (mm σ) (am_Ok none (fun σ1 => σ1 = σ)) := by
  refine ⟨mf_M_goOn, Nat.le_of_ble_eq_true rfl, ?_⟩
  refine R_aload_n rfl rfl ?_
  refine R_cV (as := []) rfl rfl iv_M_good (good_0 he) (by omega) rfl rfl rfl (by decide) rfl rfl (Nat.le_of_ble_eq_true rfl) (fun _ q => ?_)
  obtain rfl := q.symm
  refine R_if_eq rfl rfl (fun _ => ?_) (fun z => absurd z (by decide))
  exact T_return rfl rfl (am_okv0 rfl)
set_option maxRecDepth 100000 in
set_option maxHeartbeats 4000000 in
theorem takes_1 {σ : am_G} {n : Nat} {B : List Int32} {t : am_T} {c : Int32} (hg : tG σ n B t) (hs : isSy B c t) : am_Call am_TX 3 0 c_M_takes [.ref 120, .int c] (mm σ) (am_Ok (some (.int 1)) (fun σ1 => smP pSd σ σ1 ∧ tG σ1 n B (nx B n t))) := by
  have h400 := hg.1.2.2.1
  have hb1 := hg.2.1.1
  have hb2 := hg.2.1.2.2.1
  have hb3 := hg.2.1.2.2.2
  refine ⟨mf_M_takes, Nat.le_of_ble_eq_true rfl, ?_⟩
  refine R_aload_n rfl rfl ?_
  refine R_cV (as := []) rfl rfl iv_M_good (good_1 hg.2.2.2.1) (by omega) rfl rfl rfl (by decide) rfl rfl (Nat.le_of_ble_eq_true rfl) (fun _ q => ?_)
  obtain rfl := q.symm
  refine R_if_eq rfl rfl (fun z => absurd z (by decide)) (fun _ => ?_)
  refine R_aload_n rfl rfl ?_
  refine R_gIN (n := t.2.2.1) rfl rfl fd_11_16 hg.2.2.1.2.2.1 ?_
  refine R_iconst (v := 3) rfl rfl ?_
  refine R_nicmp_ne (x := t.2.2.1) (y := 3) rfl rfl (by omega) (by omega) (fun z => by omega) (fun g1 => ?_)
  refine R_aload_n rfl rfl ?_
  refine R_gIX (x := (ibA B t.1)) rfl rfl fd_11_17 (hg.2.2.1.2.2.2.2 hs.1) ?_
  refine R_iload_n rfl rfl ?_
  refine R_icmp_ne rfl rfl (fun z => absurd hs.2 z) (fun g2 => ?_)
  refine R_iconst (v := 1) rfl rfl ?_
  refine R_goto rfl rfl ?_
  refine R_istore_n rfl (by decide) ?_
  refine R_iload_n rfl rfl ?_
  refine R_if_eq rfl rfl (fun z => absurd z (by decide)) (fun _ => ?_)
  refine R_aload_n rfl rfl ?_
  refine R_cV (as := []) rfl rfl iv_M_scan (sp_scanT hg) (by omega) rfl rfl rfl (by decide) rfl rfl (Nat.le_of_ble_eq_true rfl) (fun ρ hρ => ?_)
  obtain ⟨q1, g1_⟩ := hρ
  refine R_iload_n rfl rfl ?_
  exact T_zreturn rfl rfl rfl (am_oki rfl ⟨q1, g1_⟩)
set_option maxRecDepth 100000 in
set_option maxHeartbeats 4000000 in
theorem takes_0 {σ : am_G} {n : Nat} {B : List Int32} {t : am_T} {c : Int32} (hg : tG σ n B t) (hs : ¬ isSy B c t) : am_Call am_TX 3 0 c_M_takes [.ref 120, .int c] (mm σ) (am_Ok (some (.int 0)) (fun σ1 => σ1 = σ)) := by
  have h400 := hg.1.2.2.1
  have hb1 := hg.2.1.1
  have hb2 := hg.2.1.2.2.1
  have hb3 := hg.2.1.2.2.2
  refine ⟨mf_M_takes, Nat.le_of_ble_eq_true rfl, ?_⟩
  refine R_aload_n rfl rfl ?_
  refine R_cV (as := []) rfl rfl iv_M_good (good_1 hg.2.2.2.1) (by omega) rfl rfl rfl (by decide) rfl rfl (Nat.le_of_ble_eq_true rfl) (fun _ q => ?_)
  obtain rfl := q.symm
  refine R_if_eq rfl rfl (fun z => absurd z (by decide)) (fun _ => ?_)
  refine R_aload_n rfl rfl ?_
  refine R_gIN (n := t.2.2.1) rfl rfl fd_11_16 hg.2.2.1.2.2.1 ?_
  refine R_iconst (v := 3) rfl rfl ?_
  refine R_nicmp_ne (x := t.2.2.1) (y := 3) rfl rfl (by omega) (by omega) (fun g1 => ?_) (fun g1 => ?_)
  · refine R_iconst (v := 0) rfl rfl ?_
    refine R_istore_n rfl (by decide) ?_
    refine R_iload_n rfl rfl ?_
    refine R_if_eq rfl rfl (fun _ => ?_) (fun z => absurd z (by decide))
    refine R_iload_n rfl rfl ?_
    exact T_zreturn rfl rfl rfl (am_oki rfl rfl)
  · refine R_aload_n rfl rfl ?_
    refine R_gIX (x := (ibA B t.1)) rfl rfl fd_11_17 (hg.2.2.1.2.2.2.2 (Classical.byContradiction (fun z => by omega))) ?_
    refine R_iload_n rfl rfl ?_
    refine R_icmp_ne rfl rfl (fun g2 => ?_) (fun z => absurd ⟨by omega, z⟩ hs)
    refine R_iconst (v := 0) rfl rfl ?_
    refine R_istore_n rfl (by decide) ?_
    refine R_iload_n rfl rfl ?_
    refine R_if_eq rfl rfl (fun _ => ?_) (fun z => absurd z (by decide))
    refine R_iload_n rfl rfl ?_
    exact T_zreturn rfl rfl rfl (am_oki rfl rfl)
set_option maxRecDepth 100000 in
set_option maxHeartbeats 4000000 in
theorem takes_b {σ : am_G} {e x : Nat} {c : Int32} (he : tE σ e x) : am_Call am_TX 3 0 c_M_takes [.ref 120, .int c] (mm σ) (am_Ok (some (.int 0)) (fun σ1 => σ1 = σ)) := by
  refine ⟨mf_M_takes, Nat.le_of_ble_eq_true rfl, ?_⟩
  refine R_aload_n rfl rfl ?_
  refine R_cV (as := []) rfl rfl iv_M_good (good_0 he) (by omega) rfl rfl rfl (by decide) rfl rfl (Nat.le_of_ble_eq_true rfl) (fun _ q => ?_)
  obtain rfl := q.symm
  refine R_if_eq rfl rfl (fun _ => ?_) (fun z => absurd z (by decide))
  refine R_iconst (v := 0) rfl rfl ?_
  refine R_istore_n rfl (by decide) ?_
  refine R_iload_n rfl rfl ?_
  refine R_if_eq rfl rfl (fun _ => ?_) (fun z => absurd z (by decide))
  refine R_iload_n rfl rfl ?_
  exact T_zreturn rfl rfl rfl (am_oki rfl rfl)
set_option maxRecDepth 100000 in
set_option maxHeartbeats 4000000 in
theorem need_1 {σ : am_G} {n : Nat} {B : List Int32} {t : am_T} {c : Int32} (hg : tG σ n B t) (hs : isSy B c t) : am_Call am_TX 4 0 c_M_need [.ref 120, .int c] (mm σ) (am_Ok none (fun σ1 => smP pSd σ σ1 ∧ tG σ1 n B (nx B n t))) := by
  refine ⟨mf_M_need, Nat.le_of_ble_eq_true rfl, ?_⟩
  refine R_aload_n rfl rfl ?_
  refine R_iload_n rfl rfl ?_
  refine R_cV (as := [.int c]) rfl rfl iv_M_takes (takes_1 hg hs) (by omega) rfl rfl rfl (by decide) rfl rfl (Nat.le_of_ble_eq_true rfl) (fun ρ hρ => ?_)
  obtain ⟨q1, g1_⟩ := hρ
  refine R_if_ne rfl rfl (fun _ => ?_) (fun z => absurd z (by decide))
  exact T_return rfl rfl (am_okv0 ⟨q1, g1_⟩)
set_option maxRecDepth 100000 in
set_option maxHeartbeats 4000000 in
theorem need_0 {σ : am_G} {n : Nat} {B : List Int32} {t : am_T} {c : Int32} (hg : tG σ n B t) (hs : ¬ isSy B c t) : am_Call am_TX 4 0 c_M_need [.ref 120, .int c] (mm σ) (am_Ok none (fun σ1 => σ1 = mfl σ 1 t.1)) := by
  refine ⟨mf_M_need, Nat.le_of_ble_eq_true rfl, ?_⟩
  refine R_aload_n rfl rfl ?_
  refine R_iload_n rfl rfl ?_
  refine R_cV (as := [.int c]) rfl rfl iv_M_takes (takes_0 hg hs) (by omega) rfl rfl rfl (by decide) rfl rfl (Nat.le_of_ble_eq_true rfl) (fun _ q => ?_)
  obtain rfl := q.symm
  refine R_if_ne rfl rfl (fun z => absurd z (by decide)) (fun _ => ?_)
  refine R_aload_n rfl rfl ?_
  refine R_iconst (v := 1) rfl rfl ?_
  refine R_cV (as := [.int 1]) rfl rfl iv_M_errs (errs_g (c := 1) hg) (by omega) rfl rfl rfl (by decide) rfl rfl (Nat.le_of_ble_eq_true rfl) (fun _ q => ?_)
  obtain rfl := q.symm
  exact T_return rfl rfl (am_okv0 rfl)
set_option maxRecDepth 100000 in
set_option maxHeartbeats 4000000 in
theorem need_b {σ : am_G} {e x : Nat} {c : Int32} (he : tE σ e x) : am_Call am_TX 4 0 c_M_need [.ref 120, .int c] (mm σ) (am_Ok none (fun σ1 => σ1 = σ)) := by
  refine ⟨mf_M_need, Nat.le_of_ble_eq_true rfl, ?_⟩
  refine R_aload_n rfl rfl ?_
  refine R_iload_n rfl rfl ?_
  refine R_cV (as := [.int c]) rfl rfl iv_M_takes (takes_b he) (by omega) rfl rfl rfl (by decide) rfl rfl (Nat.le_of_ble_eq_true rfl) (fun _ q => ?_)
  obtain rfl := q.symm
  refine R_if_ne rfl rfl (fun z => absurd z (by decide)) (fun _ => ?_)
  refine R_aload_n rfl rfl ?_
  refine R_iconst (v := 1) rfl rfl ?_
  refine R_cV (as := [.int 1]) rfl rfl iv_M_errs (errs_b he) (by omega) rfl rfl rfl (by decide) rfl rfl (Nat.le_of_ble_eq_true rfl) (fun _ q => ?_)
  obtain rfl := q.symm
  exact T_return rfl rfl (am_okv0 rfl)
theorem ck_v {σ : am_G} {n lo hi : Nat} {B : List Int32} {t : am_T} (hg : tG σ n B t) (hh : hi ≤ 100) (h0 : ckN lo hi t = 0) : t.2.2.1 = 2 ∧ lo ≤ t.2.2.2 ∧ t.2.2.2 ≤ hi ∧ σ.1 120 17 = nI t.2.2.2 := by
  unfold ckN at h0
  by_cases c : t.2.2.1 = 2
  · rw [if_pos c] at h0
    by_cases e : lo ≤ t.2.2.2 ∧ t.2.2.2 ≤ hi
    · obtain ⟨v, a, b, k⟩ := hg.2.2.1.2.2.2.1 c
      exact ⟨c, e.1, e.2, by rw [a]; congr 1; omega⟩
    · rw [if_neg e] at h0; exact absurd h0 (by decide)
  · rw [if_neg c] at h0; exact absurd h0 (by decide)
theorem in_n {σ : am_G} {v lo hi : Nat} {b : Bool} (hv : v < 2 ^ 31) (hlo : lo < 2 ^ 31) (hhi : hi < 2 ^ 31) (hb : b = true ↔ lo ≤ v ∧ v ≤ hi) : am_Call am_TX 0 0 c_M_in [.long (nI v).toInt64, .long (nI lo).toInt64, .long (nI hi).toInt64] (mm σ) (am_Ok (some (.int (if b then 1 else 0))) (fun σ1 => σ1 = σ)) := by
  cases b with
  | true =>
    have e := hb.mp rfl
    exact in_1 (a := nI lo) (b := nI hi) (by rw [Int32.le_iff_toInt_le, Int32.le_iff_toInt_le, nI_toInt hv, nI_toInt hlo, nI_toInt hhi]; omega) rfl rfl
  | false =>
    have e : ¬ (lo ≤ v ∧ v ≤ hi) := fun z => absurd (hb.mpr z) (by decide)
    exact in_0 (a := nI lo) (b := nI hi) (by rw [Int32.le_iff_toInt_le, Int32.le_iff_toInt_le, nI_toInt hv, nI_toInt hlo, nI_toInt hhi]; omega) rfl rfl
set_option maxRecDepth 100000 in
set_option maxHeartbeats 4000000 in
theorem numH_1 {σ : am_G} {lo hi : Nat} {n : Nat} {B : List Int32} {t : am_T} (hg : tG σ n B t) (hlo : lo ≤ 100) (hhi : hi ≤ 100) (h0 : ckN lo hi t = 0) : am_Call am_TX 3 0 c_M_numberHere [.ref 120, .int (nI lo), .int (nI hi)] (mm σ) (am_Ok (some (.int (nI t.2.2.2))) (fun σ1 => σ1 = σ)) := by
  have h400 := hg.1.2.2.1
  have hb1 := hg.2.1.1
  have hb2 := hg.2.1.2.2.1
  have hb3 := hg.2.1.2.2.2
  obtain ⟨k1, k2, k3, k4⟩ := ck_v hg hhi h0
  refine ⟨mf_M_numberHere, Nat.le_of_ble_eq_true rfl, ?_⟩
  refine R_aload_n rfl rfl ?_
  refine R_cV (as := []) rfl rfl iv_M_good (good_1 hg.2.2.2.1) (by omega) rfl rfl rfl (by decide) rfl rfl (Nat.le_of_ble_eq_true rfl) (fun _ q => ?_)
  obtain rfl := q.symm
  refine R_if_eq rfl rfl (fun z => absurd z (by decide)) (fun _ => ?_)
  refine R_aload_n rfl rfl ?_
  refine R_gIN (n := t.2.2.1) rfl rfl fd_11_16 hg.2.2.1.2.2.1 ?_
  refine R_iconst (v := 2) rfl rfl ?_
  refine R_nicmp_eq (x := t.2.2.1) (y := 2) rfl rfl (by omega) (by omega) (fun g1 => ?_) (fun z => by omega)
  refine R_aload_n rfl rfl ?_
  refine R_cV (as := []) rfl rfl iv_M_good (good_1 hg.2.2.2.1) (by omega) rfl rfl rfl (by decide) rfl rfl (Nat.le_of_ble_eq_true rfl) (fun _ q => ?_)
  obtain rfl := q.symm
  refine R_if_eq rfl rfl (fun z => absurd z (by decide)) (fun _ => ?_)
  refine R_aload_n rfl rfl ?_
  refine R_gIN (n := t.2.2.2) rfl rfl fd_11_17 k4 ?_
  refine R_i2l rfl ?_
  refine R_iload_n rfl rfl ?_
  refine R_i2l rfl ?_
  refine R_iload_n rfl rfl ?_
  refine R_i2l rfl ?_
  refine R_cS (as := [.long ((nI t.2.2.2).toInt64), .long ((nI lo).toInt64), .long ((nI hi).toInt64)]) rfl rfl iv_M_in (in_n (b := true) (by omega) (by omega) (by omega) ⟨fun _ => ⟨k2, k3⟩, fun _ => rfl⟩) (by omega) rfl rfl rfl rfl (Nat.le_of_ble_eq_true rfl) (fun _ q => ?_)
  obtain rfl := q.symm
  refine R_if_ne rfl rfl (fun _ => ?_) (fun z => absurd z (by decide))
  refine R_aload_n rfl rfl ?_
  refine R_cV (as := []) rfl rfl iv_M_good (good_1 hg.2.2.2.1) (by omega) rfl rfl rfl (by decide) rfl rfl (Nat.le_of_ble_eq_true rfl) (fun _ q => ?_)
  obtain rfl := q.symm
  refine R_if_eq rfl rfl (fun z => absurd z (by decide)) (fun _ => ?_)
  refine R_aload_n rfl rfl ?_
  refine R_gIN (n := t.2.2.2) rfl rfl fd_11_17 k4 ?_
  refine R_goto rfl rfl ?_
  exact T_ireturn rfl rfl (am_oki rfl rfl)
set_option maxRecDepth 100000 in
set_option maxHeartbeats 4000000 in
theorem numH_n {σ : am_G} {lo hi : Nat} {n : Nat} {B : List Int32} {t : am_T} (hg : tG σ n B t) (h0 : ¬ t.2.2.1 = 2) : am_Call am_TX 3 0 c_M_numberHere [.ref 120, .int (nI lo), .int (nI hi)] (mm σ) (am_Ok (some (.int (nI lo))) (fun σ1 => σ1 = mfl σ 1 t.1)) := by
  have h400 := hg.1.2.2.1
  have hb1 := hg.2.1.1
  have hb2 := hg.2.1.2.2.1
  have hb3 := hg.2.1.2.2.2
  refine ⟨mf_M_numberHere, Nat.le_of_ble_eq_true rfl, ?_⟩
  refine R_aload_n rfl rfl ?_
  refine R_cV (as := []) rfl rfl iv_M_good (good_1 hg.2.2.2.1) (by omega) rfl rfl rfl (by decide) rfl rfl (Nat.le_of_ble_eq_true rfl) (fun _ q => ?_)
  obtain rfl := q.symm
  refine R_if_eq rfl rfl (fun z => absurd z (by decide)) (fun _ => ?_)
  refine R_aload_n rfl rfl ?_
  refine R_gIN (n := t.2.2.1) rfl rfl fd_11_16 hg.2.2.1.2.2.1 ?_
  refine R_iconst (v := 2) rfl rfl ?_
  refine R_nicmp_eq (x := t.2.2.1) (y := 2) rfl rfl (by omega) (by omega) (fun z => by omega) (fun g1 => ?_)
  refine R_aload_n rfl rfl ?_
  refine R_iconst (v := 1) rfl rfl ?_
  refine R_cV (as := [.int 1]) rfl rfl iv_M_errs (errs_g (c := 1) hg) (by omega) rfl rfl rfl (by decide) rfl rfl (Nat.le_of_ble_eq_true rfl) (fun _ q => ?_)
  obtain rfl := q.symm
  refine R_aload_n rfl rfl ?_
  refine R_cV (as := []) rfl rfl iv_M_good (good_0 (mfl_E (σ := σ) (x := t.1) (by omega))) (by omega) rfl rfl rfl (by decide) rfl rfl (Nat.le_of_ble_eq_true rfl) (fun _ q => ?_)
  obtain rfl := q.symm
  refine R_if_eq rfl rfl (fun _ => ?_) (fun z => absurd z (by decide))
  refine R_aload_n rfl rfl ?_
  refine R_cV (as := []) rfl rfl iv_M_good (good_0 (mfl_E (σ := σ) (x := t.1) (by omega))) (by omega) rfl rfl rfl (by decide) rfl rfl (Nat.le_of_ble_eq_true rfl) (fun _ q => ?_)
  obtain rfl := q.symm
  refine R_if_eq rfl rfl (fun _ => ?_) (fun z => absurd z (by decide))
  refine R_iload_n rfl rfl ?_
  exact T_ireturn rfl rfl (am_oki rfl rfl)
set_option maxRecDepth 100000 in
set_option maxHeartbeats 4000000 in
theorem numH_r {σ : am_G} {lo hi v : Nat} {n : Nat} {B : List Int32} {t : am_T} (hg : tG σ n B t) (hlo : lo ≤ 100) (hhi : hi ≤ 100) (h2 : t.2.2.1 = 2) (hv : σ.1 120 17 = nI v) (hv9 : v ≤ 9999) (hr : ¬ (lo ≤ v ∧ v ≤ hi)) : am_Call am_TX 3 0 c_M_numberHere [.ref 120, .int (nI lo), .int (nI hi)] (mm σ) (am_Ok (some (.int (nI lo))) (fun σ1 => σ1 = mfl σ 2 t.1)) := by
  have h400 := hg.1.2.2.1
  have hb1 := hg.2.1.1
  have hb2 := hg.2.1.2.2.1
  have hb3 := hg.2.1.2.2.2
  refine ⟨mf_M_numberHere, Nat.le_of_ble_eq_true rfl, ?_⟩
  refine R_aload_n rfl rfl ?_
  refine R_cV (as := []) rfl rfl iv_M_good (good_1 hg.2.2.2.1) (by omega) rfl rfl rfl (by decide) rfl rfl (Nat.le_of_ble_eq_true rfl) (fun _ q => ?_)
  obtain rfl := q.symm
  refine R_if_eq rfl rfl (fun z => absurd z (by decide)) (fun _ => ?_)
  refine R_aload_n rfl rfl ?_
  refine R_gIN (n := t.2.2.1) rfl rfl fd_11_16 hg.2.2.1.2.2.1 ?_
  refine R_iconst (v := 2) rfl rfl ?_
  refine R_nicmp_eq (x := t.2.2.1) (y := 2) rfl rfl (by omega) (by omega) (fun g1 => ?_) (fun z => by omega)
  refine R_aload_n rfl rfl ?_
  refine R_cV (as := []) rfl rfl iv_M_good (good_1 hg.2.2.2.1) (by omega) rfl rfl rfl (by decide) rfl rfl (Nat.le_of_ble_eq_true rfl) (fun _ q => ?_)
  obtain rfl := q.symm
  refine R_if_eq rfl rfl (fun z => absurd z (by decide)) (fun _ => ?_)
  refine R_aload_n rfl rfl ?_
  refine R_gIN (n := v) rfl rfl fd_11_17 hv ?_
  refine R_i2l rfl ?_
  refine R_iload_n rfl rfl ?_
  refine R_i2l rfl ?_
  refine R_iload_n rfl rfl ?_
  refine R_i2l rfl ?_
  refine R_cS (as := [.long ((nI v).toInt64), .long ((nI lo).toInt64), .long ((nI hi).toInt64)]) rfl rfl iv_M_in (in_n (b := false) (by omega) (by omega) (by omega) ⟨fun z => absurd z (by decide), fun z => absurd z hr⟩) (by omega) rfl rfl rfl rfl (Nat.le_of_ble_eq_true rfl) (fun _ q => ?_)
  obtain rfl := q.symm
  refine R_if_ne rfl rfl (fun z => absurd z (by decide)) (fun _ => ?_)
  refine R_aload_n rfl rfl ?_
  refine R_iconst (v := 2) rfl rfl ?_
  refine R_cV (as := [.int 2]) rfl rfl iv_M_errs (errs_g (c := 2) hg) (by omega) rfl rfl rfl (by decide) rfl rfl (Nat.le_of_ble_eq_true rfl) (fun _ q => ?_)
  obtain rfl := q.symm
  refine R_aload_n rfl rfl ?_
  refine R_cV (as := []) rfl rfl iv_M_good (good_0 (mfl_E (σ := σ) (x := t.1) (by omega))) (by omega) rfl rfl rfl (by decide) rfl rfl (Nat.le_of_ble_eq_true rfl) (fun _ q => ?_)
  obtain rfl := q.symm
  refine R_if_eq rfl rfl (fun _ => ?_) (fun z => absurd z (by decide))
  refine R_iload_n rfl rfl ?_
  exact T_ireturn rfl rfl (am_oki rfl rfl)
theorem numH_0 {σ : am_G} {n lo hi : Nat} {B : List Int32} {t : am_T} (hg : tG σ n B t) (hlo : lo ≤ 100) (hhi : hi ≤ 100) (h0 : ¬ ckN lo hi t = 0) : am_Call am_TX 3 0 c_M_numberHere [.ref 120, .int (nI lo), .int (nI hi)] (mm σ) (am_Ok (some (.int (nI lo))) (fun σ1 => σ1 = mfl σ (ckN lo hi t) t.1)) := by
  unfold ckN at h0 ⊢
  by_cases c : t.2.2.1 = 2
  · rw [if_pos c] at h0 ⊢
    by_cases e : lo ≤ t.2.2.2 ∧ t.2.2.2 ≤ hi
    · rw [if_pos e] at h0; exact absurd rfl h0
    · rw [if_neg e]
      obtain ⟨v, a, b, k⟩ := hg.2.2.1.2.2.2.1 c
      exact numH_r hg hlo hhi c a b (by omega)
  · rw [if_neg c] at h0 ⊢
    exact numH_n hg c
theorem ck_15 {lo hi : Nat} {t : am_T} (h0 : ¬ ckN lo hi t = 0) : 1 ≤ ckN lo hi t ∧ ckN lo hi t < 6 := by
  unfold ckN at h0 ⊢
  by_cases c : t.2.2.1 = 2
  · rw [if_pos c] at h0 ⊢
    by_cases e : lo ≤ t.2.2.2 ∧ t.2.2.2 ≤ hi
    · rw [if_pos e] at h0; exact absurd rfl h0
    · rw [if_neg e]; omega
  · rw [if_neg c]; omega
set_option maxRecDepth 100000 in
set_option maxHeartbeats 4000000 in
theorem numH_b {σ : am_G} {lo hi e x : Nat} (he : tE σ e x) : am_Call am_TX 3 0 c_M_numberHere [.ref 120, .int (nI lo), .int (nI hi)] (mm σ) (am_Ok (some (.int (nI lo))) (fun σ1 => σ1 = σ)) := by
  refine ⟨mf_M_numberHere, Nat.le_of_ble_eq_true rfl, ?_⟩
  refine R_aload_n rfl rfl ?_
  refine R_cV (as := []) rfl rfl iv_M_good (good_0 he) (by omega) rfl rfl rfl (by decide) rfl rfl (Nat.le_of_ble_eq_true rfl) (fun _ q => ?_)
  obtain rfl := q.symm
  refine R_if_eq rfl rfl (fun _ => ?_) (fun z => absurd z (by decide))
  refine R_aload_n rfl rfl ?_
  refine R_cV (as := []) rfl rfl iv_M_good (good_0 he) (by omega) rfl rfl rfl (by decide) rfl rfl (Nat.le_of_ble_eq_true rfl) (fun _ q => ?_)
  obtain rfl := q.symm
  refine R_if_eq rfl rfl (fun _ => ?_) (fun z => absurd z (by decide))
  refine R_aload_n rfl rfl ?_
  refine R_cV (as := []) rfl rfl iv_M_good (good_0 he) (by omega) rfl rfl rfl (by decide) rfl rfl (Nat.le_of_ble_eq_true rfl) (fun _ q => ?_)
  obtain rfl := q.symm
  refine R_if_eq rfl rfl (fun _ => ?_) (fun z => absurd z (by decide))
  refine R_iload_n rfl rfl ?_
  exact T_ireturn rfl rfl (am_oki rfl rfl)
set_option maxRecDepth 100000 in
set_option maxHeartbeats 4000000 in
theorem num_1 {σ : am_G} {lo hi : Nat} {n : Nat} {B : List Int32} {t : am_T} (hg : tG σ n B t) (hlo : lo ≤ 100) (hhi : hi ≤ 100) (h0 : ckN lo hi t = 0) : am_Call am_TX 4 0 c_M_number [.ref 120, .int (nI lo), .int (nI hi)] (mm σ) (am_Ok (some (.int (nI t.2.2.2))) (fun σ1 => smP pSd σ σ1 ∧ tG σ1 n B (nx B n t))) := by
  refine ⟨mf_M_number, Nat.le_of_ble_eq_true rfl, ?_⟩
  refine R_aload_n rfl rfl ?_
  refine R_iload_n rfl rfl ?_
  refine R_iload_n rfl rfl ?_
  refine R_cV (as := [.int (nI lo), .int (nI hi)]) rfl rfl iv_M_numberHere (numH_1 hg hlo hhi h0) (by omega) rfl rfl rfl (by decide) rfl rfl (Nat.le_of_ble_eq_true rfl) (fun _ q => ?_)
  obtain rfl := q.symm
  refine R_istore_n rfl (by decide) ?_
  refine R_aload_n rfl rfl ?_
  refine R_cV (as := []) rfl rfl iv_M_goOn (goOn_g hg) (by omega) rfl rfl rfl (by decide) rfl rfl (Nat.le_of_ble_eq_true rfl) (fun ρ hρ => ?_)
  obtain ⟨q1, g1_⟩ := hρ
  refine R_iload_n rfl rfl ?_
  exact T_ireturn rfl rfl (am_oki rfl ⟨q1, g1_⟩)
set_option maxRecDepth 100000 in
set_option maxHeartbeats 4000000 in
theorem num_0 {σ : am_G} {lo hi : Nat} {n : Nat} {B : List Int32} {t : am_T} (hg : tG σ n B t) (hlo : lo ≤ 100) (hhi : hi ≤ 100) (h0 : ¬ ckN lo hi t = 0) : am_Call am_TX 4 0 c_M_number [.ref 120, .int (nI lo), .int (nI hi)] (mm σ) (am_Ok (some (.int (nI lo))) (fun σ1 => σ1 = mfl σ (ckN lo hi t) t.1)) := by
  refine ⟨mf_M_number, Nat.le_of_ble_eq_true rfl, ?_⟩
  refine R_aload_n rfl rfl ?_
  refine R_iload_n rfl rfl ?_
  refine R_iload_n rfl rfl ?_
  refine R_cV (as := [.int (nI lo), .int (nI hi)]) rfl rfl iv_M_numberHere (numH_0 hg hlo hhi h0) (by omega) rfl rfl rfl (by decide) rfl rfl (Nat.le_of_ble_eq_true rfl) (fun _ q => ?_)
  obtain rfl := q.symm
  refine R_istore_n rfl (by decide) ?_
  refine R_aload_n rfl rfl ?_
  refine R_cV (as := []) rfl rfl iv_M_goOn (goOn_b (mfl_E (σ := σ) (x := t.1) (ck_15 h0))) (by omega) rfl rfl rfl (by decide) rfl rfl (Nat.le_of_ble_eq_true rfl) (fun _ q => ?_)
  obtain rfl := q.symm
  refine R_iload_n rfl rfl ?_
  exact T_ireturn rfl rfl (am_oki rfl rfl)
set_option maxRecDepth 100000 in
set_option maxHeartbeats 4000000 in
theorem num_b {σ : am_G} {lo hi e x : Nat} (he : tE σ e x) : am_Call am_TX 4 0 c_M_number [.ref 120, .int (nI lo), .int (nI hi)] (mm σ) (am_Ok (some (.int (nI lo))) (fun σ1 => σ1 = σ)) := by
  refine ⟨mf_M_number, Nat.le_of_ble_eq_true rfl, ?_⟩
  refine R_aload_n rfl rfl ?_
  refine R_iload_n rfl rfl ?_
  refine R_iload_n rfl rfl ?_
  refine R_cV (as := [.int (nI lo), .int (nI hi)]) rfl rfl iv_M_numberHere (numH_b he) (by omega) rfl rfl rfl (by decide) rfl rfl (Nat.le_of_ble_eq_true rfl) (fun _ q => ?_)
  obtain rfl := q.symm
  refine R_istore_n rfl (by decide) ?_
  refine R_aload_n rfl rfl ?_
  refine R_cV (as := []) rfl rfl iv_M_goOn (goOn_b he) (by omega) rfl rfl rfl (by decide) rfl rfl (Nat.le_of_ble_eq_true rfl) (fun _ q => ?_)
  obtain rfl := q.symm
  refine R_iload_n rfl rfl ?_
  exact T_ireturn rfl rfl (am_oki rfl rfl)
