/-! ===== a prime of the text ===== -/
theorem tkC.fr {P : Nat → Nat → Prop} {σ σ1 : am_G} {t : am_T} (q : smP P σ σ1) (h : tkC σ t) (hp : ∀ b, ¬ P 13 b) : tkC σ1 t :=
  ⟨(q.i (hp _)).trans h.1, (q.i (hp _)).trans h.2.1, (q.i (hp _)).trans h.2.2.1, fun z => (q.i (hp _)).trans (h.2.2.2 z)⟩
/-- the fault of a prime, if there is one -/
def pmE (B : List Int32) (n : Nat) (P : Nat → Nat) (pn : Nat) (t : am_T) : Option (Nat × Nat) :=
  if ckN 2 97 (nx B n t) = 0 then
    (if (nx B n t).2.2.2 ∈ prL then
      (if ∃ j, j < pn ∧ P j = (nx B n t).2.2.2 then some (4, (nx B n t).1)
        else if isSy B 59 (nx B n (nx B n t)) then none else some (1, (nx B n (nx B n t)).1))
      else some (3, (nx B n t).1))
  else some (ckN 2 97 (nx B n t), (nx B n t).1)
def pPm (pn a b : Nat) : Prop := (a = 13 ∧ 5 ≤ b) ∨ (a = 3 ∧ b = 3) ∨ (a = 12 ∧ b = pn)
theorem pPm_14 {pn : Nat} : ∀ a b, pPm pn a b → 3 ≤ a ∧ a < 14 := fun a b h => by unfold pPm at h; omega
theorem nI_i {a b : Nat} (ha : a < 2 ^ 31) (hb : b < 2 ^ 31) (h : nI a = nI b) : a = b := by
  have e := congrArg Int32.toInt h
  rw [nI_toInt ha, nI_toInt hb] at e
  omega
theorem hasP_i {σ : am_G} {pn x : Nat} {P : Nat → Nat} (hP : ∀ j, j < pn → σ.1 12 j = nI (P j) ∧ P j ≤ 97) (hx : x ≤ 1000) : (∃ j, j < pn ∧ σ.1 (3 + 9) j = nI x) ↔ ∃ j, j < pn ∧ P j = x := by
  constructor
  · rintro ⟨j, hj, e⟩
    refine ⟨j, hj, ?_⟩
    have h := hP j hj
    exact nI_i (by omega) (by omega) (h.1.symm.trans e)
  · rintro ⟨j, hj, e⟩
    exact ⟨j, hj, by rw [← e]; exact (hP j hj).1⟩
set_option maxRecDepth 100000 in
set_option maxHeartbeats 4000000 in
theorem sp_parsePrime {σ : am_G} {n : Nat} {B : List Int32} {t : am_T} {pn : Nat} {P : Nat → Nat} (hB : iC σ n B) (hb : tkB n t) (hT : tkC σ t) (hp : σ.1 3 3 = nI pn) (hp6 : pn ≤ 6) (hP : ∀ j, j < pn → σ.1 12 j = nI (P j) ∧ P j ≤ 97) (hp6x : pn < 6) : am_Call am_TX 5 0 c_Parser_parsePrime [.ref 13] (mm σ) (am_Ok (some (.int (zP ((pmE B n P pn t).isNone = true)))) (fun σ1 => rPost σ σ1 (pmE B n P pn t) (smP (pPm pn) σ σ1 ∧ tkC σ1 (nx B n (nx B n (nx B n t))) ∧ σ1.1 3 3 = nI (pn + 1) ∧ σ1.1 12 pn = nI (nx B n t).2.2.2 ∧ (nx B n t).2.2.2 ∈ prL))) := by
  refine ⟨mf_Parser_parsePrime, Nat.le_of_ble_eq_true rfl, ?_⟩
  refine R_aload_n rfl rfl ?_
  refine R_gP (x := 3) rfl rfl fp_6_4 rfl ?_
  refine R_gIN (n := pn) rfl rfl fd_9_3 hp ?_
  refine R_bipush (v := 6) rfl (by decide) ?_
  refine R_nicmp_lt (x := pn) (y := 6) rfl rfl (by omega) (by omega) (fun g1 => ?_) (fun z => by omega)
  refine R_aload_n rfl rfl ?_
  refine R_cV (as := []) rfl rfl iv_Parser_next (sp_nextT hB hb hT) (by decide) rfl rfl rfl (by decide) rfl rfl (Nat.le_of_ble_eq_true rfl) (fun τ1 hτ1 => ?_)
  obtain ⟨p1, k1⟩ := hτ1
  have b1 := (nx_b (B := B) hb).2.1
  refine R_aload_n rfl rfl ?_
  refine R_iconst (v := 2) rfl rfl ?_
  refine R_bipush (v := 97) rfl (by decide) ?_
  by_cases g2 : ckN 2 97 (nx B n t) = 0
  · refine R_cV (as := [.int 2, .int 97]) rfl rfl iv_Parser_isNumberFrom (sp_isNumberFrom k1 ⟨(nx_b hb).1, (nx_b hb).2.1⟩ (by decide) (by decide) g2) (by decide) rfl rfl rfl (by decide) rfl rfl (Nat.le_of_ble_eq_true rfl) (fun _ q => ?_)
    obtain rfl := q.symm
    have hk := ckN_0 g2
    refine R_if_ne rfl rfl (fun _ => ?_) (fun z => absurd z (by decide))
    refine R_aload_n rfl rfl ?_
    refine R_gIN (n := (nx B n t).2.2.2) rfl rfl fd_6_8 (k1.2.2.2 hk.1) ?_
    refine R_cN (as := [.int (nI ((nx B n t).2.2.2))]) rfl rfl iv_D_isPrime (sp_prime (n := (nx B n t).2.2.2) (by omega) (by omega)) (by decide) rfl rfl rfl rfl (Nat.le_of_ble_eq_true rfl) (fun _ q => ?_)
    obtain rfl := q.symm
    refine R_zif_ne rfl rfl (fun g3 => ?_) (fun g3 => ?_)
    · refine R_aload_n rfl rfl ?_
      refine R_gP (x := 3) rfl rfl fp_6_4 rfl ?_
      refine R_aload_n rfl rfl ?_
      refine R_gIN (n := (nx B n t).2.2.2) rfl rfl fd_6_8 (k1.2.2.2 hk.1) ?_
      by_cases g4 : ∃ j, j < pn ∧ P j = (nx B n t).2.2.2
      · refine R_cV (as := [.int (nI ((nx B n t).2.2.2))]) rfl rfl iv_State_hasPrime ((by have z := sp_hasPrime (σ := τ1) (s := 3) (pn := pn) (x := nI (nx B n t).2.2.2) isState_3 ((p1.i (by unfold pP; omega)).trans hp) hp6; rw [zP_t ((hasP_i (σ := τ1) (fun j hj => ⟨(p1.i (by unfold pP; omega)).trans (hP j hj).1, (hP j hj).2⟩) (by omega)).mpr g4)] at z; exact z)) (by decide) rfl rfl rfl (by decide) rfl rfl (Nat.le_of_ble_eq_true rfl) (fun _ q => ?_)
        obtain rfl := q.symm
        refine R_if_eq rfl rfl (fun z => absurd z (by decide)) (fun _ => ?_)
        refine R_aload_n rfl rfl ?_
        refine R_iconst (v := 4) rfl rfl ?_
        refine R_cV (as := [.int 4]) rfl rfl iv_Parser_fail (sp_fail k1.1) (by decide) rfl rfl rfl (by decide) rfl rfl (Nat.le_of_ble_eq_true rfl) (fun _ q => ?_)
        obtain rfl := q.symm
        rw [show pmE B n P pn t = some (4, (nx B n t).1) from by unfold pmE; rw [if_pos g2, if_pos g3]; exact if_pos g4]
        exact T_zreturn rfl rfl rfl (am_oki rfl (erC.pre p1 (fun a b h => by unfold pP at h; omega) (erC_fl smP.refl)))
      · refine R_cV (as := [.int (nI ((nx B n t).2.2.2))]) rfl rfl iv_State_hasPrime ((by have z := sp_hasPrime (σ := τ1) (s := 3) (pn := pn) (x := nI (nx B n t).2.2.2) isState_3 ((p1.i (by unfold pP; omega)).trans hp) hp6; rw [zP_f (fun y => g4 ((hasP_i (σ := τ1) (fun j hj => ⟨(p1.i (by unfold pP; omega)).trans (hP j hj).1, (hP j hj).2⟩) (by omega)).mp y))] at z; exact z)) (by decide) rfl rfl rfl (by decide) rfl rfl (Nat.le_of_ble_eq_true rfl) (fun _ q => ?_)
        obtain rfl := q.symm
        refine R_if_eq rfl rfl (fun _ => ?_) (fun z => absurd z (by decide))
        refine R_aload_n rfl rfl ?_
        refine R_gP (x := 3) rfl rfl fp_6_4 rfl ?_
        refine R_aload_n rfl rfl ?_
        refine R_gIN (n := (nx B n t).2.2.2) rfl rfl fd_6_8 (k1.2.2.2 hk.1) ?_
        refine R_cV (as := [.int (nI ((nx B n t).2.2.2))]) rfl rfl iv_State_addPrime (sp_addPrime (s := 3) isState_3 ((p1.i (by unfold pP; omega)).trans hp) hp6x) (by decide) rfl rfl rfl (by decide) rfl rfl (Nat.le_of_ble_eq_true rfl) (fun _ q => ?_)
        obtain rfl := q.symm
        refine R_aload_n rfl rfl ?_
        refine R_cV (as := []) rfl rfl iv_Parser_next (sp_nextT (t := (nx B n t)) ((hB.fr p1 (fun b => by unfold pP; omega)).fr ((smP_sI (p := fun a b => (a = 3 ∧ b = 3) ∨ (a = 12 ∧ b = pn)) (k := 12) (j := pn) (x := nI (nx B n t).2.2.2) (Or.inr ⟨rfl, rfl⟩)).trans (smP_sI (k := 3) (j := 3) (x := nI (pn + 1)) (Or.inl ⟨rfl, rfl⟩))) (fun b => by omega)) (nx_b hb) (k1.fr ((smP_sI (p := fun a b => (a = 3 ∧ b = 3) ∨ (a = 12 ∧ b = pn)) (k := 12) (j := pn) (x := nI (nx B n t).2.2.2) (Or.inr ⟨rfl, rfl⟩)).trans (smP_sI (k := 3) (j := 3) (x := nI (pn + 1)) (Or.inl ⟨rfl, rfl⟩))) (fun b => by omega))) (by decide) rfl rfl rfl (by decide) rfl rfl (Nat.le_of_ble_eq_true rfl) (fun τ2 hτ2 => ?_)
        obtain ⟨p2, k2⟩ := hτ2
        have q3 : smP (fun a b => (a = 3 ∧ b = 3) ∨ (a = 12 ∧ b = pn)) τ1 (sI (sI τ1 12 pn (nI (nx B n t).2.2.2)) 3 3 (nI (pn + 1))) := ((smP_sI (p := fun a b => (a = 3 ∧ b = 3) ∨ (a = 12 ∧ b = pn)) (k := 12) (j := pn) (x := nI (nx B n t).2.2.2) (Or.inr ⟨rfl, rfl⟩)).trans (smP_sI (k := 3) (j := 3) (x := nI (pn + 1)) (Or.inl ⟨rfl, rfl⟩)))
        refine R_aload_n rfl rfl ?_
        refine R_bipush (v := 59) rfl (by decide) ?_
        by_cases g5 : isSy B 59 (nx B n (nx B n t))
        · refine R_cV (as := [.int 59]) rfl rfl iv_Parser_passSymbol (sp_passSymbol (t := (nx B n (nx B n t))) (((hB.fr p1 (fun b => by unfold pP; omega)).fr q3 (fun b => by omega)).fr p2 (fun b => by unfold pP; omega)) (nx_b (nx_b hb)) k2 g5) (by decide) rfl rfl rfl (by decide) rfl rfl (Nat.le_of_ble_eq_true rfl) (fun ν hν => ?_)
          obtain ⟨p4, k4⟩ := hν
          rw [show pmE B n P pn t = none from by unfold pmE; rw [if_pos g2, if_pos g3, if_neg g4]; exact if_pos g5]
          exact T_zreturn rfl rfl rfl (am_oki rfl ⟨((p1.mono (fun a b => by unfold pP pPm; omega)).trans (q3.mono (fun a b => by unfold pPm; omega))).trans ((p2.mono (fun a b => by unfold pP pPm; omega)).trans (p4.mono (fun a b => by unfold pP pPm; omega))), k4, (p4.i (by unfold pP; omega)).trans ((p2.i (by unfold pP; omega)).trans sI_s), (p4.i (by unfold pP; omega)).trans ((p2.i (by unfold pP; omega)).trans ((sI_o (Or.inl (by decide))).trans sI_s)), g3⟩)
        · refine R_cV (as := [.int 59]) rfl rfl iv_Parser_passSymbol (sp_passSymbol_x (t := (nx B n (nx B n t))) (((hB.fr p1 (fun b => by unfold pP; omega)).fr q3 (fun b => by omega)).fr p2 (fun b => by unfold pP; omega)) (nx_b (nx_b hb)) k2 g5) (by decide) rfl rfl rfl (by decide) rfl rfl (Nat.le_of_ble_eq_true rfl) (fun _ q => ?_)
          obtain rfl := q.symm
          rw [show pmE B n P pn t = some (1, (nx B n (nx B n t)).1) from by unfold pmE; rw [if_pos g2, if_pos g3, if_neg g4]; exact if_neg g5]
          exact T_zreturn rfl rfl rfl (am_oki rfl (erC.pre (((p1.mono (fun a b => by unfold pP pPm; omega)).trans (q3.mono (fun a b => by unfold pPm; omega))).trans (p2.mono (fun a b => by unfold pP pPm; omega)) : smP (pPm pn) σ τ2) pPm_14 (erC_fl smP.refl)))
    · refine R_aload_n rfl rfl ?_
      refine R_iconst (v := 3) rfl rfl ?_
      refine R_cV (as := [.int 3]) rfl rfl iv_Parser_fail (sp_fail k1.1) (by decide) rfl rfl rfl (by decide) rfl rfl (Nat.le_of_ble_eq_true rfl) (fun _ q => ?_)
      obtain rfl := q.symm
      rw [show pmE B n P pn t = some (3, (nx B n t).1) from by unfold pmE; rw [if_pos g2]; exact if_neg g3]
      exact T_zreturn rfl rfl rfl (am_oki rfl (erC.pre p1 (fun a b h => by unfold pP at h; omega) (erC_fl smP.refl)))
  · refine R_cV (as := [.int 2, .int 97]) rfl rfl iv_Parser_isNumberFrom (sp_isNumberFrom_x k1 ⟨(nx_b hb).1, (nx_b hb).2.1⟩ (by decide) (by decide) g2) (by decide) rfl rfl rfl (by decide) rfl rfl (Nat.le_of_ble_eq_true rfl) (fun _ q => ?_)
    obtain rfl := q.symm
    refine R_if_ne rfl rfl (fun z => absurd z (by decide)) (fun _ => ?_)
    refine R_iconst (v := 0) rfl rfl ?_
    rw [show pmE B n P pn t = some (ckN 2 97 (nx B n t), (nx B n t).1) from by unfold pmE; exact if_neg g2]
    exact T_zreturn rfl rfl rfl (am_oki rfl (erC.pre p1 (fun a b h => by unfold pP at h; omega) (erC_fl smP.refl)))
set_option maxRecDepth 100000 in
set_option maxHeartbeats 4000000 in
theorem sp_parsePrime_x {σ : am_G} {n : Nat} {B : List Int32} {t : am_T} {pn : Nat} {P : Nat → Nat} (hB : iC σ n B) (hb : tkB n t) (hT : tkC σ t) (hp : σ.1 3 3 = nI pn) (hp6 : pn ≤ 6) (hP : ∀ j, j < pn → σ.1 12 j = nI (P j) ∧ P j ≤ 97) (hp6x : ¬ pn < 6) : am_Call am_TX 5 0 c_Parser_parsePrime [.ref 13] (mm σ) (am_Ok (some (.int 0)) (fun σ1 => σ1 = flS σ 5 (nI t.1))) := by
  refine ⟨mf_Parser_parsePrime, Nat.le_of_ble_eq_true rfl, ?_⟩
  refine R_aload_n rfl rfl ?_
  refine R_gP (x := 3) rfl rfl fp_6_4 rfl ?_
  refine R_gIN (n := pn) rfl rfl fd_9_3 hp ?_
  refine R_bipush (v := 6) rfl (by decide) ?_
  refine R_nicmp_lt (x := pn) (y := 6) rfl rfl (by omega) (by omega) (fun z => by omega) (fun g1 => ?_)
  refine R_aload_n rfl rfl ?_
  refine R_iconst (v := 5) rfl rfl ?_
  refine R_cV (as := [.int 5]) rfl rfl iv_Parser_fail (sp_fail hT.1) (by decide) rfl rfl rfl (by decide) rfl rfl (Nat.le_of_ble_eq_true rfl) (fun _ q => ?_)
  obtain rfl := q.symm
  exact T_zreturn rfl rfl rfl (am_oki rfl rfl)

