/-! ===== the whole text ===== -/
def wRo : List Int32 := [114, 111, 119]
def wPr : List Int32 := [112, 114, 105, 109, 101]
/-- what a text says: a fault, or entries, rows told, primes -/
abbrev am_Tr : Type := (Nat × Nat) ⊕ (am_Gr × Nat × (Nat → Nat) × Nat)
def prE (B : List Int32) (n h w : Nat) : Nat → am_T → am_Gr → Nat → (Nat → Nat) → Nat → am_Tr
  | 0, _, f, rt, P, pn => .inr (f, rt, P, pn)
  | u + 1, t, f, rt, P, pn =>
    if t.2.2.1 = 0 then .inr (f, rt, P, pn)
    else if isWd B wRo t then
      (if rt < h then (match rE B n w (nx B n t) w 0 with
        | none => prE B n h w u (rS B n (nx B n t) w) (rF B n f rt (nx B n t) w) (rt + 1) P pn
        | some e => .inl e) else .inl (5, t.1))
    else if isWd B wPr t then
      (if pn < 6 then (match pmE B n P pn t with
        | none => prE B n h w u (nx B n (nx B n (nx B n t))) f rt (fun j => if j = pn then (nx B n t).2.2.2 else P j) (pn + 1)
        | some e => .inl e) else .inl (5, t.1))
    else .inl (1, t.1)
def prB : am_Tr → Bool
  | .inl _ => false
  | .inr _ => true
/-- the draft -/
def dfC (σ : am_G) (h w : Nat) (f : am_Gr) (rt : Nat) (P : Nat → Nat) (pn : Nat) : Prop := ∃ I, vS σ 3 h w f (fun _ _ => 0) 0 (fun _ _ => 0) pn I ∧ (∀ j, j < 8 → I j = if j < 2 then 0 else -1) ∧ prP pn I P ∧ σ.1 13 0 = nI rt
def pPs (a b : Nat) : Prop := (a = 13 ∧ (b = 0 ∨ 5 ≤ b)) ∨ (3 ≤ a ∧ a < 13)
theorem pPs_14 : ∀ a b, pPs a b → 3 ≤ a ∧ a < 14 := fun a b h => by unfold pPs at h; omega
def pEnd (σ σ1 : am_G) (h w : Nat) (r : am_Tr) : Prop := match r with
  | .inl e => erC σ σ1 e.1 e.2
  | .inr D => smP pPs σ σ1 ∧ dfC σ1 h w D.1 D.2.1 D.2.2.1 D.2.2.2
theorem dfC_row {σ σ1 : am_G} {h w rt pn : Nat} {f f2 : am_Gr} {P : Nat → Nat} (hd : dfC σ h w f rt P pn) (q : smP pRw σ σ1) (hm : vM σ1 4 h w f2) (hr : σ1.1 13 0 = nI (rt + 1)) : dfC σ1 h w f2 (rt + 1) P pn := by
  obtain ⟨I, hv, h8, hp, -⟩ := hd
  obtain ⟨a1, a2, a3, a4, a5, a6, a7, a8, a9, a10⟩ := hv
  have n : ∀ {a b : Nat}, (a < 5 ∨ (5 < a ∧ a < 13)) → ¬ pRw a b := fun h => by unfold pRw; omega
  exact ⟨I, ⟨hm, q.vM a2 (fun b => n (by omega)) (fun b => n (by omega)), q.vM a3 (fun b => n (by omega)) (fun b => n (by omega)), ⟨(q.i (n (by omega))).trans a4.1, a4.2⟩, (q.i (n (by omega))).trans a5, (q.i (n (by omega))).trans a6, (q.i (n (by omega))).trans a7, (q.i (n (by omega))).trans a8, fun j hj => (q.i (n (by omega))).trans (a9 j hj), fun j hj => (q.i (n (by omega))).trans (a10 j hj)⟩, h8, hp, hr⟩
theorem uJ_o {I : Nat → Int32} {k j : Nat} {x : Int32} (h : j ≠ k) : uJ I k x j = I j := if_neg h
theorem uJ_s {I : Nat → Int32} {k : Nat} {x : Int32} : uJ I k x k = x := if_pos rfl
theorem dfC_prime {σ σ1 : am_G} {h w rt pn x : Nat} {f : am_Gr} {P : Nat → Nat} (hd : dfC σ h w f rt P pn) (q : smP (pPm pn) σ σ1) (h1 : σ1.1 3 3 = nI (pn + 1)) (h2 : σ1.1 12 pn = nI x) (hx : x ∈ prL) (h6 : pn < 6) : dfC σ1 h w f rt (fun j => if j = pn then x else P j) (pn + 1) := by
  obtain ⟨I, hv, h8, hp, hr⟩ := hd
  obtain ⟨a1, a2, a3, a4, a5, a6, a7, a8, a9, a10⟩ := hv
  have n : ∀ {a b : Nat}, (a < 3 ∨ (a = 3 ∧ b ≠ 3) ∨ (3 < a ∧ a < 12) ∨ (a = 12 ∧ b ≠ pn) ∨ (a = 13 ∧ b < 5)) → ¬ pPm pn a b := fun h => by unfold pPm; omega
  refine ⟨uJ I (8 + pn) (nI x), ⟨q.vM a1 (fun b => n (by omega)) (fun b => n (by omega)), q.vM a2 (fun b => n (by omega)) (fun b => n (by omega)), q.vM a3 (fun b => n (by omega)) (fun b => n (by omega)), ⟨h1, by omega⟩, ?_, ?_, ?_, ?_, fun j hj => ?_, fun j hj => ?_⟩, fun j hj => ?_, fun j hj => ?_, (q.i (n (by omega))).trans hr⟩
  · rw [uJ_o (by omega)]; exact (q.i (n (by omega))).trans a5
  · rw [uJ_o (by omega)]; exact (q.i (n (by omega))).trans a6
  · rw [uJ_o (by omega)]; exact (q.i (n (by omega))).trans a7
  · rw [uJ_o (by omega)]; exact (q.i (n (by omega))).trans a8
  · rw [uJ_o (by omega)]; exact (q.i (n (by omega))).trans (a9 j hj)
  · by_cases e : j = pn
    · subst e; rw [uJ_s]; exact h2
    · rw [uJ_o (by omega)]; exact (q.i (n (by omega))).trans (a10 j hj)
  · rw [uJ_o (by omega)]; exact h8 j hj
  · show uJ I (8 + pn) (nI x) (8 + j) = nI (if j = pn then x else P j) ∧ (if j = pn then x else P j) ∈ prL
    by_cases e : j = pn
    · subst e; rw [uJ_s, if_pos rfl]; exact ⟨rfl, hx⟩
    · rw [uJ_o (by omega), if_neg e]; exact hp j (by omega)
theorem rP_none {c : am_C} {as : List Value} {σ : am_G} {d : Nat} {r : Option (Nat × Nat)} {G : am_G → Prop} (h : am_Call am_TX d 0 c as (mm σ) (am_Ok (some (.int (zP (r.isNone = true)))) (fun σ1 => rPost σ σ1 r (G σ1)))) (e : r = none) : am_Call am_TX d 0 c as (mm σ) (am_Ok (some (.int 1)) G) := by subst e; exact h
theorem rP_some {c : am_C} {as : List Value} {σ : am_G} {d : Nat} {r : Option (Nat × Nat)} {G : am_G → Prop} (h : am_Call am_TX d 0 c as (mm σ) (am_Ok (some (.int (zP (r.isNone = true)))) (fun σ1 => rPost σ σ1 r (G σ1)))) (e : ¬ r = none) : am_Call am_TX d 0 c as (mm σ) (am_Ok (some (.int 0)) (fun σ1 => ∃ x, r = some x ∧ erC σ σ1 x.1 x.2)) := by
  match r, h, e with
  | none, _, e => exact absurd rfl e
  | some x, h, _ => exact h.mono (am_Ok.mono fun σ1 z => ⟨x, rfl, z⟩)
set_option maxRecDepth 100000 in
set_option maxHeartbeats 4000000 in
theorem lp_prs0 {σ : am_G} {n : Nat} {B : List Int32} {i d k0 : Nat} (hB : iC σ n B) (hi : i ≤ n + 1) : am_R am_TX d k0 c_Parser_parse 31 [some (.ref 13), some (.int 0), some (.int (nI i))] [] (mm σ) (am_Ok (some (.int 0)) (fun σ1 => σ1 = σ)) := by
  have h400 := hB.2.2.1
  refine R_iload_n rfl rfl ?_
  refine R_aload_n rfl rfl ?_
  refine R_gP (x := 1) rfl rfl fp_6_3 rfl ?_
  refine R_gIN (n := n) rfl rfl fd_3_0 hB.2.1 ?_
  refine R_nicmp_ge (x := i) (y := n) rfl rfl (by omega) (by omega) (fun h1 => ?_) (fun h1 => ?_)
  · refine R_iload_n rfl rfl ?_
    exact T_zreturn rfl rfl rfl (am_oki rfl rfl)
  · refine R_iload_n rfl rfl ?_
    refine R_if_eq rfl rfl (fun _ => ?_) (fun z => absurd z (by decide))
    refine R_iload_n rfl rfl ?_
    exact T_zreturn rfl rfl rfl (am_oki rfl rfl)
set_option maxRecDepth 100000 in
set_option maxHeartbeats 4000000 in
theorem lp_prs {ρ : am_G} {n h w : Nat} {B : List Int32} {d k0 : Nat} (hB : iC ρ n B) (hh : h ≤ 6) (hd : 7 ≤ d)  : ∀ (uu i : Nat) (t : am_T) (f : am_Gr) (rt : Nat) (P : Nat → Nat) (pn : Nat) (hb : tkB n t) (hrt : rt ≤ h) (τ : am_G), i + uu = n → (smP pPs ρ τ ∧ tkC τ t ∧ dfC τ h w f rt P pn) → am_R am_TX d k0 c_Parser_parse 31 [some (.ref 13), some (.int 1), some (.int (nI i))] [] (mm τ) (am_Ok (some (.int (zP (prB (prE B n h w uu t f rt P pn) = true)))) (fun σ1 => pEnd ρ σ1 h w (prE B n h w uu t f rt P pn))) := by
  have h400 := hB.2.2.1
  intro uu
  induction uu with
  | zero =>
    intro i t f rt P pn hb hrt τ hi hI
    obtain rfl : n = i := by omega
    have hb3 := hb.1
    refine R_iload_n rfl rfl ?_
    refine R_aload_n rfl rfl ?_
    refine R_gP (x := 1) rfl rfl fp_6_3 rfl ?_
    refine R_gIN (n := n) rfl rfl fd_3_0 ((hB.fr hI.1 (fun b => by unfold pPs; omega))).2.1 ?_
    refine R_nicmp_ge (x := n) (y := n) rfl rfl (by omega) (by omega) (fun g1 => ?_) (fun z => by omega)
    refine R_iload_n rfl rfl ?_
    exact T_zreturn rfl rfl rfl (am_oki rfl ⟨hI.1, hI.2.2⟩)
  | succ uu ih =>
    intro i t f rt P pn hb hrt τ hi hI
    obtain ⟨I, hD1, hD2, hD3, hD4⟩ := hI.2.2
    have hb3 := hb.1
    have hp6 := hD1.2.2.2.1.2
    refine R_iload_n rfl rfl ?_
    refine R_aload_n rfl rfl ?_
    refine R_gP (x := 1) rfl rfl fp_6_3 rfl ?_
    refine R_gIN (n := n) rfl rfl fd_3_0 ((hB.fr hI.1 (fun b => by unfold pPs; omega))).2.1 ?_
    refine R_nicmp_ge (x := i) (y := n) rfl rfl (by omega) (by omega) (fun z => by omega) (fun g1 => ?_)
    refine R_iload_n rfl rfl ?_
    refine R_if_eq rfl rfl (fun z => absurd z (by decide)) (fun _ => ?_)
    refine R_aload_n rfl rfl ?_
    refine R_gIN (n := t.2.2.1) rfl rfl fd_6_5 hI.2.1.2.2.1 ?_
    refine R_nif_eq (x := t.2.2.1) rfl rfl (by omega) (fun g2 => ?_) (fun g2 => ?_)
    · refine R_iload_n rfl rfl ?_
      rw [show prE B n h w (uu + 1) t f rt P pn = .inr (f, rt, P, pn) from by simp only [prE]; exact if_pos g2]
      exact T_zreturn rfl rfl rfl (am_oki rfl ⟨hI.1, hI.2.2⟩)
    · refine R_aload_n rfl rfl ?_
      refine R_ldcS (i := 29) rfl (List.mem_of_getElem? (i := 29) rfl) ?_
      by_cases g3 : isWd B wRo t
      · refine R_cV (as := [.ref (1000 + 29)]) rfl rfl iv_Parser_isWord ((by have z := sp_isWord (σ := τ) (t := t) (hB.fr hI.1 (fun b => by unfold pPs; omega)) hb hI.2.1 (show (29, wRo) ∈ am_SL from List.mem_of_getElem? (i := 9) rfl); rw [zP_t g3] at z; exact z)) (by omega) rfl rfl rfl (by decide) rfl rfl (Nat.le_of_ble_eq_true rfl) (fun _ q => ?_)
        obtain rfl := q.symm
        refine R_if_eq rfl rfl (fun z => absurd z (by decide)) (fun _ => ?_)
        refine R_aload_n rfl rfl ?_
        by_cases g4 : rt < h
        · by_cases g5 : rE B n w (nx B n t) w 0 = none
          · refine R_cV (as := []) rfl rfl iv_Parser_parseRow (rP_none (sp_parseRow (hB.fr hI.1 (fun b => by unfold pPs; omega)) hb hI.2.1 hD4 (by omega) hD1.1 g4) g5) (by omega) rfl rfl rfl (by decide) rfl rfl (Nat.le_of_ble_eq_true rfl) (fun μ hμ => ?_)
            obtain ⟨m1, m2, m3, m4⟩ := hμ
            refine R_istore_n rfl (by decide) ?_
            refine R_goto rfl rfl ?_
            refine R_iincN (x := i) (m := 1) rfl rfl rfl (by decide) ?_
            refine R_goto rfl rfl ?_
            rw [show prE B n h w (uu + 1) t f rt P pn = prE B n h w uu (rS B n (nx B n t) w) (rF B n f rt (nx B n t) w) (rt + 1) P pn from by simp only [prE]; rw [if_neg g2, if_pos g3, if_pos g4, g5]]
            exact (ih (i + 1) _ _ _ _ _ (rS_b (nx_b hb) w) (by omega) μ (by omega) ⟨hI.1.trans (m1.mono (fun a b => by unfold pRw pPs; omega)), m2, dfC_row hI.2.2 m1 m3 m4⟩).weak ⟨rfl, rfl, rfl, trivial⟩
          · refine R_cV (as := []) rfl rfl iv_Parser_parseRow (rP_some (sp_parseRow (hB.fr hI.1 (fun b => by unfold pPs; omega)) hb hI.2.1 hD4 (by omega) hD1.1 g4) g5) (by omega) rfl rfl rfl (by decide) rfl rfl (Nat.le_of_ble_eq_true rfl) (fun μ hμ => ?_)
            obtain ⟨x, mx, me⟩ := hμ
            refine R_istore_n rfl (by decide) ?_
            refine R_goto rfl rfl ?_
            refine R_iincN (x := i) (m := 1) rfl rfl rfl (by decide) ?_
            refine R_goto rfl rfl ?_
            rw [show prE B n h w (uu + 1) t f rt P pn = .inl x from by simp only [prE]; rw [if_neg g2, if_pos g3, if_pos g4, mx]]
            exact (am_R.mono (lp_prs0 (i := i + 1) ((hB.fr hI.1 (fun b => by unfold pPs; omega)).fr me.1 (fun b => by omega)) (by omega)) (am_Ok.mono fun σ1 z => by rw [z]; exact erC.pre hI.1 pPs_14 me)).weak ⟨rfl, rfl, rfl, trivial⟩
        · refine R_cV (as := []) rfl rfl iv_Parser_parseRow (sp_parseRow_x (hB.fr hI.1 (fun b => by unfold pPs; omega)) hb hI.2.1 hD4 (by omega) hD1.1 g4) (by omega) rfl rfl rfl (by decide) rfl rfl (Nat.le_of_ble_eq_true rfl) (fun _ q => ?_)
          obtain rfl := q.symm
          refine R_istore_n rfl (by decide) ?_
          refine R_goto rfl rfl ?_
          refine R_iincN (x := i) (m := 1) rfl rfl rfl (by decide) ?_
          refine R_goto rfl rfl ?_
          rw [show prE B n h w (uu + 1) t f rt P pn = .inl (5, t.1) from by simp only [prE]; rw [if_neg g2, if_pos g3, if_neg g4]]
          exact (am_R.mono (lp_prs0 (i := i + 1) (hB.fr (erC_f (c := 5) (x := t.1) hI.1 pPs_14).1 (fun b => by omega)) (by omega)) (am_Ok.mono fun σ1 z => by rw [z]; exact erC_f hI.1 pPs_14)).weak ⟨rfl, rfl, rfl, trivial⟩
      · refine R_cV (as := [.ref (1000 + 29)]) rfl rfl iv_Parser_isWord ((by have z := sp_isWord (σ := τ) (t := t) (hB.fr hI.1 (fun b => by unfold pPs; omega)) hb hI.2.1 (show (29, wRo) ∈ am_SL from List.mem_of_getElem? (i := 9) rfl); rw [zP_f g3] at z; exact z)) (by omega) rfl rfl rfl (by decide) rfl rfl (Nat.le_of_ble_eq_true rfl) (fun _ q => ?_)
        obtain rfl := q.symm
        refine R_if_eq rfl rfl (fun _ => ?_) (fun z => absurd z (by decide))
        refine R_aload_n rfl rfl ?_
        refine R_ldcS (i := 30) rfl (List.mem_of_getElem? (i := 30) rfl) ?_
        by_cases g6 : isWd B wPr t
        · refine R_cV (as := [.ref (1000 + 30)]) rfl rfl iv_Parser_isWord ((by have z := sp_isWord (σ := τ) (t := t) (hB.fr hI.1 (fun b => by unfold pPs; omega)) hb hI.2.1 (show (30, wPr) ∈ am_SL from List.mem_of_getElem? (i := 10) rfl); rw [zP_t g6] at z; exact z)) (by omega) rfl rfl rfl (by decide) rfl rfl (Nat.le_of_ble_eq_true rfl) (fun _ q => ?_)
          obtain rfl := q.symm
          refine R_if_eq rfl rfl (fun z => absurd z (by decide)) (fun _ => ?_)
          refine R_aload_n rfl rfl ?_
          by_cases g7 : pn < 6
          · by_cases g8 : pmE B n P pn t = none
            · refine R_cV (as := []) rfl rfl iv_Parser_parsePrime (rP_none (sp_parsePrime (hB.fr hI.1 (fun b => by unfold pPs; omega)) hb hI.2.1 hD1.2.2.2.1.1 hD1.2.2.2.1.2 (fun j hj => ⟨(hD1.2.2.2.2.2.2.2.2.2 j (by omega)).trans (hD3 j hj).1, (prL_le _ (hD3 j hj).2).2⟩) g7) g8) (by omega) rfl rfl rfl (by decide) rfl rfl (Nat.le_of_ble_eq_true rfl) (fun μ hμ => ?_)
              obtain ⟨m1, m2, m3, m4, m5⟩ := hμ
              refine R_goto rfl rfl ?_
              refine R_istore_n rfl (by decide) ?_
              refine R_iincN (x := i) (m := 1) rfl rfl rfl (by decide) ?_
              refine R_goto rfl rfl ?_
              rw [show prE B n h w (uu + 1) t f rt P pn = prE B n h w uu (nx B n (nx B n (nx B n t))) f rt (fun j => if j = pn then (nx B n t).2.2.2 else P j) (pn + 1) from by simp only [prE]; rw [if_neg g2, if_neg g3, if_pos g6, if_pos g7, g8]]
              exact (ih (i + 1) _ _ _ _ _ (nx_b (nx_b (nx_b hb))) hrt μ (by omega) ⟨hI.1.trans (m1.mono (fun a b => by unfold pPm pPs; omega)), m2, dfC_prime hI.2.2 m1 m3 m4 m5 g7⟩).weak ⟨rfl, rfl, rfl, trivial⟩
            · refine R_cV (as := []) rfl rfl iv_Parser_parsePrime (rP_some (sp_parsePrime (hB.fr hI.1 (fun b => by unfold pPs; omega)) hb hI.2.1 hD1.2.2.2.1.1 hD1.2.2.2.1.2 (fun j hj => ⟨(hD1.2.2.2.2.2.2.2.2.2 j (by omega)).trans (hD3 j hj).1, (prL_le _ (hD3 j hj).2).2⟩) g7) g8) (by omega) rfl rfl rfl (by decide) rfl rfl (Nat.le_of_ble_eq_true rfl) (fun μ hμ => ?_)
              obtain ⟨x, mx, me⟩ := hμ
              refine R_goto rfl rfl ?_
              refine R_istore_n rfl (by decide) ?_
              refine R_iincN (x := i) (m := 1) rfl rfl rfl (by decide) ?_
              refine R_goto rfl rfl ?_
              rw [show prE B n h w (uu + 1) t f rt P pn = .inl x from by simp only [prE]; rw [if_neg g2, if_neg g3, if_pos g6, if_pos g7, mx]]
              exact (am_R.mono (lp_prs0 (i := i + 1) ((hB.fr hI.1 (fun b => by unfold pPs; omega)).fr me.1 (fun b => by omega)) (by omega)) (am_Ok.mono fun σ1 z => by rw [z]; exact erC.pre hI.1 pPs_14 me)).weak ⟨rfl, rfl, rfl, trivial⟩
          · refine R_cV (as := []) rfl rfl iv_Parser_parsePrime (sp_parsePrime_x (hB.fr hI.1 (fun b => by unfold pPs; omega)) hb hI.2.1 hD1.2.2.2.1.1 hD1.2.2.2.1.2 (fun j hj => ⟨(hD1.2.2.2.2.2.2.2.2.2 j (by omega)).trans (hD3 j hj).1, (prL_le _ (hD3 j hj).2).2⟩) g7) (by omega) rfl rfl rfl (by decide) rfl rfl (Nat.le_of_ble_eq_true rfl) (fun _ q => ?_)
            obtain rfl := q.symm
            refine R_goto rfl rfl ?_
            refine R_istore_n rfl (by decide) ?_
            refine R_iincN (x := i) (m := 1) rfl rfl rfl (by decide) ?_
            refine R_goto rfl rfl ?_
            rw [show prE B n h w (uu + 1) t f rt P pn = .inl (5, t.1) from by simp only [prE]; rw [if_neg g2, if_neg g3, if_pos g6, if_neg g7]]
            exact (am_R.mono (lp_prs0 (i := i + 1) (hB.fr (erC_f (c := 5) (x := t.1) hI.1 pPs_14).1 (fun b => by omega)) (by omega)) (am_Ok.mono fun σ1 z => by rw [z]; exact erC_f hI.1 pPs_14)).weak ⟨rfl, rfl, rfl, trivial⟩
        · refine R_cV (as := [.ref (1000 + 30)]) rfl rfl iv_Parser_isWord ((by have z := sp_isWord (σ := τ) (t := t) (hB.fr hI.1 (fun b => by unfold pPs; omega)) hb hI.2.1 (show (30, wPr) ∈ am_SL from List.mem_of_getElem? (i := 10) rfl); rw [zP_f g6] at z; exact z)) (by omega) rfl rfl rfl (by decide) rfl rfl (Nat.le_of_ble_eq_true rfl) (fun _ q => ?_)
          obtain rfl := q.symm
          refine R_if_eq rfl rfl (fun _ => ?_) (fun z => absurd z (by decide))
          refine R_aload_n rfl rfl ?_
          refine R_iconst (v := 1) rfl rfl ?_
          refine R_cV (as := [.int 1]) rfl rfl iv_Parser_fail (sp_fail hI.2.1.1) (by omega) rfl rfl rfl (by decide) rfl rfl (Nat.le_of_ble_eq_true rfl) (fun _ q => ?_)
          obtain rfl := q.symm
          refine R_istore_n rfl (by decide) ?_
          refine R_iincN (x := i) (m := 1) rfl rfl rfl (by decide) ?_
          refine R_goto rfl rfl ?_
          rw [show prE B n h w (uu + 1) t f rt P pn = .inl (1, t.1) from by simp only [prE]; rw [if_neg g2, if_neg g3, if_neg g6]]
          exact (am_R.mono (lp_prs0 (i := i + 1) (hB.fr (erC_f (c := 1) (x := t.1) hI.1 pPs_14).1 (fun b => by omega)) (by omega)) (am_Ok.mono fun σ1 z => by rw [z]; exact erC_f hI.1 pPs_14)).weak ⟨rfl, rfl, rfl, trivial⟩

