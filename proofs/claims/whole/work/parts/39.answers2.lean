/-! ===== more of what the class answers ===== -/
/-- the numbers that are tried in an entry's place -/
def spv (t : Nat) : Int32 := nI t - 20
theorem spv_s {t : Nat} : spv t + Int32.ofInt 1 = spv (t + 1) := by
  unfold spv
  rw [← nI_add t 1, show nI 1 = (1 : Int32) from rfl, show Int32.ofInt 1 = (1 : Int32) from rfl]
  grind
theorem spv_t {t : Nat} (h : t ≤ 41) : (spv t).toInt = (t : Int) - 20 := by
  unfold spv
  rw [Int32.toInt_sub, nI_toInt (by omega), show (20 : Int32).toInt = 20 from rfl, Int.bmod_eq_of_le (by omega) (by omega)]
theorem spv_le {t : Nat} (h : t ≤ 41) : ¬ (20 : Int32) < spv t ↔ t < 41 := by
  rw [Int32.lt_iff_toInt_lt, spv_t h, show (20 : Int32).toInt = 20 from rfl]; omega
/-- how many of the first t change the rank -/
def csN (f : am_Gr) (h w i j : Nat) : Nat → Nat
  | 0 => 0
  | t + 1 => if rkO (up2 f i j (spv t).toInt64) 0 (2 ^ h - 1) (2 ^ w - 1) h w = rkO f 0 (2 ^ h - 1) (2 ^ w - 1) h w then csN f h w i j t else csN f h w i j t + 1
theorem csN_le {f : am_Gr} {h w i j : Nat} : ∀ t, csN f h w i j t ≤ t
  | 0 => Nat.le_refl 0
  | t + 1 => by
    have := @csN_le f h w i j t
    simp only [csN]; split <;> omega
def pCs (a _b : Nat) : Prop := 19 ≤ a ∧ a < 23
/-- the same entries but for one -/
def upE (f g : am_Gr) (i j : Nat) : Prop := ∀ x, up2 g i j x = up2 f i j x
theorem upE_s {f g : am_Gr} {i j : Nat} {x : Int64} (h : upE f g i j) : upE f (up2 g i j x) i j := fun y => by
  have := h y
  rw [← this]
  funext a b
  unfold up2
  by_cases e : a = i ∧ b = j
  · rw [if_pos e, if_pos e]
  · rw [if_neg e, if_neg e, if_neg e]
set_option maxRecDepth 100000 in
set_option maxHeartbeats 4000000 in
theorem lp_cs {σ : am_G} {h w i j : Nat} {f : am_Gr} {d k0 : Nat} (hh6 : h ≤ 6) (hw6 : w ≤ 6) (hi : i < h) (hj : j < w) (hd : 6 ≤ d) : ∀ (uu t : Nat) (g : am_Gr) (τ : am_G), t + uu = 41 → upE f g i j → (smP pCs σ τ ∧ vM τ 21 h w g) → am_R am_TX d k0 c_Reckoner_countSpoilers 23 [some (.ref 16), some (.ref 27), some (.int (nI i)), some (.int (nI j)), some (.int (nI (rkO f 0 (2 ^ h - 1) (2 ^ w - 1) h w))), some (.int (nI (csN f h w i j t))), some (.int (spv t))] [] (mm τ) (am_Ok (some (.int (nI (csN f h w i j 41)))) (fun σ1 => smP pCs σ σ1)) := by
  have hk1 : rkO f 0 (2 ^ h - 1) (2 ^ w - 1) h w ≤ 6 := rkO_6 hh6
  intro uu
  induction uu with
  | zero =>
    intro t g τ ht hg0 hI
    obtain rfl : 41 = t := by omega
    refine R_iload rfl rfl ?_
    refine R_bipush (v := 20) rfl (by decide) ?_
    refine R_icmp_gt rfl rfl (fun h1 => ?_) (fun z => absurd (Nat.lt_irrefl 41) (fun y => y ((spv_le (t := 41) (by omega)).mp z)))
    refine R_iload rfl rfl ?_
    exact T_ireturn rfl rfl (am_oki rfl hI.1)
  | succ uu ih =>
    intro t g τ ht hg0 hI
    have hg : ∀ x, upE f (up2 g i j x) i j := fun x => upE_s hg0
    have hgg : up2 g i j (spv t).toInt64 = up2 f i j (spv t).toInt64 := hg0 _
    have hk2 : rkO (up2 g i j (spv t).toInt64) 0 (2 ^ h - 1) (2 ^ w - 1) h w ≤ 6 := rkO_6 hh6
    have hk3 := @csN_le f h w i j t
    refine R_iload rfl rfl ?_
    refine R_bipush (v := 20) rfl (by decide) ?_
    refine R_icmp_gt rfl rfl (fun z => absurd z ((spv_le (by omega)).mpr (by omega))) (fun h1 => ?_)
    refine R_aload_n rfl rfl ?_
    refine R_gP (x := 21) rfl rfl fp_7_2 rfl ?_
    refine R_iload_n rfl rfl ?_
    refine R_iload_n rfl rfl ?_
    refine R_iload rfl rfl ?_
    refine R_i2l rfl ?_
    refine R_cV (as := [.int (nI i), .int (nI j), .long ((spv t).toInt64)]) rfl rfl iv_Matrix_put (sp_Matrix_put (i := i) (j := j) im21 (by omega) (by omega)) (by omega) rfl rfl rfl (by decide) rfl rfl (Nat.le_of_ble_eq_true rfl) (fun _ q => ?_)
    obtain rfl := q.symm
    refine R_aload_n rfl rfl ?_
    refine R_aload_n rfl rfl ?_
    refine R_gP (x := 21) rfl rfl fp_7_2 rfl ?_
    refine R_iconst (v := 0) rfl rfl ?_
    refine R_cV (as := [.ref 21, .int 0]) rfl rfl iv_Reckoner_fullRank (sp_fullRank (m := 0) (f := up2 g i j (spv t).toInt64) im21 (by omega) (hI.2.put (by omega) (by omega)) (by omega)) (by omega) rfl rfl rfl (by decide) rfl rfl (Nat.le_of_ble_eq_true rfl) (fun σ9 hσ9 => ?_)
    refine R_iload rfl rfl ?_
    refine R_nicmp_eq (x := (rkO (up2 g i j (spv t).toInt64) 0 (2 ^ h - 1) (2 ^ w - 1) h w)) (y := (rkO f 0 (2 ^ h - 1) (2 ^ w - 1) h w)) rfl rfl (by omega) (by omega) (fun h2 => ?_) (fun h2 => ?_)
    · refine R_iinc rfl rfl (by decide) ?_
      refine R_goto rfl rfl ?_
      rw [spv_s]
      have e := ih (t + 1) (up2 g i j (spv t).toInt64) σ9 (by omega) (hg _) ⟨((hI.1.trans (smP_uL (fun b => by unfold pCs; omega))).trans (hσ9.mono (fun a b q => by unfold plc at q; unfold pCs; omega))), hσ9.vM (hI.2.put (by omega) (by omega)) (fun b => by unfold plc; omega) (fun b => by unfold plc; omega)⟩
      rw [show csN f h w i j (t + 1) = csN f h w i j t from by simp only [csN]; exact if_pos (by rw [← hgg]; first | assumption | omega)] at e
      exact e.weak ⟨rfl, rfl, rfl, rfl, rfl, rfl, rfl, trivial⟩
    · refine R_iincN (x := (csN f h w i j t)) (m := 1) rfl rfl rfl (by decide) ?_
      refine R_iinc rfl rfl (by decide) ?_
      refine R_goto rfl rfl ?_
      rw [spv_s]
      have e := ih (t + 1) (up2 g i j (spv t).toInt64) σ9 (by omega) (hg _) ⟨((hI.1.trans (smP_uL (fun b => by unfold pCs; omega))).trans (hσ9.mono (fun a b q => by unfold plc at q; unfold pCs; omega))), hσ9.vM (hI.2.put (by omega) (by omega)) (fun b => by unfold plc; omega) (fun b => by unfold plc; omega)⟩
      rw [show csN f h w i j (t + 1) = csN f h w i j t + 1 from by simp only [csN]; exact if_neg (by rw [← hgg]; first | assumption | omega)] at e
      exact e.weak ⟨rfl, rfl, rfl, rfl, rfl, rfl, rfl, trivial⟩
set_option maxRecDepth 100000 in
set_option maxHeartbeats 4000000 in
theorem sp_countSpoilers {σ : am_G} {h w i j : Nat} {f : am_Gr} (hv : vM σ 27 h w f) (hi : i < h) (hj : j < w) : am_Call am_TX 6 0 c_Reckoner_countSpoilers [.ref 16, .ref 27, .int (nI i), .int (nI j)] (mm σ) (am_Ok (some (.int (nI (csN f h w i j 41)))) (fun σ1 => smP pCs σ σ1)) := by
  have hh6 := hv.1.2
  have hw6 := hv.2.1.2
  refine ⟨mf_Reckoner_countSpoilers, Nat.le_of_ble_eq_true rfl, ?_⟩
  refine R_aload_n rfl rfl ?_
  refine R_aload_n rfl rfl ?_
  refine R_iconst (v := 0) rfl rfl ?_
  refine R_cV (as := [.ref 27, .int 0]) rfl rfl iv_Reckoner_fullRank (sp_fullRank (m := 0) im27 (by omega) hv (by omega)) (by decide) rfl rfl rfl (by decide) rfl rfl (Nat.le_of_ble_eq_true rfl) (fun σ1 hσ1 => ?_)
  refine R_istore rfl (by decide) ?_
  refine R_iconst (v := 0) rfl rfl ?_
  refine R_istore rfl (by decide) ?_
  refine R_aload_n rfl rfl ?_
  refine R_gP (x := 21) rfl rfl fp_7_2 rfl ?_
  refine R_aload_n rfl rfl ?_
  refine R_cV (as := [.ref 27]) rfl rfl iv_Matrix_copyFrom (sp_Matrix_copyFrom im21 im27 ⟨by omega, by omega, by omega⟩ (hσ1.vM hv (fun b => by unfold plc; omega) (fun b => by unfold plc; omega))) (by decide) rfl rfl rfl (by decide) rfl rfl (Nat.le_of_ble_eq_true rfl) (fun _ q => ?_)
  obtain rfl := q.symm
  refine R_bipush (v := -20) rfl (by decide) ?_
  refine R_istore rfl (by decide) ?_
  exact (lp_cs (f := f) hh6 hw6 hi hj (by omega) 41 0 f _ (by omega) (fun _ => rfl) ⟨(hσ1.mono (fun a b q => by unfold plc at q; unfold pCs; omega)).trans (smP_setM (fun b => by unfold pCs; omega) (fun b => by unfold pCs; omega)), vM_setM hh6 hw6⟩).weak ⟨rfl, rfl, rfl, rfl, rfl, rfl, rfl, trivial⟩
def gvF (f : am_Gr) (p h w pl : Nat) : Nat → Int32 := fun j => if j = 0 then nI pl else if j = 1 then nI (rkO f p (2 ^ h - 1) (2 ^ w - 1) h w) else if j = 2 then nI (prR f p h w h) else nI (prC f p (2 ^ h - 1) h w w)
/-- the fault of a guess -/
def faF (f : am_Gr) (h w : Nat) (x1 x2 x3 : Int32) : Int32 := if x1 = nI (rkO f 0 (2 ^ h - 1) (2 ^ w - 1) h w) then (if x2 = nI (prR f 0 h w h) then (if x3 = nI (prC f 0 (2 ^ h - 1) h w w) then 0 else 3) else 2) else 1
def pG (g : Nat) (a _b : Nat) : Prop := (19 ≤ a ∧ a < 21) ∨ a = g
set_option maxRecDepth 100000 in
set_option maxHeartbeats 4000000 in
theorem sp_faultOf {σ : am_G} {h w g : Nat} {f : am_Gr} {x : Nat → Int32} (hG : Sh[g]? = some (0, 1)) (hg : g < 19 ∨ 21 ≤ g) (hx : ∀ j, j < 4 → σ.1 g j = x j) (hv : vM σ 27 h w f) : am_Call am_TX 6 0 c_Reckoner_faultOf [.ref 16, .ref g, .ref 27] (mm σ) (am_Ok (some (.int (faF f h w (x 1) (x 2) (x 3)))) (fun σ1 => smP (plc 19 21) σ σ1)) := by
  have hh6 := hv.1.2
  have hw6 := hv.2.1.2
  refine ⟨mf_Reckoner_faultOf, Nat.le_of_ble_eq_true rfl, ?_⟩
  refine R_aload_n rfl rfl ?_
  refine R_gIX (x := (x 1)) rfl hG fd_1_1 (hx 1 (by omega)) ?_
  refine R_aload_n rfl rfl ?_
  refine R_aload_n rfl rfl ?_
  refine R_iconst (v := 0) rfl rfl ?_
  refine R_cV (as := [.ref 27, .int 0]) rfl rfl iv_Reckoner_fullRank (sp_fullRank (m := 0) im27 (by omega) hv (by omega)) (by decide) rfl rfl rfl (by decide) rfl rfl (Nat.le_of_ble_eq_true rfl) (fun σ1 hσ1 => ?_)
  refine R_icmp_eq rfl rfl (fun h1 => ?_) (fun h1 => ?_)
  · refine R_aload_n rfl rfl ?_
    refine R_gIX (x := (x 2)) rfl hG fd_1_2 ((hσ1.i (by unfold plc; omega)).trans (hx 2 (by omega))) ?_
    refine R_aload_n rfl rfl ?_
    refine R_aload_n rfl rfl ?_
    refine R_iconst (v := 0) rfl rfl ?_
    refine R_cV (as := [.ref 27, .int 0]) rfl rfl iv_Reckoner_profileOfRows (sp_profileOfRows (m := 0) im27 (by omega) (hσ1.vM hv (fun b => by unfold plc; omega) (fun b => by unfold plc; omega)) (by omega)) (by decide) rfl rfl rfl (by decide) rfl rfl (Nat.le_of_ble_eq_true rfl) (fun σ3 hσ3 => ?_)
    refine R_icmp_eq rfl rfl (fun h2 => ?_) (fun h2 => ?_)
    · refine R_aload_n rfl rfl ?_
      refine R_gIX (x := (x 3)) rfl hG fd_1_3 (((hσ1.trans hσ3).i (by unfold plc; omega)).trans (hx 3 (by omega))) ?_
      refine R_aload_n rfl rfl ?_
      refine R_aload_n rfl rfl ?_
      refine R_iconst (v := 0) rfl rfl ?_
      refine R_aload_n rfl rfl ?_
      refine R_cV (as := []) rfl rfl iv_Matrix_allRows (sp_Matrix_allRows im27 ((hσ1.trans hσ3).vM hv (fun b => by unfold plc; omega) (fun b => by unfold plc; omega)).1.1 ((hσ1.trans hσ3).vM hv (fun b => by unfold plc; omega) (fun b => by unfold plc; omega)).1.2) (by decide) rfl rfl im27.1 (by decide) rfl rfl (Nat.le_of_ble_eq_true rfl) (fun _ q => ?_)
      obtain rfl := q.symm
      refine R_cV (as := [.ref 27, .int 0, .int (nI (2 ^ h - 1))]) rfl rfl iv_Reckoner_profileOfColumns (sp_profileOfColumns (m := 0) (S := (2 ^ h - 1)) im27 (by omega) ((hσ1.trans hσ3).vM hv (fun b => by unfold plc; omega) (fun b => by unfold plc; omega)) (by omega) (by first | assumption | exact lw_lt (by omega) | exact wi_lt (by first | assumption | omega) (by omega) | exact wo_lt (by first | assumption | omega) (by omega) | omega)) (by decide) rfl rfl rfl (by decide) rfl rfl (Nat.le_of_ble_eq_true rfl) (fun σ6 hσ6 => ?_)
      refine R_icmp_eq rfl rfl (fun h3 => ?_) (fun h3 => ?_)
      · refine R_iconst (v := 0) rfl rfl ?_
        exact T_ireturn rfl rfl (am_oki (((if_pos h1).trans (if_pos h2)).trans (if_pos h3)).symm ((hσ1.trans hσ3).trans hσ6))
      · refine R_iconst (v := 3) rfl rfl ?_
        refine R_goto rfl rfl ?_
        exact T_ireturn rfl rfl (am_oki (((if_pos h1).trans (if_pos h2)).trans (if_neg h3)).symm ((hσ1.trans hσ3).trans hσ6))
    · refine R_iconst (v := 2) rfl rfl ?_
      exact T_ireturn rfl rfl (am_oki ((if_pos h1).trans (if_neg h2)).symm (hσ1.trans hσ3))
  · refine R_iconst (v := 1) rfl rfl ?_
    exact T_ireturn rfl rfl (am_oki (if_neg h1).symm hσ1)
set_option maxRecDepth 100000 in
set_option maxHeartbeats 4000000 in
theorem sp_makeGuess {σ : am_G} {h w p pl : Nat} {f : am_Gr} (hv : vM σ 27 h w f) (hp : p ≤ 97) : am_Call am_TX 6 0 c_Reckoner_makeGuess [.ref 16, .ref 36, .ref 27, .int (nI pl), .int (nI p)] (mm σ) (am_Ok none (fun σ1 => smP (pG 36) σ σ1 ∧ ∀ j, j < 4 → σ1.1 36 j = gvF f p h w pl j)) := by
  have hh6 := hv.1.2
  have hw6 := hv.2.1.2
  refine ⟨mf_Reckoner_makeGuess, Nat.le_of_ble_eq_true rfl, ?_⟩
  refine R_aload_n rfl rfl ?_
  refine R_iload_n rfl rfl ?_
  refine R_pI rfl rfl fw_1_0 rfl ?_
  refine R_aload_n rfl rfl ?_
  refine R_aload_n rfl rfl ?_
  refine R_aload_n rfl rfl ?_
  refine R_iload rfl rfl ?_
  refine R_cV (as := [.ref 27, .int (nI p)]) rfl rfl iv_Reckoner_profileOfRows (sp_profileOfRows (m := p) im27 (by omega) ((smP_sI (p := pG 36) (k := 36) (j := 0) (x := (nI pl)) (by unfold pG; omega)).vM hv (fun b => by unfold pG; omega) (fun b => by unfold pG; omega)) (by omega)) (by decide) rfl rfl rfl (by decide) rfl rfl (Nat.le_of_ble_eq_true rfl) (fun σ1 hσ1 => ?_)
  refine R_pI rfl rfl fw_1_2 rfl ?_
  refine R_aload_n rfl rfl ?_
  refine R_aload_n rfl rfl ?_
  refine R_aload_n rfl rfl ?_
  refine R_iload rfl rfl ?_
  refine R_aload_n rfl rfl ?_
  refine R_cV (as := []) rfl rfl iv_Matrix_allRows (sp_Matrix_allRows im27 ((((smP_sI (p := pG 36) (k := 36) (j := 0) (x := (nI pl)) (by unfold pG; omega)).trans (hσ1.mono (q := pG 36) (fun a b => by unfold plc pG; omega))).trans (smP_sI (p := pG 36) (k := 36) (j := 2) (x := (nI (prR f p h w h))) (by unfold pG; omega))).vM hv (fun b => by unfold pG; omega) (fun b => by unfold pG; omega)).1.1 ((((smP_sI (p := pG 36) (k := 36) (j := 0) (x := (nI pl)) (by unfold pG; omega)).trans (hσ1.mono (q := pG 36) (fun a b => by unfold plc pG; omega))).trans (smP_sI (p := pG 36) (k := 36) (j := 2) (x := (nI (prR f p h w h))) (by unfold pG; omega))).vM hv (fun b => by unfold pG; omega) (fun b => by unfold pG; omega)).1.2) (by decide) rfl rfl im27.1 (by decide) rfl rfl (Nat.le_of_ble_eq_true rfl) (fun _ q => ?_)
  obtain rfl := q.symm
  refine R_cV (as := [.ref 27, .int (nI p), .int (nI (2 ^ h - 1))]) rfl rfl iv_Reckoner_profileOfColumns (sp_profileOfColumns (m := p) (S := (2 ^ h - 1)) im27 (by omega) ((((smP_sI (p := pG 36) (k := 36) (j := 0) (x := (nI pl)) (by unfold pG; omega)).trans (hσ1.mono (q := pG 36) (fun a b => by unfold plc pG; omega))).trans (smP_sI (p := pG 36) (k := 36) (j := 2) (x := (nI (prR f p h w h))) (by unfold pG; omega))).vM hv (fun b => by unfold pG; omega) (fun b => by unfold pG; omega)) (by omega) (by first | assumption | exact lw_lt (by omega) | exact wi_lt (by first | assumption | omega) (by omega) | exact wo_lt (by first | assumption | omega) (by omega) | omega)) (by decide) rfl rfl rfl (by decide) rfl rfl (Nat.le_of_ble_eq_true rfl) (fun σ4 hσ4 => ?_)
  refine R_pI rfl rfl fw_1_3 rfl ?_
  refine R_aload_n rfl rfl ?_
  refine R_aload_n rfl rfl ?_
  refine R_aload_n rfl rfl ?_
  refine R_iload rfl rfl ?_
  refine R_cV (as := [.ref 27, .int (nI p)]) rfl rfl iv_Reckoner_fullRank (sp_fullRank (m := p) im27 (by omega) ((((((smP_sI (p := pG 36) (k := 36) (j := 0) (x := (nI pl)) (by unfold pG; omega)).trans (hσ1.mono (q := pG 36) (fun a b => by unfold plc pG; omega))).trans (smP_sI (p := pG 36) (k := 36) (j := 2) (x := (nI (prR f p h w h))) (by unfold pG; omega))).trans (hσ4.mono (q := pG 36) (fun a b => by unfold plc pG; omega))).trans (smP_sI (p := pG 36) (k := 36) (j := 3) (x := (nI (prC f p (2 ^ h - 1) h w w))) (by unfold pG; omega))).vM hv (fun b => by unfold pG; omega) (fun b => by unfold pG; omega)) (by omega)) (by decide) rfl rfl rfl (by decide) rfl rfl (Nat.le_of_ble_eq_true rfl) (fun σ6 hσ6 => ?_)
  refine R_pI rfl rfl fw_1_1 rfl ?_
  refine T_return rfl rfl (am_okv0 ⟨(((((((smP_sI (p := pG 36) (k := 36) (j := 0) (x := (nI pl)) (by unfold pG; omega)).trans (hσ1.mono (q := pG 36) (fun a b => by unfold plc pG; omega))).trans (smP_sI (p := pG 36) (k := 36) (j := 2) (x := (nI (prR f p h w h))) (by unfold pG; omega))).trans (hσ4.mono (q := pG 36) (fun a b => by unfold plc pG; omega))).trans (smP_sI (p := pG 36) (k := 36) (j := 3) (x := (nI (prC f p (2 ^ h - 1) h w w))) (by unfold pG; omega))).trans (hσ6.mono (q := pG 36) (fun a b => by unfold plc pG; omega))).trans (smP_sI (p := pG 36) (k := 36) (j := 1) (x := (nI (rkO f p (2 ^ h - 1) (2 ^ w - 1) h w))) (by unfold pG; omega))), fun j hj => ?_⟩)
  rcases (show j = 0 ∨ j = 1 ∨ j = 2 ∨ j = 3 by omega) with rfl | rfl | rfl | rfl
  · rw [sI_o (Or.inr (by decide)), hσ6.i (by unfold plc; omega), sI_o (Or.inr (by decide)), hσ4.i (by unfold plc; omega), sI_o (Or.inr (by decide)), hσ1.i (by unfold plc; omega), sI_s]; rfl
  · rw [sI_s]; rfl
  · rw [sI_o (Or.inr (by decide)), hσ6.i (by unfold plc; omega), sI_o (Or.inr (by decide)), hσ4.i (by unfold plc; omega), sI_s]; rfl
  · rw [sI_o (Or.inr (by decide)), hσ6.i (by unfold plc; omega), sI_s]; rfl
