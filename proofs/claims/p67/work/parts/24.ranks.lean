/-! ===== ranks and profiles, the class's ===== -/
/-- the rank of a part: rows S, columns T -/
def rkO (f : am_Gr) (m S T h w : Nat) : Nat := rkG m (nb S h) (pc T) (gaA f m S T h w)
theorem rkG_le {m h w : Nat} {G : am_Gr} : rkG m h w G ≤ h := (el_r w).2
theorem rkO_le {f : am_Gr} {m S T h w : Nat} : rkO f m S T h w ≤ nb S h := rkG_le
theorem rkO_6 {f : am_Gr} {m S T h w : Nat} (hh : h ≤ 6) : rkO f m S T h w ≤ 6 := Nat.le_trans rkO_le (Nat.le_trans (nb_le h) hh)
/-- the row profile's part below r -/
def prR (f : am_Gr) (m h w : Nat) : Nat → Nat
  | 0 => 0
  | r + 1 => if pc (prR f m h w r) < rkO f m (2 ^ (r + 1) - 1) (2 ^ w - 1) h w then wi (prR f m h w r) r else prR f m h w r
def prC (f : am_Gr) (m S h w : Nat) : Nat → Nat
  | 0 => 0
  | c + 1 => if pc (prC f m S h w c) < rkO f m S (2 ^ (c + 1) - 1) h w then wi (prC f m S h w c) c else prC f m S h w c
theorem prR_lt {f : am_Gr} {m h w : Nat} : ∀ r, r ≤ 6 → prR f m h w r < 64
  | 0, _ => by show (0 : Nat) < 64; decide
  | r + 1, hr => by
    have ih := @prR_lt f m h w r (by omega)
    simp only [prR]
    split
    · exact wi_lt ih (by omega)
    · exact ih
theorem prC_lt {f : am_Gr} {m S h w : Nat} : ∀ r, r ≤ 6 → prC f m S h w r < 64
  | 0, _ => by show (0 : Nat) < 64; decide
  | r + 1, hr => by
    have ih := @prC_lt f m S h w r (by omega)
    simp only [prC]
    split
    · exact wi_lt ih (by omega)
    · exact ih
set_option maxRecDepth 100000 in
set_option maxHeartbeats 4000000 in
theorem sp_partRank {σ : am_G} {k h w m : Nat} {f : Nat → Nat → Int64} {S T : Nat} (hM : isMat k) (hk : 21 ≤ k) (hv : vM σ k h w f) (hm : m < 2 ^ 31) (hS : S < 64) (hT : T < 64) : am_Call am_TX 4 0 c_Reckoner_partRank [.ref 16, .ref k, .int (nI m), .int (nI S), .int (nI T)] (mm σ) (am_Ok (some (.int (nI (rkO f m S T h w)))) (fun σ1 => smP (plc 19 21) σ σ1)) := by
  have hh := hv.1.2
  have hw := hv.2.1.2
  refine ⟨mf_Reckoner_partRank, Nat.le_of_ble_eq_true rfl, ?_⟩
  refine R_aload_n rfl rfl ?_
  refine R_aload_n rfl rfl ?_
  refine R_iload_n rfl rfl ?_
  refine R_iload_n rfl rfl ?_
  refine R_iload rfl rfl ?_
  refine R_cV (as := [.ref k, .int (nI m), .int (nI S), .int (nI T)]) rfl rfl iv_Reckoner_gather (sp_gather (m := m) hM ⟨by omega, by omega, by omega⟩ hv hm hS hT) (by decide) rfl rfl rfl (by decide) rfl rfl (Nat.le_of_ble_eq_true rfl) (fun _ q => ?_)
  obtain rfl := q.symm
  refine R_aload_n rfl rfl ?_
  refine R_iload_n rfl rfl ?_
  refine R_iconst (v := 0) rfl rfl ?_
  refine R_cV (as := [.int (nI m), .int 0]) rfl rfl iv_Reckoner_eliminate (sp_elim_0 (G := gaA f m S T h w) (h := nb S h) (w := pc T) (m := m) (Nat.le_trans (nb_le h) hh) pc_le hm) (by decide) rfl rfl rfl (by decide) rfl rfl (Nat.le_of_ble_eq_true rfl) (fun _ q => ?_)
  obtain rfl := q.symm
  exact T_ireturn rfl rfl (am_oki rfl (smP_setM (fun b => by unfold plc; omega) (fun b => by unfold plc; omega)))
set_option maxRecDepth 100000 in
set_option maxHeartbeats 4000000 in
theorem sp_fullRank {σ : am_G} {k h w m : Nat} {f : Nat → Nat → Int64} (hM : isMat k) (hk : 21 ≤ k) (hv : vM σ k h w f) (hm : m < 2 ^ 31) : am_Call am_TX 5 0 c_Reckoner_fullRank [.ref 16, .ref k, .int (nI m)] (mm σ) (am_Ok (some (.int (nI (rkO f m (2 ^ h - 1) (2 ^ w - 1) h w)))) (fun σ1 => smP (plc 19 21) σ σ1)) := by
  have hh := hv.1.2
  have hw := hv.2.1.2
  refine ⟨mf_Reckoner_fullRank, Nat.le_of_ble_eq_true rfl, ?_⟩
  refine R_aload_n rfl rfl ?_
  refine R_aload_n rfl rfl ?_
  refine R_iload_n rfl rfl ?_
  refine R_aload_n rfl rfl ?_
  refine R_cV (as := []) rfl rfl iv_Matrix_allRows (sp_Matrix_allRows hM hv.1.1 hv.1.2) (by decide) rfl rfl hM.1 (by decide) rfl rfl (Nat.le_of_ble_eq_true rfl) (fun _ q => ?_)
  obtain rfl := q.symm
  refine R_aload_n rfl rfl ?_
  refine R_cV (as := []) rfl rfl iv_Matrix_allColumns (sp_Matrix_allColumns hM hv.2.1.1 hv.2.1.2) (by decide) rfl rfl hM.1 (by decide) rfl rfl (Nat.le_of_ble_eq_true rfl) (fun _ q => ?_)
  obtain rfl := q.symm
  refine R_cV (as := [.ref k, .int (nI m), .int (nI (2 ^ h - 1)), .int (nI (2 ^ w - 1))]) rfl rfl iv_Reckoner_partRank (sp_partRank (m := m) (S := (2 ^ h - 1)) (T := (2 ^ w - 1)) hM (by omega) hv (by omega) (by first | assumption | exact lw_lt (by omega) | exact wi_lt (by first | assumption | omega) (by omega) | exact wo_lt (by first | assumption | omega) (by omega) | omega) (by first | assumption | exact lw_lt (by omega) | exact wi_lt (by first | assumption | omega) (by omega) | exact wo_lt (by first | assumption | omega) (by omega) | omega)) (by decide) rfl rfl rfl (by decide) rfl rfl (Nat.le_of_ble_eq_true rfl) (fun σ3 hσ3 => ?_)
  exact T_ireturn rfl rfl (am_oki rfl hσ3)
set_option maxRecDepth 100000 in
set_option maxHeartbeats 4000000 in
theorem sp_cornerRank {σ : am_G} {k h w m : Nat} {f : Nat → Nat → Int64} {r c : Nat} (hM : isMat k) (hk : 21 ≤ k) (hv : vM σ k h w f) (hm : m < 2 ^ 31) (hr : r ≤ 6) (hc : c ≤ 6) : am_Call am_TX 5 0 c_Reckoner_cornerRank [.ref 16, .ref k, .int (nI m), .int (nI r), .int (nI c)] (mm σ) (am_Ok (some (.int (nI (rkO f m (2 ^ r - 1) (2 ^ c - 1) h w)))) (fun σ1 => smP (plc 19 21) σ σ1)) := by
  have hh := hv.1.2
  have hw := hv.2.1.2
  refine ⟨mf_Reckoner_cornerRank, Nat.le_of_ble_eq_true rfl, ?_⟩
  refine R_aload_n rfl rfl ?_
  refine R_aload_n rfl rfl ?_
  refine R_iload_n rfl rfl ?_
  refine R_iload_n rfl rfl ?_
  refine R_cN (as := [.int (nI r)]) rfl rfl iv_D_lowest (sp_lowest (n := r) (by omega)) (by decide) rfl rfl rfl rfl (Nat.le_of_ble_eq_true rfl) (fun _ q => ?_)
  obtain rfl := q.symm
  refine R_iload rfl rfl ?_
  refine R_cN (as := [.int (nI c)]) rfl rfl iv_D_lowest (sp_lowest (n := c) (by omega)) (by decide) rfl rfl rfl rfl (Nat.le_of_ble_eq_true rfl) (fun _ q => ?_)
  obtain rfl := q.symm
  refine R_cV (as := [.ref k, .int (nI m), .int (nI (2 ^ r - 1)), .int (nI (2 ^ c - 1))]) rfl rfl iv_Reckoner_partRank (sp_partRank (m := m) (S := (2 ^ r - 1)) (T := (2 ^ c - 1)) hM (by omega) hv (by omega) (by first | assumption | exact lw_lt (by omega) | exact wi_lt (by first | assumption | omega) (by omega) | exact wo_lt (by first | assumption | omega) (by omega) | omega) (by first | assumption | exact lw_lt (by omega) | exact wi_lt (by first | assumption | omega) (by omega) | exact wo_lt (by first | assumption | omega) (by omega) | omega)) (by decide) rfl rfl rfl (by decide) rfl rfl (Nat.le_of_ble_eq_true rfl) (fun σ3 hσ3 => ?_)
  exact T_ireturn rfl rfl (am_oki rfl hσ3)
set_option maxRecDepth 100000 in
set_option maxHeartbeats 4000000 in
theorem lp_prR {σ : am_G} {k h w m : Nat} {f : Nat → Nat → Int64} {d k0 : Nat} {Q : am_Res → Prop} (hM : isMat k) (hk : 21 ≤ k) (hv : vM σ k h w f) (hm : m < 2 ^ 31) (hd : 5 ≤ d) (hx : ∀ (τ : am_G), (smP (plc 19 21) σ τ) → am_R am_TX d k0 c_Reckoner_profileOfRows 51 [some (.ref 16), some (.ref k), some (.int (nI m)), some (.int (nI (prR f m h w h))), some (.int (nI h))] [] (mm τ) Q) : ∀ (uu i : Nat) (τ : am_G), i + uu = h → (smP (plc 19 21) σ τ) → am_R am_TX d k0 c_Reckoner_profileOfRows 5 [some (.ref 16), some (.ref k), some (.int (nI m)), some (.int (nI (prR f m h w i))), some (.int (nI i))] [] (mm τ) Q := by
  have hh := hv.1.2
  have hw := hv.2.1.2
  intro uu
  induction uu with
  | zero =>
    intro i τ hi hI
    obtain rfl : h = i := by omega
    skip
    refine R_iload rfl rfl ?_
    refine R_aload_n rfl rfl ?_
    refine R_gIN (n := h) rfl hM.1 fd_4_0 (hI.vM hv (fun b => by unfold plc; omega) (fun b => by unfold plc; omega)).1.1 ?_
    refine R_nicmp_ge (x := h) (y := h) rfl rfl (by omega) (by omega) (fun h1 => ?_) (fun z => by omega)
    exact hx τ hI
  | succ uu ih =>
    intro i τ hi hI
    have hp := @prR_lt f m h w i (by omega)
    have hr := @rkO_6 f m (2 ^ (i + 1) - 1) (2 ^ w - 1) h w hh
    have hpc := @pc_le (prR f m h w i)
    refine R_iload rfl rfl ?_
    refine R_aload_n rfl rfl ?_
    refine R_gIN (n := h) rfl hM.1 fd_4_0 (hI.vM hv (fun b => by unfold plc; omega) (fun b => by unfold plc; omega)).1.1 ?_
    refine R_nicmp_ge (x := i) (y := h) rfl rfl (by omega) (by omega) (fun z => by omega) (fun h1 => ?_)
    refine R_aload_n rfl rfl ?_
    refine R_aload_n rfl rfl ?_
    refine R_iload_n rfl rfl ?_
    refine R_iload rfl rfl ?_
    refine R_iconst (v := 1) rfl rfl ?_
    refine R_iaddN (x := i) (y := 1) rfl ?_
    refine R_cN (as := [.int (nI (i + 1))]) rfl rfl iv_D_lowest (sp_lowest (n := (i + 1)) (by omega)) (by omega) rfl rfl rfl rfl (Nat.le_of_ble_eq_true rfl) (fun _ q => ?_)
    obtain rfl := q.symm
    refine R_aload_n rfl rfl ?_
    refine R_cV (as := []) rfl rfl iv_Matrix_allColumns (sp_Matrix_allColumns hM (hI.vM hv (fun b => by unfold plc; omega) (fun b => by unfold plc; omega)).2.1.1 (hI.vM hv (fun b => by unfold plc; omega) (fun b => by unfold plc; omega)).2.1.2) (by omega) rfl rfl hM.1 (by decide) rfl rfl (Nat.le_of_ble_eq_true rfl) (fun _ q => ?_)
    obtain rfl := q.symm
    refine R_cV (as := [.ref k, .int (nI m), .int (nI (2 ^ (i + 1) - 1)), .int (nI (2 ^ w - 1))]) rfl rfl iv_Reckoner_partRank (sp_partRank (m := m) (S := (2 ^ (i + 1) - 1)) (T := (2 ^ w - 1)) hM (by omega) (hI.vM hv (fun b => by unfold plc; omega) (fun b => by unfold plc; omega)) (by omega) (by first | assumption | exact lw_lt (by omega) | exact wi_lt (by first | assumption | omega) (by omega) | exact wo_lt (by first | assumption | omega) (by omega) | omega) (by first | assumption | exact lw_lt (by omega) | exact wi_lt (by first | assumption | omega) (by omega) | exact wo_lt (by first | assumption | omega) (by omega) | omega)) (by omega) rfl rfl rfl (by decide) rfl rfl (Nat.le_of_ble_eq_true rfl) (fun σ3 hσ3 => ?_)
    refine R_iload_n rfl rfl ?_
    refine R_cS (as := [.int (nI (prR f m h w i))]) rfl rfl iv_JInteger_bitCount (sp_bitCount (s := (prR f m h w i)) (by first | assumption | exact lw_lt (by omega) | exact wi_lt (by first | assumption | omega) (by omega) | exact wo_lt (by first | assumption | omega) (by omega) | omega)) (by omega) rfl rfl rfl rfl (Nat.le_of_ble_eq_true rfl) (fun _ q => ?_)
    obtain rfl := q.symm
    refine R_nicmp_le (x := (rkO f m (2 ^ (i + 1) - 1) (2 ^ w - 1) h w)) (y := (pc (prR f m h w i))) rfl rfl (by omega) (by omega) (fun h2 => ?_) (fun h2 => ?_)
    · refine R_iincN (x := i) (m := 1) rfl rfl rfl (by decide) ?_
      refine R_goto rfl rfl ?_
      have e := ih (i + 1) σ3 (by omega) (hI.trans hσ3)
      rw [show prR f m h w (i + 1) = prR f m h w i from if_neg (by omega)] at e
      exact e.weak ⟨rfl, rfl, rfl, rfl, rfl, trivial⟩
    · refine R_iload_n rfl rfl ?_
      refine R_iconst (v := 1) rfl rfl ?_
      refine R_iload rfl rfl ?_
      refine R_shl1N (y := i) rfl (by omega) ?_
      refine R_iorB (s := (prR f m h w i)) (y := i) rfl (by first | assumption | omega) (by omega) ?_
      refine R_istore_n rfl (by decide) ?_
      refine R_iincN (x := i) (m := 1) rfl rfl rfl (by decide) ?_
      refine R_goto rfl rfl ?_
      have e := ih (i + 1) σ3 (by omega) (hI.trans hσ3)
      rw [show prR f m h w (i + 1) = wi (prR f m h w i) i from if_pos (by omega)] at e
      exact e.weak ⟨rfl, rfl, rfl, rfl, rfl, trivial⟩
set_option maxRecDepth 100000 in
set_option maxHeartbeats 4000000 in
theorem sp_profileOfRows {σ : am_G} {k h w m : Nat} {f : Nat → Nat → Int64} (hM : isMat k) (hk : 21 ≤ k) (hv : vM σ k h w f) (hm : m < 2 ^ 31) : am_Call am_TX 5 0 c_Reckoner_profileOfRows [.ref 16, .ref k, .int (nI m)] (mm σ) (am_Ok (some (.int (nI (prR f m h w h)))) (fun σ1 => smP (plc 19 21) σ σ1)) := by
  have hh := hv.1.2
  have hw := hv.2.1.2
  refine ⟨mf_Reckoner_profileOfRows, Nat.le_of_ble_eq_true rfl, ?_⟩
  refine R_iconst (v := 0) rfl rfl ?_
  refine R_istore_n rfl (by decide) ?_
  refine R_iconst (v := 0) rfl rfl ?_
  refine R_istore rfl (by decide) ?_
  refine (lp_prR hM hk hv hm (by omega) (fun τ1 hτ1 => ?_) h 0 _ (by omega) (smP.refl)).weak ⟨rfl, rfl, rfl, rfl, rfl, trivial⟩
  refine R_iload_n rfl rfl ?_
  exact T_ireturn rfl rfl (am_oki rfl hτ1)
set_option maxRecDepth 100000 in
set_option maxHeartbeats 4000000 in
theorem lp_prC {σ : am_G} {k h w m : Nat} {f : Nat → Nat → Int64} {S : Nat} {d k0 : Nat} {Q : am_Res → Prop} (hM : isMat k) (hk : 21 ≤ k) (hv : vM σ k h w f) (hm : m < 2 ^ 31) (hS : S < 64) (hd : 5 ≤ d) (hx : ∀ (τ : am_G), (smP (plc 19 21) σ τ) → am_R am_TX d k0 c_Reckoner_profileOfColumns 52 [some (.ref 16), some (.ref k), some (.int (nI m)), some (.int (nI S)), some (.int (nI (prC f m S h w w))), some (.int (nI w))] [] (mm τ) Q) : ∀ (uu i : Nat) (τ : am_G), i + uu = w → (smP (plc 19 21) σ τ) → am_R am_TX d k0 c_Reckoner_profileOfColumns 6 [some (.ref 16), some (.ref k), some (.int (nI m)), some (.int (nI S)), some (.int (nI (prC f m S h w i))), some (.int (nI i))] [] (mm τ) Q := by
  have hh := hv.1.2
  have hw := hv.2.1.2
  intro uu
  induction uu with
  | zero =>
    intro i τ hi hI
    obtain rfl : w = i := by omega
    skip
    refine R_iload rfl rfl ?_
    refine R_aload_n rfl rfl ?_
    refine R_gIN (n := w) rfl hM.1 fd_4_1 (hI.vM hv (fun b => by unfold plc; omega) (fun b => by unfold plc; omega)).2.1.1 ?_
    refine R_nicmp_ge (x := w) (y := w) rfl rfl (by omega) (by omega) (fun h1 => ?_) (fun z => by omega)
    exact hx τ hI
  | succ uu ih =>
    intro i τ hi hI
    have hp := @prC_lt f m S h w i (by omega)
    have hr := @rkO_6 f m S (2 ^ (i + 1) - 1) h w hh
    have hpc := @pc_le (prC f m S h w i)
    refine R_iload rfl rfl ?_
    refine R_aload_n rfl rfl ?_
    refine R_gIN (n := w) rfl hM.1 fd_4_1 (hI.vM hv (fun b => by unfold plc; omega) (fun b => by unfold plc; omega)).2.1.1 ?_
    refine R_nicmp_ge (x := i) (y := w) rfl rfl (by omega) (by omega) (fun z => by omega) (fun h1 => ?_)
    refine R_aload_n rfl rfl ?_
    refine R_aload_n rfl rfl ?_
    refine R_iload_n rfl rfl ?_
    refine R_iload_n rfl rfl ?_
    refine R_iload rfl rfl ?_
    refine R_iconst (v := 1) rfl rfl ?_
    refine R_iaddN (x := i) (y := 1) rfl ?_
    refine R_cN (as := [.int (nI (i + 1))]) rfl rfl iv_D_lowest (sp_lowest (n := (i + 1)) (by omega)) (by omega) rfl rfl rfl rfl (Nat.le_of_ble_eq_true rfl) (fun _ q => ?_)
    obtain rfl := q.symm
    refine R_cV (as := [.ref k, .int (nI m), .int (nI S), .int (nI (2 ^ (i + 1) - 1))]) rfl rfl iv_Reckoner_partRank (sp_partRank (m := m) (S := S) (T := (2 ^ (i + 1) - 1)) hM (by omega) (hI.vM hv (fun b => by unfold plc; omega) (fun b => by unfold plc; omega)) (by omega) (by first | assumption | exact lw_lt (by omega) | exact wi_lt (by first | assumption | omega) (by omega) | exact wo_lt (by first | assumption | omega) (by omega) | omega) (by first | assumption | exact lw_lt (by omega) | exact wi_lt (by first | assumption | omega) (by omega) | exact wo_lt (by first | assumption | omega) (by omega) | omega)) (by omega) rfl rfl rfl (by decide) rfl rfl (Nat.le_of_ble_eq_true rfl) (fun σ2 hσ2 => ?_)
    refine R_iload rfl rfl ?_
    refine R_cS (as := [.int (nI (prC f m S h w i))]) rfl rfl iv_JInteger_bitCount (sp_bitCount (s := (prC f m S h w i)) (by first | assumption | exact lw_lt (by omega) | exact wi_lt (by first | assumption | omega) (by omega) | exact wo_lt (by first | assumption | omega) (by omega) | omega)) (by omega) rfl rfl rfl rfl (Nat.le_of_ble_eq_true rfl) (fun _ q => ?_)
    obtain rfl := q.symm
    refine R_nicmp_le (x := (rkO f m S (2 ^ (i + 1) - 1) h w)) (y := (pc (prC f m S h w i))) rfl rfl (by omega) (by omega) (fun h2 => ?_) (fun h2 => ?_)
    · refine R_iincN (x := i) (m := 1) rfl rfl rfl (by decide) ?_
      refine R_goto rfl rfl ?_
      have e := ih (i + 1) σ2 (by omega) (hI.trans hσ2)
      rw [show prC f m S h w (i + 1) = prC f m S h w i from if_neg (by omega)] at e
      exact e.weak ⟨rfl, rfl, rfl, rfl, rfl, rfl, trivial⟩
    · refine R_iload rfl rfl ?_
      refine R_iconst (v := 1) rfl rfl ?_
      refine R_iload rfl rfl ?_
      refine R_shl1N (y := i) rfl (by omega) ?_
      refine R_iorB (s := (prC f m S h w i)) (y := i) rfl (by first | assumption | omega) (by omega) ?_
      refine R_istore rfl (by decide) ?_
      refine R_iincN (x := i) (m := 1) rfl rfl rfl (by decide) ?_
      refine R_goto rfl rfl ?_
      have e := ih (i + 1) σ2 (by omega) (hI.trans hσ2)
      rw [show prC f m S h w (i + 1) = wi (prC f m S h w i) i from if_pos (by omega)] at e
      exact e.weak ⟨rfl, rfl, rfl, rfl, rfl, rfl, trivial⟩
set_option maxRecDepth 100000 in
set_option maxHeartbeats 4000000 in
theorem sp_profileOfColumns {σ : am_G} {k h w m : Nat} {f : Nat → Nat → Int64} {S : Nat} (hM : isMat k) (hk : 21 ≤ k) (hv : vM σ k h w f) (hm : m < 2 ^ 31) (hS : S < 64) : am_Call am_TX 5 0 c_Reckoner_profileOfColumns [.ref 16, .ref k, .int (nI m), .int (nI S)] (mm σ) (am_Ok (some (.int (nI (prC f m S h w w)))) (fun σ1 => smP (plc 19 21) σ σ1)) := by
  have hh := hv.1.2
  have hw := hv.2.1.2
  refine ⟨mf_Reckoner_profileOfColumns, Nat.le_of_ble_eq_true rfl, ?_⟩
  refine R_iconst (v := 0) rfl rfl ?_
  refine R_istore rfl (by decide) ?_
  refine R_iconst (v := 0) rfl rfl ?_
  refine R_istore rfl (by decide) ?_
  refine (lp_prC hM hk hv hm hS (by omega) (fun τ1 hτ1 => ?_) w 0 _ (by omega) (smP.refl)).weak ⟨rfl, rfl, rfl, rfl, rfl, rfl, trivial⟩
  refine R_iload rfl rfl ?_
  exact T_ireturn rfl rfl (am_oki rfl hτ1)

