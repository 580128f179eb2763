/-! ===== the model writes ranks, relations, certificates ===== -/
def pOq (a b : Nat) : Prop := (a = 120 ∧ (b = 0 ∨ b = 6 ∨ b = 7 ∨ b = 9 ∨ b = 27)) ∨ a = 123 ∨ a = 124 ∨ a = 125 ∨ a = 131
theorem pOq_W : ∀ a b, pW a b → pOq a b := fun a b h => by unfold pW at h; unfold pOq; omega
theorem pOq_K : ∀ a b, pK a b → pOq a b := fun a b h => by unfold pK at h; unfold pOq; omega
theorem pOq_L : ∀ a b, pL a b → pOq a b := fun a b h => by unfold pL pW pK at h; unfold pOq; omega
theorem pOq_O : ∀ a b, pOm a b → pOq a b := fun a b h => by unfold pOm at h; unfold pOq; omega
theorem pOq_Q : ∀ a b, pQ a b → pOq a b := fun a b h => by unfold pQ at h; unfold pOq; omega
theorem ch_d {k : Nat} (hk : k < 7) : b7 (nI (48 + k)) ∧ nuL (nI k).toInt64 = [nI (48 + k)] := by
  have e : ∀ k : Nat, k < 7 → (nI (48 + k)).toInt8.toInt32 = nI (48 + k) := by decide +kernel
  refine ⟨e k hk, ?_⟩
  rw [nu_1 k hk, show (48 : Int32) = nI 48 from rfl, nI_add]
theorem rwR_hi {g : am_Gr} {h : Nat} (hz : ∀ k, h ≤ k → k < 6 → g 0 k = 0) : ∀ n, h + n ≤ 6 → rwR g (h + n) = rwR g h
  | 0, _ => rfl
  | n + 1, hn => by
    have ih := rwR_hi hz n (by omega)
    rw [← Nat.add_assoc]
    simp only [rwR]
    rw [if_pos (hz (h + n) (by omega) (by omega)), ih]
set_option maxRecDepth 100000 in
set_option maxHeartbeats 4000000 in
theorem lp_mrki {σ : am_G} {h w m : Nat} {f : am_Gr} {r : Nat} {L : List Int32} {d k0 : Nat} {Q : am_Res → Prop} (hv : mV σ h w f) (hs : fSm f h w) (hm : m < 2 ^ 31) (hr : r < h) (hL : L.length + 100 ≤ 1000) (hd : 6 ≤ d) (hx : ∀ (τ : am_G), (smP pOq σ τ ∧ τ.1 120 0 = 0 ∧ oM τ (L ++ rkR f m h w r w)) → am_R am_TX d k0 c_M_writeRanks 70 [some (.ref 120), some (.int (nI m)), some (.int (nI r)), some (.int (nI w))] [] (mm τ) Q) : ∀ (uu i : Nat) (τ : am_G), i + uu = w → (smP pOq σ τ ∧ τ.1 120 0 = 0 ∧ oM τ (L ++ rkR f m h w r i)) → am_R am_TX d k0 c_M_writeRanks 30 [some (.ref 120), some (.int (nI m)), some (.int (nI r)), some (.int (nI i))] [] (mm τ) Q := by
  have hh1 := hv.1.1.1
  have hh6 := hv.1.1.2
  have hw1 := hv.1.2.1
  have hw6 := hv.1.2.2
  intro uu
  induction uu with
  | zero =>
    intro i τ hi hI
    obtain rfl : w = i := by omega
    skip
    refine R_iload_n rfl rfl ?_
    refine R_aload_n rfl rfl ?_
    refine R_cV (as := []) rfl rfl iv_M_columns (sp_columns (hI.1.mV hv (fun b => by unfold pOq; omega) (fun b => by unfold pOq; omega) (by unfold pOq; omega))) (by omega) rfl rfl rfl (by decide) rfl rfl (Nat.le_of_ble_eq_true rfl) (fun _ q => ?_)
    obtain rfl := q.symm
    refine R_nicmp_ge (x := w) (y := w) rfl rfl (by omega) (by omega) (fun g1 => ?_) (fun z => by omega)
    exact hx τ hI
  | succ uu ih =>
    intro i τ hi hI
    have hrl := @rkR_len f m h w r hh6 i
    have hk6 : rkO f m (2 ^ (r + 1) - 1) (2 ^ (i + 1) - 1) h w ≤ 6 := rkO_6 hh6
    refine R_iload_n rfl rfl ?_
    refine R_aload_n rfl rfl ?_
    refine R_cV (as := []) rfl rfl iv_M_columns (sp_columns (hI.1.mV hv (fun b => by unfold pOq; omega) (fun b => by unfold pOq; omega) (by unfold pOq; omega))) (by omega) rfl rfl rfl (by decide) rfl rfl (Nat.le_of_ble_eq_true rfl) (fun _ q => ?_)
    obtain rfl := q.symm
    refine R_nicmp_ge (x := i) (y := w) rfl rfl (by omega) (by omega) (fun z => by omega) (fun g1 => ?_)
    refine R_aload_n rfl rfl ?_
    refine R_bipush (v := 48) rfl (by decide) ?_
    refine R_aload_n rfl rfl ?_
    refine R_iload_n rfl rfl ?_
    refine R_iconst (v := 1) rfl rfl ?_
    refine R_iload_n rfl rfl ?_
    refine R_iconst (v := 1) rfl rfl ?_
    refine R_iaddN (x := r) (y := 1) rfl ?_
    refine R_shl1N (y := (r + 1)) rfl (by omega) ?_
    refine R_iconst (v := 1) rfl rfl ?_
    refine R_isubN (x := (2 ^ (r + 1))) (y := 1) rfl (Nat.pos_of_ne_zero (by simp)) ?_
    refine R_iconst (v := 1) rfl rfl ?_
    refine R_iload_n rfl rfl ?_
    refine R_iconst (v := 1) rfl rfl ?_
    refine R_iaddN (x := i) (y := 1) rfl ?_
    refine R_shl1N (y := (i + 1)) rfl (by omega) ?_
    refine R_iconst (v := 1) rfl rfl ?_
    refine R_isubN (x := (2 ^ (i + 1))) (y := 1) rfl (Nat.pos_of_ne_zero (by simp)) ?_
    refine R_cV (as := [.int (nI m), .int (nI ((2 ^ (r + 1)) - 1)), .int (nI ((2 ^ (i + 1)) - 1))]) rfl rfl iv_M_rankBy (sp_rankBy (m := m) (S := ((2 ^ (r + 1)) - 1)) (T := ((2 ^ (i + 1)) - 1)) (hI.1.mV hv (fun b => by unfold pOq; omega) (fun b => by unfold pOq; omega) (by unfold pOq; omega)) hs (by omega) (by first | assumption | exact lw_lt (by omega) | exact wi_lt (by first | assumption | omega) (by omega) | exact wo_lt (by first | assumption | omega) (by omega) | omega) (by first | assumption | exact lwP2 (by omega) | omega)) (by omega) rfl rfl rfl (by decide) rfl rfl (Nat.le_of_ble_eq_true rfl) (fun σ2 hσ2 => ?_)
    refine R_iaddN (x := 48) (y := (rkO f m ((2 ^ (r + 1)) - 1) ((2 ^ (i + 1)) - 1) h w)) rfl ?_
    refine R_cV (as := [.int (nI (48 + (rkO f m ((2 ^ (r + 1)) - 1) ((2 ^ (i + 1)) - 1) h w)))]) rfl rfl iv_M_write (sp_mwrite (x := (nI (48 + (rkO f m ((2 ^ (r + 1)) - 1) ((2 ^ (i + 1)) - 1) h w)))) (ch_d (by omega)).1 (hI.2.2.fr hσ2 ⟨by unfold pW; omega, fun b => by unfold pW; omega⟩) (by first | omega | (simp only [List.length_append, List.length_cons, List.length_nil]; omega))) (by omega) rfl rfl rfl (by decide) rfl rfl (Nat.le_of_ble_eq_true rfl) (fun τ4 hτ4 => ?_)
    obtain ⟨pτ4, oτ4⟩ := hτ4
    refine R_iincN (x := i) (m := 1) rfl rfl rfl (by decide) ?_
    refine R_goto rfl rfl ?_
    have e := ih (i + 1) τ4 (by omega) ⟨((hI.1.trans (hσ2.mono (q := pOq) pOq_W)).trans (pτ4.mono (q := pOq) (fun a b => by unfold pOm pOq; omega))), ((pτ4.i (by unfold pOm; omega)).trans ((hσ2.i (by unfold pW; omega)).trans hI.2.1)), by rw [show rkR f m h w r (i + 1) = rkR f m h w r i ++ nuL (nI (rkO f m (2 ^ (r + 1) - 1) (2 ^ (i + 1) - 1) h w)).toInt64 from rfl, (ch_d (k := (rkO f m (2 ^ (r + 1) - 1) (2 ^ (i + 1) - 1) h w)) (by omega)).2, ← List.append_assoc]; exact oτ4⟩
    exact e.weak ⟨rfl, rfl, rfl, rfl, trivial⟩
set_option maxRecDepth 100000 in
set_option maxHeartbeats 4000000 in
theorem lp_mrko {σ : am_G} {h w m : Nat} {f : am_Gr} {d k0 : Nat} (hv : mV σ h w f) (hs : fSm f h w) (hm : m < 2 ^ 31) (hd : 6 ≤ d)  : ∀ (uu i : Nat) (τ : am_G), i + uu = h → (smP pOq σ τ ∧ τ.1 120 0 = 0 ∧ oM τ (rkN f m h w i)) → am_R am_TX d k0 c_M_writeRanks 20 [some (.ref 120), some (.int (nI m)), some (.int (nI i)), none] [] (mm τ) (am_Ok (some (.int (nI (rkN f m h w h).length))) (fun σ1 => smP pOq σ σ1 ∧ σ1.1 120 0 = 0 ∧ oM σ1 (rkN f m h w h))) := by
  have hh1 := hv.1.1.1
  have hh6 := hv.1.1.2
  have hw1 := hv.1.2.1
  have hw6 := hv.1.2.2
  intro uu
  induction uu with
  | zero =>
    intro i τ hi hI
    obtain rfl : h = i := by omega
    skip
    refine R_iload_n rfl rfl ?_
    refine R_aload_n rfl rfl ?_
    refine R_cV (as := []) rfl rfl iv_M_rows (sp_rows (hI.1.mV hv (fun b => by unfold pOq; omega) (fun b => by unfold pOq; omega) (by unfold pOq; omega))) (by omega) rfl rfl rfl (by decide) rfl rfl (Nat.le_of_ble_eq_true rfl) (fun _ q => ?_)
    obtain rfl := q.symm
    refine R_nicmp_ge (x := h) (y := h) rfl rfl (by omega) (by omega) (fun g1 => ?_) (fun z => by omega)
    refine R_aload_n rfl rfl ?_
    refine R_gIN (n := (rkN f m h w h).length) rfl rfl fd_11_27 hI.2.2.1 ?_
    exact T_ireturn rfl rfl (am_oki rfl hI)
  | succ uu ih =>
    intro i τ hi hI
    have hnl := @rkN_len f m h w hh6 i
    have hrl := @rkR_len f m h w i hh6 w
    have hlm : (w + 1) * i ≤ 7 * 6 := Nat.mul_le_mul (by omega) (by omega)
    refine R_iload_n rfl rfl ?_
    refine R_aload_n rfl rfl ?_
    refine R_cV (as := []) rfl rfl iv_M_rows (sp_rows (hI.1.mV hv (fun b => by unfold pOq; omega) (fun b => by unfold pOq; omega) (by unfold pOq; omega))) (by omega) rfl rfl rfl (by decide) rfl rfl (Nat.le_of_ble_eq_true rfl) (fun _ q => ?_)
    obtain rfl := q.symm
    refine R_nicmp_ge (x := i) (y := h) rfl rfl (by omega) (by omega) (fun z => by omega) (fun g1 => ?_)
    refine R_iconst (v := 0) rfl rfl ?_
    refine R_istore_n rfl (by decide) ?_
    refine (lp_mrki (L := rkN f m h w i) (r := i) (hI.1.mV hv (fun b => by unfold pOq; omega) (fun b => by unfold pOq; omega) (by unfold pOq; omega)) hs hm (by omega) (by omega) (by omega) (fun τ1 hτ1 => ?_) w 0 τ (by omega) ⟨smP.refl, hI.2.1, by rw [show rkR f m h w i 0 = [] from rfl, List.append_nil]; exact hI.2.2⟩).weak ⟨rfl, rfl, rfl, rfl, trivial⟩
    refine R_aload_n rfl rfl ?_
    refine R_bipush (v := 10) rfl (by decide) ?_
    refine R_cV (as := [.int 10]) rfl rfl iv_M_write (sp_mwrite (x := 10) rfl hτ1.2.2 (by first | omega | (simp only [List.length_append, List.length_cons, List.length_nil]; omega))) (by omega) rfl rfl rfl (by decide) rfl rfl (Nat.le_of_ble_eq_true rfl) (fun τ2 hτ2 => ?_)
    obtain ⟨pτ2, oτ2⟩ := hτ2
    refine R_iincN (x := i) (m := 1) rfl rfl rfl (by decide) ?_
    refine R_goto rfl rfl ?_
    have e := ih (i + 1) τ2 (by omega) ⟨((hI.1.trans hτ1.1).trans (pτ2.mono (q := pOq) (fun a b => by unfold pOm pOq; omega))), ((pτ2.i (by unfold pOm; omega)).trans hτ1.2.1), by rw [show rkN f m h w (i + 1) = rkN f m h w i ++ (rkR f m h w i w ++ [10]) from rfl, ← List.append_assoc]; exact oτ2⟩
    exact e.weak ⟨rfl, rfl, rfl, trivial⟩
set_option maxRecDepth 100000 in
set_option maxHeartbeats 4000000 in
theorem sp_M_writeRanks {σ : am_G} {h w rh pn : Nat} {f v rl : am_Gr} {I : Nat → Int32} {m : Nat} (hn : nV σ h w f v rh rl pn I) (hmd : m ∈ mdL) : am_Call am_TX 16 0 c_M_writeRanks [.ref 120, .int (nI m)] (mm σ) (am_Ok (some (.int (nI (rkN f m h w h).length))) (fun σ1 => smP pOq σ σ1 ∧ σ1.1 120 0 = 0 ∧ oM σ1 (rkN f m h w h))) := by
  have hv := hn.toV
  have hs := hn.2.1.2.1
  have hh1 := hv.1.1.1
  have hh6 := hv.1.1.2
  have hw1 := hv.1.2.1
  have hw6 := hv.1.2.2
  have hp6 := hn.2.1.2.2.2.1.1
  have hr6 := hn.2.1.2.2.2.2.2.2.1
  have hs7 := lw_lt hh6
  have ws7 := lw_lt hw6
  have hm97 := md_97 hmd
  refine ⟨mf_M_writeRanks, Nat.le_of_ble_eq_true rfl, ?_⟩
  refine R_aload_n rfl rfl ?_
  refine R_iload_n rfl rfl ?_
  refine R_cS (as := [.int (nI m)]) rfl rfl iv_M_isModulus (isMod_1 hmd) (by omega) rfl rfl rfl rfl (Nat.le_of_ble_eq_true rfl) (fun _ q => ?_)
  obtain rfl := q.symm
  refine R_cV (as := [.int 1]) rfl rfl iv_M_passes (pass_1) (by omega) rfl rfl rfl (by decide) rfl rfl (Nat.le_of_ble_eq_true rfl) (fun _ q => ?_)
  obtain rfl := q.symm
  refine R_if_ne rfl rfl (fun _ => ?_) (fun z => absurd z (by decide))
  refine R_aload_n rfl rfl ?_
  refine R_iconst (v := 0) rfl rfl ?_
  refine R_pI rfl rfl fw_11_27 rfl ?_
  refine R_iconst (v := 0) rfl rfl ?_
  refine R_istore_n rfl (by decide) ?_
  exact (am_R.mono (lp_mrko (((smP_sI (p := pOq) (k := 120) (j := 0) (x := 0) (by unfold pOq; omega)).trans (smP_sI (p := pOq) (k := 120) (j := 27) (x := 0) (by unfold pOq; omega))).mV hv (fun b => by unfold pOq; omega) (fun b => by unfold pOq; omega) (by unfold pOq; omega)) hs (by omega) (by omega) h 0 _ (by omega) ⟨smP.refl, ((sI_o (Or.inr (by decide))).trans sI_s), oM_nil⟩) (am_Ok.mono fun σ1 z => ⟨((smP_sI (p := pOq) (k := 120) (j := 0) (x := 0) (by unfold pOq; omega)).trans (smP_sI (p := pOq) (k := 120) (j := 27) (x := 0) (by unfold pOq; omega))).trans z.1, z.2⟩)).weak ⟨rfl, rfl, rfl, trivial⟩
set_option maxRecDepth 100000 in
set_option maxHeartbeats 4000000 in
theorem sp_M_writeRanks_x0 {σ : am_G} {h w rh pn : Nat} {f v rl : am_Gr} {I : Nat → Int32} {x : Int32} (hn : nV σ h w f v rh rl pn I) (hb : ∀ n, n ∈ mdL → x ≠ nI n) : am_Call am_TX 14 0 c_M_writeRanks [.ref 120, .int x] (mm σ) (am_Ok (some (.int 0)) (fun σ1 => smP pQ σ σ1 ∧ σ1.1 120 0 = 1)) := by
  have hv := hn.toV
  have hs := hn.2.1.2.1
  have hh1 := hv.1.1.1
  have hh6 := hv.1.1.2
  have hw1 := hv.1.2.1
  have hw6 := hv.1.2.2
  have hp6 := hn.2.1.2.2.2.1.1
  have hr6 := hn.2.1.2.2.2.2.2.2.1
  have hs7 := lw_lt hh6
  have ws7 := lw_lt hw6
  refine ⟨mf_M_writeRanks, Nat.le_of_ble_eq_true rfl, ?_⟩
  refine R_aload_n rfl rfl ?_
  refine R_iload_n rfl rfl ?_
  refine R_cS (as := [.int x]) rfl rfl iv_M_isModulus (isMod_0 hb) (by omega) rfl rfl rfl rfl (Nat.le_of_ble_eq_true rfl) (fun _ q => ?_)
  obtain rfl := q.symm
  refine R_cV (as := [.int 0]) rfl rfl iv_M_passes (pass_0) (by omega) rfl rfl rfl (by decide) rfl rfl (Nat.le_of_ble_eq_true rfl) (fun _ q => ?_)
  obtain rfl := q.symm
  refine R_if_ne rfl rfl (fun z => absurd z (by decide)) (fun _ => ?_)
  refine R_iconst (v := 0) rfl rfl ?_
  exact T_ireturn rfl rfl (am_oki rfl ⟨(smP_sI (p := pQ) (k := 120) (j := 0) (x := 1) (by unfold pQ; omega)), sI_s⟩)
set_option maxRecDepth 100000 in
set_option maxHeartbeats 4000000 in
theorem lp_mwr {σ : am_G} {g : am_Gr} {d k0 : Nat} (hxv : xV σ (g 0)) (hd : 4 ≤ d)  : ∀ (uu i : Nat) (τ : am_G), i + uu = 6 → (smP pOm σ τ ∧ oM τ (rwR g i)) → am_R am_TX d k0 c_M_writeRelation 41 [some (.ref 120), none, none, some (.int (nI i))] [] (mm τ) (am_Ok (some (.int (nI (rwR g 6).length))) (fun σ1 => smP pOm σ σ1 ∧ oM σ1 (rwR g 6))) := by
  intro uu
  induction uu with
  | zero =>
    intro i τ hi hI
    obtain rfl : 6 = i := by omega
    skip
    refine R_iload_n rfl rfl ?_
    refine R_bipush (v := 6) rfl (by decide) ?_
    refine R_nicmp_ge (x := 6) (y := 6) rfl rfl (by omega) (by omega) (fun g1 => ?_) (fun z => by omega)
    refine R_aload_n rfl rfl ?_
    refine R_gIN (n := (rwR g 6).length) rfl rfl fd_11_27 hI.2.1 ?_
    exact T_ireturn rfl rfl (am_oki rfl hI)
  | succ uu ih =>
    intro i τ hi hI
    have hrl := @rwR_len g i
    have h1n := @nuL_len (g 0 i)
    have h2n := @nuL_len (nI i).toInt64
    refine R_iload_n rfl rfl ?_
    refine R_bipush (v := 6) rfl (by decide) ?_
    refine R_nicmp_ge (x := i) (y := 6) rfl rfl (by omega) (by omega) (fun z => by omega) (fun g1 => ?_)
    refine R_aload_n rfl rfl ?_
    refine R_gP (x := 125) rfl rfl fp_11_10 rfl ?_
    refine R_iload_n rfl rfl ?_
    refine R_xL (j := i) rfl rfl rfl (by omega) (by decide) ?_
    rw [show τ.2.1 125 i = g 0 i from (hI.1.1 125 i (by unfold pOm; omega)).2.trans (hxv i (by omega))]
    refine R_lconst (v := 0) rfl rfl ?_
    refine R_l_ne rfl rfl rfl (fun g2 => ?_) (fun g2 => ?_)
    · refine R_aload_n rfl rfl ?_
      refine R_gIN (n := (rwR g i).length) rfl rfl fd_11_27 hI.2.1 ?_
      refine R_nif_le (x := ((rwR g i).length)) rfl rfl (by omega) (fun g3 => ?_) (fun g3 => ?_)
      · refine R_aload_n rfl rfl ?_
        refine R_aload_n rfl rfl ?_
        refine R_gP (x := 125) rfl rfl fp_11_10 rfl ?_
        refine R_iload_n rfl rfl ?_
        refine R_xL (j := i) rfl rfl rfl (by omega) (by decide) ?_
        rw [show τ.2.1 125 i = g 0 i from (hI.1.1 125 i (by unfold pOm; omega)).2.trans (hxv i (by omega))]
        refine R_cV (as := [.long (g 0 i)]) rfl rfl iv_M_writeNumber (sp_mwriteNumber (v := (g 0 i)) hI.2 (by first | omega | (simp only [List.length_append, List.length_cons, List.length_nil]; omega))) (by omega) rfl rfl rfl (by decide) rfl rfl (Nat.le_of_ble_eq_true rfl) (fun τ1 hτ1 => ?_)
        obtain ⟨pτ1, oτ1⟩ := hτ1
        refine R_aload_n rfl rfl ?_
        refine R_bipush (v := 42) rfl (by decide) ?_
        refine R_cV (as := [.int 42]) rfl rfl iv_M_write (sp_mwrite (x := 42) rfl oτ1 (by first | omega | (simp only [List.length_append, List.length_cons, List.length_nil]; omega))) (by omega) rfl rfl rfl (by decide) rfl rfl (Nat.le_of_ble_eq_true rfl) (fun τ3 hτ3 => ?_)
        obtain ⟨pτ3, oτ3⟩ := hτ3
        refine R_aload_n rfl rfl ?_
        refine R_bipush (v := 114) rfl (by decide) ?_
        refine R_cV (as := [.int 114]) rfl rfl iv_M_write (sp_mwrite (x := 114) rfl oτ3 (by first | omega | (simp only [List.length_append, List.length_cons, List.length_nil]; omega))) (by omega) rfl rfl rfl (by decide) rfl rfl (Nat.le_of_ble_eq_true rfl) (fun τ5 hτ5 => ?_)
        obtain ⟨pτ5, oτ5⟩ := hτ5
        refine R_aload_n rfl rfl ?_
        refine R_iload_n rfl rfl ?_
        refine R_i2l rfl ?_
        refine R_cV (as := [.long ((nI i).toInt64)]) rfl rfl iv_M_writeNumber (sp_mwriteNumber (v := ((nI i).toInt64)) oτ5 (by first | omega | (simp only [List.length_append, List.length_cons, List.length_nil]; omega))) (by omega) rfl rfl rfl (by decide) rfl rfl (Nat.le_of_ble_eq_true rfl) (fun τ7 hτ7 => ?_)
        obtain ⟨pτ7, oτ7⟩ := hτ7
        refine R_iincN (x := i) (m := 1) rfl rfl rfl (by decide) ?_
        refine R_goto rfl rfl ?_
        have e := ih (i + 1) τ7 (by omega) ⟨((((hI.1.trans pτ1).trans pτ3).trans pτ5).trans pτ7), by rw [show rwR g (i + 1) = (((rwR g i ++ []) ++ nuL (g 0 i)) ++ [42, 114]) ++ nuL (nI i).toInt64 from by simp only [rwR]; rw [if_neg g2]; rw [if_neg (by omega)]]; have o := oτ7; simp only [List.append_assoc, List.nil_append, List.cons_append] at o ⊢; exact o⟩
        exact e.weak ⟨rfl, rfl, trivial⟩
      · refine R_aload_n rfl rfl ?_
        refine R_bipush (v := 32) rfl (by decide) ?_
        refine R_cV (as := [.int 32]) rfl rfl iv_M_write (sp_mwrite (x := 32) rfl hI.2 (by first | omega | (simp only [List.length_append, List.length_cons, List.length_nil]; omega))) (by omega) rfl rfl rfl (by decide) rfl rfl (Nat.le_of_ble_eq_true rfl) (fun τ9 hτ9 => ?_)
        obtain ⟨pτ9, oτ9⟩ := hτ9
        refine R_aload_n rfl rfl ?_
        refine R_aload_n rfl rfl ?_
        refine R_gP (x := 125) rfl rfl fp_11_10 rfl ?_
        refine R_iload_n rfl rfl ?_
        refine R_xL (j := i) rfl rfl rfl (by omega) (by decide) ?_
        rw [show τ9.2.1 125 i = g 0 i from ((hI.1.trans pτ9).1 125 i (by unfold pOm; omega)).2.trans (hxv i (by omega))]
        refine R_cV (as := [.long (g 0 i)]) rfl rfl iv_M_writeNumber (sp_mwriteNumber (v := (g 0 i)) oτ9 (by first | omega | (simp only [List.length_append, List.length_cons, List.length_nil]; omega))) (by omega) rfl rfl rfl (by decide) rfl rfl (Nat.le_of_ble_eq_true rfl) (fun τ11 hτ11 => ?_)
        obtain ⟨pτ11, oτ11⟩ := hτ11
        refine R_aload_n rfl rfl ?_
        refine R_bipush (v := 42) rfl (by decide) ?_
        refine R_cV (as := [.int 42]) rfl rfl iv_M_write (sp_mwrite (x := 42) rfl oτ11 (by first | omega | (simp only [List.length_append, List.length_cons, List.length_nil]; omega))) (by omega) rfl rfl rfl (by decide) rfl rfl (Nat.le_of_ble_eq_true rfl) (fun τ13 hτ13 => ?_)
        obtain ⟨pτ13, oτ13⟩ := hτ13
        refine R_aload_n rfl rfl ?_
        refine R_bipush (v := 114) rfl (by decide) ?_
        refine R_cV (as := [.int 114]) rfl rfl iv_M_write (sp_mwrite (x := 114) rfl oτ13 (by first | omega | (simp only [List.length_append, List.length_cons, List.length_nil]; omega))) (by omega) rfl rfl rfl (by decide) rfl rfl (Nat.le_of_ble_eq_true rfl) (fun τ15 hτ15 => ?_)
        obtain ⟨pτ15, oτ15⟩ := hτ15
        refine R_aload_n rfl rfl ?_
        refine R_iload_n rfl rfl ?_
        refine R_i2l rfl ?_
        refine R_cV (as := [.long ((nI i).toInt64)]) rfl rfl iv_M_writeNumber (sp_mwriteNumber (v := ((nI i).toInt64)) oτ15 (by first | omega | (simp only [List.length_append, List.length_cons, List.length_nil]; omega))) (by omega) rfl rfl rfl (by decide) rfl rfl (Nat.le_of_ble_eq_true rfl) (fun τ17 hτ17 => ?_)
        obtain ⟨pτ17, oτ17⟩ := hτ17
        refine R_iincN (x := i) (m := 1) rfl rfl rfl (by decide) ?_
        refine R_goto rfl rfl ?_
        have e := ih (i + 1) τ17 (by omega) ⟨(((((hI.1.trans pτ9).trans pτ11).trans pτ13).trans pτ15).trans pτ17), by rw [show rwR g (i + 1) = (((rwR g i ++ [32]) ++ nuL (g 0 i)) ++ [42, 114]) ++ nuL (nI i).toInt64 from by simp only [rwR]; rw [if_neg g2]; rw [if_pos (by omega)]]; have o := oτ17; simp only [List.append_assoc, List.nil_append, List.cons_append] at o ⊢; exact o⟩
        exact e.weak ⟨rfl, rfl, trivial⟩
    · refine R_goto rfl rfl ?_
      refine R_iincN (x := i) (m := 1) rfl rfl rfl (by decide) ?_
      refine R_goto rfl rfl ?_
      have e := ih (i + 1) τ (by omega) ⟨hI.1, by rw [show rwR g (i + 1) = rwR g i from by simp only [rwR]; exact if_pos g2]; exact hI.2⟩
      exact e.weak ⟨rfl, rfl, trivial⟩
set_option maxRecDepth 100000 in
set_option maxHeartbeats 4000000 in
theorem sp_M_writeRelation {σ : am_G} {h w rh pn : Nat} {f v rl : am_Gr} {I : Nat → Int32} {r : Nat} (hn : nV σ h w f v rh rl pn I) (r_h : r < h) (hnp : ¬ (prR f 0 h w h).testBit r = true) : am_Call am_TX 16 0 c_M_writeRelation [.ref 120, .int (nI r)] (mm σ) (am_Ok (some (.int (nI (rwR (rlG f 0 h w r) h).length))) (fun σ1 => smP pOq σ σ1 ∧ σ1.1 120 0 = 0 ∧ oM σ1 (rwR (rlG f 0 h w r) h))) := by
  have hv := hn.toV
  have hs := hn.2.1.2.1
  have hh1 := hv.1.1.1
  have hh6 := hv.1.1.2
  have hw1 := hv.1.2.1
  have hw6 := hv.1.2.2
  have hp6 := hn.2.1.2.2.2.1.1
  have hr6 := hn.2.1.2.2.2.2.2.2.1
  have hs7 := lw_lt hh6
  have ws7 := lw_lt hw6
  refine ⟨mf_M_writeRelation, Nat.le_of_ble_eq_true rfl, ?_⟩
  refine R_aload_n rfl rfl ?_
  refine R_iload_n rfl rfl ?_
  refine R_cV (as := [.int (nI r)]) rfl rfl iv_M_isRow (isRow_1 (n := r) hv (by omega)) (by omega) rfl rfl rfl (by decide) rfl rfl (Nat.le_of_ble_eq_true rfl) (fun _ q => ?_)
  obtain rfl := q.symm
  refine R_istore_n rfl (by decide) ?_
  refine R_aload_n rfl rfl ?_
  refine R_iload_n rfl rfl ?_
  refine R_iload_n rfl rfl ?_
  refine R_if_eq rfl rfl (fun z => absurd z (by decide)) (fun _ => ?_)
  refine R_aload_n rfl rfl ?_
  refine R_iconst (v := 0) rfl rfl ?_
  refine R_iload_n rfl rfl ?_
  refine R_cV (as := [.int 0, .int (nI r)]) rfl rfl iv_M_layRelation (lay_1 (m := 0) (r := r) hv hs (show (0 : Nat) ∈ mdL by decide) (by omega) hnp) (by omega) rfl rfl rfl (by decide) rfl rfl (Nat.le_of_ble_eq_true rfl) (fun σ2 hσ2 => ?_)
  obtain ⟨hσ2, hx⟩ := hσ2
  refine R_if_eq rfl rfl (fun z => absurd z (by decide)) (fun _ => ?_)
  refine R_iconst (v := 1) rfl rfl ?_
  refine R_goto rfl rfl ?_
  refine R_cV (as := [.int 1, .int 1]) rfl rfl iv_M_passes2 (pass2_11) (by omega) rfl rfl rfl (by decide) rfl rfl (Nat.le_of_ble_eq_true rfl) (fun _ q => ?_)
  obtain rfl := q.symm
  refine R_if_ne rfl rfl (fun _ => ?_) (fun z => absurd z (by decide))
  refine R_aload_n rfl rfl ?_
  refine R_iconst (v := 0) rfl rfl ?_
  refine R_pI rfl rfl fw_11_27 rfl ?_
  refine R_iconst (v := 0) rfl rfl ?_
  refine R_istore_n rfl (by decide) ?_
  have e6 := rwR_hi (g := (rlG f 0 h w r)) (h := h) (fun k a b => rlG_hi r_h hh6 a b) (6 - h) (by omega)
  rw [show h + (6 - h) = 6 by omega] at e6
  rw [← e6]
  exact (am_R.mono (lp_mwr (σ := (sI (sI σ2 120 0 0) 120 27 0)) (g := (rlG f 0 h w r)) hx (by omega) 6 0 _ (by omega) ⟨smP.refl, oM_nil⟩) (am_Ok.mono fun σ1 z => ⟨(((hσ2.mono (q := pOq) pOq_L).trans (smP_sI (p := pOq) (k := 120) (j := 0) (x := 0) (by unfold pOq; omega))).trans (smP_sI (p := pOq) (k := 120) (j := 27) (x := 0) (by unfold pOq; omega))).trans (z.1.mono pOq_O), (z.1.i (by unfold pOm; omega)).trans ((sI_o (Or.inr (by decide))).trans sI_s), z.2⟩)).weak ⟨rfl, rfl, trivial⟩
set_option maxRecDepth 100000 in
set_option maxHeartbeats 4000000 in
theorem sp_M_writeRelation_x0 {σ : am_G} {h w rh pn : Nat} {f v rl : am_Gr} {I : Nat → Int32} {x : Int32} (hn : nV σ h w f v rh rl pn I) (hb : ¬ (0 ≤ x ∧ x < nI h)) : am_Call am_TX 14 0 c_M_writeRelation [.ref 120, .int x] (mm σ) (am_Ok (some (.int 0)) (fun σ1 => smP pQ σ σ1 ∧ σ1.1 120 0 = 1)) := by
  have hv := hn.toV
  have hs := hn.2.1.2.1
  have hh1 := hv.1.1.1
  have hh6 := hv.1.1.2
  have hw1 := hv.1.2.1
  have hw6 := hv.1.2.2
  have hp6 := hn.2.1.2.2.2.1.1
  have hr6 := hn.2.1.2.2.2.2.2.2.1
  have hs7 := lw_lt hh6
  have ws7 := lw_lt hw6
  refine ⟨mf_M_writeRelation, Nat.le_of_ble_eq_true rfl, ?_⟩
  refine R_aload_n rfl rfl ?_
  refine R_iload_n rfl rfl ?_
  refine R_cV (as := [.int x]) rfl rfl iv_M_isRow (isRow_0 hv hb) (by omega) rfl rfl rfl (by decide) rfl rfl (Nat.le_of_ble_eq_true rfl) (fun _ q => ?_)
  obtain rfl := q.symm
  refine R_istore_n rfl (by decide) ?_
  refine R_aload_n rfl rfl ?_
  refine R_iload_n rfl rfl ?_
  refine R_iload_n rfl rfl ?_
  refine R_if_eq rfl rfl (fun _ => ?_) (fun z => absurd z (by decide))
  refine R_iconst (v := 0) rfl rfl ?_
  refine R_cV (as := [.int 0, .int 0]) rfl rfl iv_M_passes2 (pass2_00) (by omega) rfl rfl rfl (by decide) rfl rfl (Nat.le_of_ble_eq_true rfl) (fun _ q => ?_)
  obtain rfl := q.symm
  refine R_if_ne rfl rfl (fun z => absurd z (by decide)) (fun _ => ?_)
  refine R_iconst (v := 0) rfl rfl ?_
  exact T_ireturn rfl rfl (am_oki rfl ⟨(smP_sI (p := pQ) (k := 120) (j := 0) (x := 1) (by unfold pQ; omega)), sI_s⟩)
set_option maxRecDepth 100000 in
set_option maxHeartbeats 4000000 in
theorem sp_M_writeRelation_n {σ : am_G} {h w rh pn : Nat} {f v rl : am_Gr} {I : Nat → Int32} {r : Nat} (hn : nV σ h w f v rh rl pn I) (r_h : r < h) (hnp : (prR f 0 h w h).testBit r = true) : am_Call am_TX 14 0 c_M_writeRelation [.ref 120, .int (nI r)] (mm σ) (am_Ok (some (.int 0)) (fun σ1 => smP pQ σ σ1 ∧ σ1.1 120 0 = 2)) := by
  have hv := hn.toV
  have hs := hn.2.1.2.1
  have hh1 := hv.1.1.1
  have hh6 := hv.1.1.2
  have hw1 := hv.1.2.1
  have hw6 := hv.1.2.2
  have hp6 := hn.2.1.2.2.2.1.1
  have hr6 := hn.2.1.2.2.2.2.2.2.1
  have hs7 := lw_lt hh6
  have ws7 := lw_lt hw6
  refine ⟨mf_M_writeRelation, Nat.le_of_ble_eq_true rfl, ?_⟩
  refine R_aload_n rfl rfl ?_
  refine R_iload_n rfl rfl ?_
  refine R_cV (as := [.int (nI r)]) rfl rfl iv_M_isRow (isRow_1 (n := r) hv (by omega)) (by omega) rfl rfl rfl (by decide) rfl rfl (Nat.le_of_ble_eq_true rfl) (fun _ q => ?_)
  obtain rfl := q.symm
  refine R_istore_n rfl (by decide) ?_
  refine R_aload_n rfl rfl ?_
  refine R_iload_n rfl rfl ?_
  refine R_iload_n rfl rfl ?_
  refine R_if_eq rfl rfl (fun z => absurd z (by decide)) (fun _ => ?_)
  refine R_aload_n rfl rfl ?_
  refine R_iconst (v := 0) rfl rfl ?_
  refine R_iload_n rfl rfl ?_
  refine R_cV (as := [.int 0, .int (nI r)]) rfl rfl iv_M_layRelation (lay_0 (m := 0) (r := r) hv hs (show (0 : Nat) ∈ mdL by decide) (by omega) hnp) (by omega) rfl rfl rfl (by decide) rfl rfl (Nat.le_of_ble_eq_true rfl) (fun σ2 hσ2 => ?_)
  refine R_if_eq rfl rfl (fun _ => ?_) (fun z => absurd z (by decide))
  refine R_iconst (v := 0) rfl rfl ?_
  refine R_cV (as := [.int 1, .int 0]) rfl rfl iv_M_passes2 (pass2_10) (by omega) rfl rfl rfl (by decide) rfl rfl (Nat.le_of_ble_eq_true rfl) (fun _ q => ?_)
  obtain rfl := q.symm
  refine R_if_ne rfl rfl (fun z => absurd z (by decide)) (fun _ => ?_)
  refine R_iconst (v := 0) rfl rfl ?_
  exact T_ireturn rfl rfl (am_oki rfl ⟨((hσ2.mono (q := pQ) pQ_L).trans (smP_sI (p := pQ) (k := 120) (j := 0) (x := 2) (by unfold pQ; omega))), sI_s⟩)
