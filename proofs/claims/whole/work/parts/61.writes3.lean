/-! ===== what is written, 3 ===== -/
def rkR (f : am_Gr) (m h w r : Nat) : Nat → List Int32
  | 0 => []
  | j + 1 => rkR f m h w r j ++ nuL (nI (rkO f m (2 ^ (r + 1) - 1) (2 ^ (j + 1) - 1) h w)).toInt64
theorem rkR_len {f : am_Gr} {m h w r : Nat} (hh : h ≤ 6) : ∀ j, (rkR f m h w r j).length = j
  | 0 => rfl
  | j + 1 => by
    have ih := @rkR_len f m h w r hh j
    show (rkR f m h w r j ++ nuL _).length = _
    rw [nu_1 _ (Nat.lt_of_le_of_lt (rkO_6 hh) (by decide)), List.length_append, ih]
    rfl
def rkN (f : am_Gr) (m h w : Nat) : Nat → List Int32
  | 0 => []
  | i + 1 => rkN f m h w i ++ (rkR f m h w i w ++ [10])
theorem rkN_len {f : am_Gr} {m h w : Nat} (hh : h ≤ 6) : ∀ i, (rkN f m h w i).length = (w + 1) * i
  | 0 => rfl
  | i + 1 => by
    have ih := @rkN_len f m h w hh i
    show (rkN f m h w i ++ (rkR f m h w i w ++ [10])).length = _
    rw [List.length_append, List.length_append, rkR_len hh, ih, Nat.mul_add, Nat.mul_one]
    rfl
set_option maxRecDepth 100000 in
set_option maxHeartbeats 4000000 in
theorem lp_rki {σ : am_G} {h w rh pn : Nat} {f v rl : am_Gr} {I : Nat → Int32} {m r : Nat} {L : List Int32} {d k0 : Nat} {Q : am_Res → Prop} (hv : vS σ 26 h w f v rh rl pn I) (hm : m < 2 ^ 31) (hr : r < h) (hL : L.length + 100 ≤ 1000) (hd : 6 ≤ d) (hx : ∀ (τ : am_G), (smP (plc 14 26) σ τ ∧ oC τ (L ++ rkR f m h w r w)) → am_R am_TX d k0 c_D_writeRanks 79 [some (.ref 0), some (.int (nI m)), some (.int (nI r)), some (.int (nI w))] [] (mm τ) Q) : ∀ (uu i : Nat) (τ : am_G), i + uu = w → (smP (plc 14 26) σ τ ∧ oC τ (L ++ rkR f m h w r i)) → am_R am_TX d k0 c_D_writeRanks 30 [some (.ref 0), some (.int (nI m)), some (.int (nI r)), some (.int (nI i))] [] (mm τ) Q := by
  have hh6 := hv.1.1.2
  have hw6 := hv.1.2.1.2
  have hr6 := hv.2.2.1.1.2
  have hp6 := hv.2.2.2.1.2
  intro uu
  induction uu with
  | zero =>
    intro i τ hi hI
    obtain rfl : w = i := by omega
    skip
    refine R_iload_n rfl rfl ?_
    refine R_aload_n rfl rfl ?_
    refine R_gP (x := 26) rfl rfl fp_10_6 rfl ?_
    refine R_gP (x := 27) rfl rfl fp_9_0 rfl ?_
    refine R_gIN (n := w) rfl rfl fd_4_1 (hI.1.vM hv.1 (fun b => by unfold plc; omega) (fun b => by unfold plc; omega)).2.1.1 ?_
    refine R_nicmp_ge (x := w) (y := w) rfl rfl (by omega) (by omega) (fun h1 => ?_) (fun z => by omega)
    exact hx τ hI
  | succ uu ih =>
    intro i τ hi hI
    have hrl := @rkR_len f m h w r hh6 i
    have hk6 : rkO f m (2 ^ (r + 1) - 1) (2 ^ (i + 1) - 1) h w ≤ 6 := rkO_6 hh6
    refine R_iload_n rfl rfl ?_
    refine R_aload_n rfl rfl ?_
    refine R_gP (x := 26) rfl rfl fp_10_6 rfl ?_
    refine R_gP (x := 27) rfl rfl fp_9_0 rfl ?_
    refine R_gIN (n := w) rfl rfl fd_4_1 (hI.1.vM hv.1 (fun b => by unfold plc; omega) (fun b => by unfold plc; omega)).2.1.1 ?_
    refine R_nicmp_ge (x := i) (y := w) rfl rfl (by omega) (by omega) (fun z => by omega) (fun h1 => ?_)
    refine R_aload_n rfl rfl ?_
    refine R_gP (x := 14) rfl rfl fp_10_3 rfl ?_
    refine R_aload_n rfl rfl ?_
    refine R_gP (x := 16) rfl rfl fp_10_4 rfl ?_
    refine R_aload_n rfl rfl ?_
    refine R_gP (x := 26) rfl rfl fp_10_6 rfl ?_
    refine R_gP (x := 27) rfl rfl fp_9_0 rfl ?_
    refine R_iload_n rfl rfl ?_
    refine R_iload_n rfl rfl ?_
    refine R_iconst (v := 1) rfl rfl ?_
    refine R_iaddN (x := r) (y := 1) rfl ?_
    refine R_iload_n rfl rfl ?_
    refine R_iconst (v := 1) rfl rfl ?_
    refine R_iaddN (x := i) (y := 1) rfl ?_
    refine R_cV (as := [.ref 27, .int (nI m), .int (nI (r + 1)), .int (nI (i + 1))]) rfl rfl iv_Reckoner_cornerRank (sp_cornerRank (m := m) (r := (r + 1)) (c := (i + 1)) im27 (by omega) (hI.1.vM hv.1 (fun b => by unfold plc; omega) (fun b => by unfold plc; omega)) (by omega) (by omega) (by omega)) (by omega) rfl rfl rfl (by decide) rfl rfl (Nat.le_of_ble_eq_true rfl) (fun σ1 hσ1 => ?_)
    refine R_i2l rfl ?_
    refine R_cV (as := [.long ((nI (rkO f m (2 ^ (r + 1) - 1) (2 ^ (i + 1) - 1) h w)).toInt64)]) rfl rfl iv_Output_addNumber (sp_addNumber (v := ((nI (rkO f m (2 ^ (r + 1) - 1) (2 ^ (i + 1) - 1) h w)).toInt64)) (hI.2.fr hσ1 (fun b => by unfold plc; omega)) (by first | omega | (simp only [List.length_append, List.length_cons, List.length_nil]; omega))) (by omega) rfl rfl rfl (by decide) rfl rfl (Nat.le_of_ble_eq_true rfl) (fun τ3 hτ3 => ?_)
    obtain ⟨pτ3, oτ3⟩ := hτ3
    refine R_iincN (x := i) (m := 1) rfl rfl rfl (by decide) ?_
    refine R_goto rfl rfl ?_
    have e := ih (i + 1) τ3 (by omega) ⟨((hI.1.trans (hσ1.mono (q := plc 14 26) (fun a b => by unfold plc; omega))).trans (pτ3.mono (q := plc 14 26) (fun a b => by unfold pO plc; omega))), by rw [show rkR f m h w r (i + 1) = rkR f m h w r i ++ nuL (nI (rkO f m (2 ^ (r + 1) - 1) (2 ^ (i + 1) - 1) h w)).toInt64 from rfl, ← List.append_assoc]; exact oτ3⟩
    exact e.weak ⟨rfl, rfl, rfl, rfl, trivial⟩
set_option maxRecDepth 100000 in
set_option maxHeartbeats 4000000 in
theorem lp_rko {σ : am_G} {h w rh pn : Nat} {f v rl : am_Gr} {I : Nat → Int32} {m : Nat} {d k0 : Nat} (hv : vS σ 26 h w f v rh rl pn I) (hm : m < 2 ^ 31) (hd : 6 ≤ d)  : ∀ (uu i : Nat) (τ : am_G), i + uu = h → (smP (plc 14 26) σ τ ∧ oC τ (rkN f m h w i)) → am_R am_TX d k0 c_D_writeRanks 14 [some (.ref 0), some (.int (nI m)), some (.int (nI i)), none] [] (mm τ) (am_Ok (some (.int (nI (rkN f m h w h).length))) (fun σ1 => smP (plc 14 26) σ σ1 ∧ oC σ1 (rkN f m h w h))) := by
  have hh6 := hv.1.1.2
  have hw6 := hv.1.2.1.2
  have hr6 := hv.2.2.1.1.2
  have hp6 := hv.2.2.2.1.2
  intro uu
  induction uu with
  | zero =>
    intro i τ hi hI
    obtain rfl : h = i := by omega
    skip
    refine R_iload_n rfl rfl ?_
    refine R_aload_n rfl rfl ?_
    refine R_gP (x := 26) rfl rfl fp_10_6 rfl ?_
    refine R_gP (x := 27) rfl rfl fp_9_0 rfl ?_
    refine R_gIN (n := h) rfl rfl fd_4_0 (hI.1.vM hv.1 (fun b => by unfold plc; omega) (fun b => by unfold plc; omega)).1.1 ?_
    refine R_nicmp_ge (x := h) (y := h) rfl rfl (by omega) (by omega) (fun h1 => ?_) (fun z => by omega)
    refine R_aload_n rfl rfl ?_
    refine R_gP (x := 14) rfl rfl fp_10_3 rfl ?_
    refine R_gIN (n := (rkN f m h w h).length) rfl rfl fd_5_0 hI.2.1 ?_
    exact T_ireturn rfl rfl (am_oki rfl hI)
  | succ uu ih =>
    intro i τ hi hI
    have hnl := @rkN_len f m h w hh6 i
    have hrl := @rkR_len f m h w i hh6 w
    have hlm : (w + 1) * i ≤ 7 * 6 := Nat.mul_le_mul (by omega) (by omega)
    refine R_iload_n rfl rfl ?_
    refine R_aload_n rfl rfl ?_
    refine R_gP (x := 26) rfl rfl fp_10_6 rfl ?_
    refine R_gP (x := 27) rfl rfl fp_9_0 rfl ?_
    refine R_gIN (n := h) rfl rfl fd_4_0 (hI.1.vM hv.1 (fun b => by unfold plc; omega) (fun b => by unfold plc; omega)).1.1 ?_
    refine R_nicmp_ge (x := i) (y := h) rfl rfl (by omega) (by omega) (fun z => by omega) (fun h1 => ?_)
    refine R_iconst (v := 0) rfl rfl ?_
    refine R_istore_n rfl (by decide) ?_
    refine (lp_rki (L := rkN f m h w i) (r := i) (hI.1.vS hv (fun a b _ _ => by unfold plc; omega)) hm (by omega) (by omega) (by omega) (fun τ1 hτ1 => ?_) w 0 τ (by omega) ⟨smP.refl, by rw [show rkR f m h w i 0 = [] from rfl, List.append_nil]; exact hI.2⟩).weak ⟨rfl, rfl, rfl, rfl, trivial⟩
    refine R_aload_n rfl rfl ?_
    refine R_gP (x := 14) rfl rfl fp_10_3 rfl ?_
    refine R_ldcSW (i := 11) rfl (List.mem_of_getElem? (i := 11) rfl) ?_
    refine R_cV (as := [.ref (1000 + 11)]) rfl rfl iv_Output_addText (sp_addText (q0 := 11) (bs := [10]) (List.mem_of_getElem? (i := 3) rfl) hτ1.2 (by simp only [List.length_append, List.length_cons, List.length_nil, List.nil_append]; omega)) (by omega) rfl rfl rfl (by decide) rfl rfl (Nat.le_of_ble_eq_true rfl) (fun τ1 hτ1 => ?_)
    obtain ⟨pτ1, oτ1⟩ := hτ1
    refine R_iincN (x := i) (m := 1) rfl rfl rfl (by decide) ?_
    refine R_goto rfl rfl ?_
    have e := ih (i + 1) τ1 (by omega) ⟨((hI.1.trans hτ1.1).trans (pτ1.mono (q := plc 14 26) (fun a b => by unfold pO plc; omega))), by rw [show rkN f m h w (i + 1) = rkN f m h w i ++ (rkR f m h w i w ++ [10]) from rfl, ← List.append_assoc]; exact oτ1⟩
    exact e.weak ⟨rfl, rfl, rfl, trivial⟩
set_option maxRecDepth 100000 in
set_option maxHeartbeats 4000000 in
theorem sp_D_writeRanks {σ : am_G} {h w rh pn : Nat} {f v rl : am_Gr} {I : Nat → Int32} {m : Nat} (hv : vS σ 26 h w f v rh rl pn I) (hmd : m ∈ mdL) : am_Call am_TX 8 0 c_D_writeRanks [.ref 0, .int (nI m)] (mm σ) (am_Ok (some (.int (nI (rkN f m h w h).length))) (fun σ1 => smP (plc 14 26) σ σ1 ∧ oC σ1 (rkN f m h w h))) := by
  have hh6 := hv.1.1.2
  have hw6 := hv.1.2.1.2
  have hr6 := hv.2.2.1.1.2
  have hp6 := hv.2.2.2.1.2
  have hm97 := md_97 hmd
  refine ⟨mf_D_writeRanks, Nat.le_of_ble_eq_true rfl, ?_⟩
  refine R_aload_n rfl rfl ?_
  refine R_iload_n rfl rfl ?_
  refine R_cV (as := [.int (nI m)]) rfl rfl iv_D_requireModulus (sp_requireModulus (m := m) hmd) (by decide) rfl rfl rfl (by decide) rfl rfl (Nat.le_of_ble_eq_true rfl) (fun _ q => ?_)
  obtain rfl := q.symm
  refine R_aload_n rfl rfl ?_
  refine R_gP (x := 14) rfl rfl fp_10_3 rfl ?_
  refine R_cV (as := []) rfl rfl iv_Output_clear (sp_Output_clear) (by decide) rfl rfl rfl (by decide) rfl rfl (Nat.le_of_ble_eq_true rfl) (fun τ2 hτ2 => ?_)
  obtain ⟨pτ2, oτ2⟩ := hτ2
  refine R_iconst (v := 0) rfl rfl ?_
  refine R_istore_n rfl (by decide) ?_
  exact (am_R.mono (lp_rko (((pτ2.mono (q := plc 14 26) (fun a b => by unfold pO plc; omega))).vS hv (fun a b _ _ => by unfold plc; omega)) (by omega) (by omega) h 0 τ2 (by omega) ⟨smP.refl, oτ2⟩) (am_Ok.mono fun σ1 z => ⟨(pτ2.mono (q := plc 14 26) (fun a b => by unfold pO plc; omega)).trans z.1, z.2⟩)).weak ⟨rfl, rfl, rfl, trivial⟩
set_option maxRecDepth 100000 in
set_option maxHeartbeats 4000000 in
theorem sp_D_writeRanks_x0 {σ : am_G} {h w rh pn : Nat} {f v rl : am_Gr} {I : Nat → Int32} {x : Int32} (hv : vS σ 26 h w f v rh rl pn I) (hb : ∀ n, n ∈ mdL → x ≠ nI n) : am_Call am_TX 8 1 c_D_writeRanks [.ref 0, .int x] (mm σ) (am_ThP "java/lang/IllegalArgumentException" (fun σ1 => smP (plc 17 26) σ σ1)) := by
  have hh6 := hv.1.1.2
  have hw6 := hv.1.2.1.2
  have hr6 := hv.2.2.1.1.2
  have hp6 := hv.2.2.2.1.2
  refine ⟨mf_D_writeRanks, Nat.le_of_ble_eq_true rfl, ?_⟩
  refine R_aload_n rfl rfl ?_
  refine R_iload_n rfl rfl ?_
  refine R_cVxP (k := 0) (as := [.int x]) rfl rfl iv_D_requireModulus (sp_requireModulus_x hb) (by decide) rfl rfl rfl (by decide) rfl rfl (Nat.le_of_ble_eq_true rfl) (fun σ' hσ' => Rx_out rfl ⟨σ', rfl, by rw [hσ']; exact smP.refl⟩)
