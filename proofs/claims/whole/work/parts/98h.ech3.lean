/-! ===== the model writes its echelon form ===== -/
theorem nb_lw {h : Nat} (hh : h ≤ 6) : nb (2 ^ h - 1) h = h := by
  have key : ∀ h : Nat, h < 7 → nb (2 ^ h - 1) h = h := by decide +kernel
  exact key h (by omega)
theorem pc_lw {h : Nat} (hh : h ≤ 6) : pc (2 ^ h - 1) = h := by
  have key : ∀ h : Nat, h < 7 → pc (2 ^ h - 1) = h := by decide +kernel
  exact key h (by omega)
theorem EQ_ml {m h w : Nat} {Gc Gm : am_Gr} (hp : m ∈ prL) (hG : ∀ i j, i < h → j < w → rg m (Gc i j) ∧ Gc i j = Gm i j) : ∀ c, c ≤ w → (el m true h w Gc c).2.1 = (ml m h w Gm c).2 ∧ ∃ u, EQ m h w c (ml m h w Gm c).2 (el m true h w Gc c).1 (ml m h w Gm c).1 u
  | 0, _ => by
    refine ⟨rfl, fun _ => 1, fun i hi => ⟨(zdom_p hp).2, fun j hj => ?_⟩, fun i _ _ j hj => absurd hj (Nat.not_lt_zero _), fun i hi => absurd hi (Nat.not_lt_zero _)⟩
    obtain ⟨a, b⟩ := hG i j hi hj
    show rg m (Gc i j) ∧ rg m (Gm i j) ∧ (m : Int) ∣ (Gc i j).toInt - 1 * (Gm i j).toInt
    rw [← b]
    exact ⟨a, a, by rw [Int.one_mul, Int.sub_self]; exact Int.dvd_zero _⟩
  | c + 1, hc => by
    obtain ⟨h1, u, h2⟩ := EQ_ml hp hG c (by omega)
    have hr := (@el_r m true h w Gc c).2
    show (elS m true h w c (el m true h w Gc c)).2.1 = (mcS m h w c (ml m h w Gm c)).2 ∧ ∃ u, EQ m h w (c + 1) (mcS m h w c (ml m h w Gm c)).2 (elS m true h w c (el m true h w Gc c)).1 (mcS m h w c (ml m h w Gm c)).1 u
    generalize el m true h w Gc c = s at *
    generalize ml m h w Gm c = t at *
    obtain ⟨s1, s2, s3⟩ := s
    obtain ⟨t1, t2⟩ := t
    dsimp only at h1 h2 hr
    subst h1
    unfold elS mcS
    dsimp only
    by_cases hq : pv s1 h s2 c < h
    · obtain ⟨e1, u2, e2⟩ := EQ_step (pp := s3) hp (by omega) h2 hq
      rw [if_pos hq, e1, if_pos hq]
      exact ⟨rfl, u2, e2⟩
    · obtain ⟨e1, e2⟩ := EQ_skip hp (by omega) hr h2 hq
      rw [if_neg hq, if_neg e1]
      exact ⟨rfl, u, e2⟩
theorem ffN_at {G : am_Gr} {i w q : Nat} (h0 : ∀ j, j < q → G i j = 0) (hq : q < w) (hz : ¬ G i q = 0) : ∀ u t, t + u = w → t ≤ q → ffN G i u t = G i q
  | 0, t, a, b => by omega
  | u + 1, t, a, b => by
    simp only [ffN]
    rcases Nat.lt_or_eq_of_le b with c | c
    · rw [if_pos (h0 t c)]
      exact ffN_at h0 hq hz u (t + 1) (by omega) c
    · subst c
      rw [if_neg hz]
theorem ech_eq {f W : am_Gr} {m h w : Nat} (hp : m ∈ prL) (hh : h ≤ 6) (hw : w ≤ 6) : ecR f m h w = (ml m h w (laG f m (2 ^ h - 1) (2 ^ w - 1) w W h 0) w).2 ∧ ∀ i j, i < ecR f m h w → j < w → ecG f m h w i j = (ml m h w (laG f m (2 ^ h - 1) (2 ^ w - 1) w W h 0) w).1 i j := by
  have hb := prL_le m hp
  have hnw : nb (2 ^ w - 1) w = w := nb_lw hw
  have hG : ∀ i j, i < h → j < w → rg m (gaA f m (2 ^ h - 1) (2 ^ w - 1) h w i j) ∧ gaA f m (2 ^ h - 1) (2 ^ w - 1) h w i j = laG f m (2 ^ h - 1) (2 ^ w - 1) w W h 0 i j := fun i j hi hj => by
    have e : gaA f m (2 ^ h - 1) (2 ^ w - 1) h w i j = rdL m (f (sel (2 ^ h - 1) i) (sel (2 ^ w - 1) j)) := gaA_in (by rw [nb_lw hh]; exact hi) (by rw [hnw]; exact hj)
    rw [e]
    refine ⟨rdL_rg (by omega) (by omega), ?_⟩
    unfold laG
    rw [if_pos (Or.inl ⟨hi, by rw [hnw]; exact hj⟩)]
  obtain ⟨h1, u, h2⟩ := EQ_ml hp hG w (Nat.le_refl w)
  unfold ecG ecR
  rw [nb_lw hh, pc_lw hw]
  refine ⟨h1, fun i j hi hj => ?_⟩
  have hr := (@el_r m true h w (gaA f m (2 ^ h - 1) (2 ^ w - 1) h w) w).2
  rw [h1] at hi hr ⊢
  generalize (el m true h w (gaA f m (2 ^ h - 1) (2 ^ w - 1) h w) w).1 = Gc at *
  generalize ml m h w (laG f m (2 ^ h - 1) (2 ^ w - 1) w W h 0) w = t at *
  obtain ⟨q, q1, q2, q3⟩ := h2.2.2 i hi
  obtain ⟨a, b⟩ := h2.1 i (by omega)
  obtain ⟨b1, b2, b3⟩ := b q q1
  have hzq : ¬ Gc i q = 0 := fun z => by
    have := (EQ_z hp h2 (by omega) q1).mp z
    rw [q2] at this
    exact absurd this (by decide)
  have hz0 : ∀ j, j < q → Gc i j = 0 := fun j hj => (EQ_z hp h2 (by omega) (by omega)).mpr (q3 j hj)
  unfold esG
  rw [if_pos (Or.inl ⟨hi, hj⟩), ffN_at hz0 q1 hzq w 0 (by omega) (Nat.zero_le _)]
  obtain ⟨si, si1, si2⟩ := @ivL_nI m (Gc i q) hb.1
  have rs : 0 ≤ (ivL m (Gc i q)).toInt ∧ (ivL m (Gc i q)).toInt < 97 := by rw [si2, nI_64 (by omega)]; omega
  obtain ⟨c1, c2, c3⟩ := b j hj
  have nd : ¬ (m : Int) ∣ (Gc i q).toInt := fun z => hzq ((rg_z b1).mpr z)
  have e := ivL_ok (x := Gc i q) (by unfold mB; have := rg_97 hb.2 b1; omega) hp nd
  rw [← Int64.toInt_inj, rdL_int (by omega), (sm_mul (rg_97 hb.2 b1) rs).1, l1] at e
  rw [← Int64.toInt_inj, rdL_int (by omega), (sm_mul rs (rg_97 hb.2 c1)).1]
  rw [q2, l1, Int.mul_one] at b3
  have h5 : (m : Int) ∣ (Gc i q).toInt * (ivL m (Gc i q)).toInt - 1 := by
    generalize (Gc i q).toInt * (ivL m (Gc i q)).toInt = T at e ⊢
    refine ⟨T / (m : Int), ?_⟩
    rw [Int.emod_def] at e
    generalize (m : Int) * (T / (m : Int)) = V at e ⊢
    omega
  exact ef_int b3 c3 h5 c2.1 c2.2
theorem ml_piv {f W : am_Gr} {m h w c : Nat} (hp : m ∈ prL) (hh : h ≤ 6) (hw : w ≤ 6) (hc : c < w) {G : am_Gr} (eG : G = laG f m (2 ^ h - 1) (2 ^ w - 1) w W h 0) (hq : pv (ml m h w G c).1 h (ml m h w G c).2 c < h) : rg m (exR (ml m h w G c).1 (pv (ml m h w G c).1 h (ml m h w G c).2 c) (ml m h w G c).2 w (ml m h w G c).2 c) ∧ ¬ exR (ml m h w G c).1 (pv (ml m h w G c).1 h (ml m h w G c).2 c) (ml m h w G c).2 w (ml m h w G c).2 c = 0 := by
  have hb := prL_le m hp
  have hnw : nb (2 ^ w - 1) w = w := nb_lw hw
  have hG : ∀ i j, i < h → j < w → rg m (G i j) ∧ G i j = G i j := fun i j hi hj => by
    refine ⟨?_, rfl⟩
    rw [eG]
    unfold laG
    rw [if_pos (Or.inl ⟨hi, by rw [hnw]; exact hj⟩)]
    exact rdL_rg (by omega) (by omega)
  obtain ⟨h1, u, h2⟩ := EQ_ml hp hG c (by omega)
  have hnz : ¬ (ml m h w G c).1 (pv (ml m h w G c).1 h (ml m h w G c).2 c) c = 0 := pvN_nz (h - (ml m h w G c).2) (ml m h w G c).2 (by have := (@el_r m true h w G c).2; rw [h1] at this; show pv _ h _ c < _; omega)
  have e : exR (ml m h w G c).1 (pv (ml m h w G c).1 h (ml m h w G c).2 c) (ml m h w G c).2 w (ml m h w G c).2 c = (ml m h w G c).1 (pv (ml m h w G c).1 h (ml m h w G c).2 c) c := by
    unfold exR
    rw [if_pos hc]
    by_cases a : (ml m h w G c).2 = (ml m h w G c).2
    · split
      · next z => rfl
      · rfl
    · exact absurd rfl a
  rw [e]
  exact ⟨((h2.1 _ hq).2 c hc).2.1, hnz⟩
theorem ml_r {m h w : Nat} {G : am_Gr} : ∀ c, (ml m h w G c).2 ≤ c ∧ (ml m h w G c).2 ≤ h
  | 0 => ⟨Nat.le_refl 0, Nat.zero_le h⟩
  | c + 1 => by
    have ih := @ml_r m h w G c
    have hp := @pv_ge (ml m h w G c).1 h (ml m h w G c).2 c
    show (mcS m h w c (ml m h w G c)).2 ≤ c + 1 ∧ (mcS m h w c (ml m h w G c)).2 ≤ h
    unfold mcS
    by_cases hq : pv (ml m h w G c).1 h (ml m h w G c).2 c < h
    · rw [if_pos hq]
      show (ml m h w G c).2 + 1 ≤ c + 1 ∧ (ml m h w G c).2 + 1 ≤ h
      omega
    · rw [if_neg hq]; omega
theorem rwL_cg {f g : am_Gr} {i : Nat} : ∀ n, (∀ j, j < n → f i j = g i j) → rwL f i n = rwL g i n
  | 0, _ => rfl
  | n + 1, h => by
    have ih := @rwL_cg f g i n (fun j hj => h j (by omega))
    show rwL f i n ++ _ = rwL g i n ++ _
    rw [ih, h n (by omega)]
theorem lnL_cg {f g : am_Gr} {w : Nat} : ∀ n, (∀ i j, i < n → j < w → f i j = g i j) → lnL f w n = lnL g w n
  | 0, _ => rfl
  | n + 1, h => by
    have ih := @lnL_cg f g w n (fun i j hi hj => h i j (by omega) hj)
    show lnL f w n ++ _ = lnL g w n ++ _
    rw [ih, rwL_cg w (fun j hj => h n j (by omega) hj)]
set_option maxRecDepth 100000 in
set_option maxHeartbeats 4000000 in
theorem lp_mly {σ : am_G} {h w m : Nat} {f W G : am_Gr} {d k0 : Nat} (hh : h ≤ 6) (hw : w ≤ 6) (hp : m ∈ prL) (eG : G = laG f m (2 ^ h - 1) (2 ^ w - 1) w W h 0) (hd : 3 ≤ d)  : ∀ (uu i : Nat), i + uu = w → am_R am_TX d k0 c_M_layEchelon 17 [some (.ref 120), some (.int (nI m)), some (.int (nI ((ml m h w G i).2))), some (.int (nI i)), none] [] (mm (setK σ (nI h) (nI w) ((ml m h w G i).1))) (am_Ok (some (.int (nI (ml m h w G w).2))) (fun σ1 => σ1 = (setK σ (nI h) (nI w) ((ml m h w G w).1)))) := by
  intro uu
  induction uu with
  | zero =>
    intro i hi
    obtain rfl : w = i := by omega
    have hr := @ml_r m h w G w
    refine R_iload_n rfl rfl ?_
    refine R_aload_n rfl rfl ?_
    refine R_gIN (n := w) rfl rfl fd_11_7 setK_w ?_
    refine R_nicmp_ge (x := w) (y := w) rfl rfl (by omega) (by omega) (fun g1 => ?_) (fun z => by omega)
    refine R_iload_n rfl rfl ?_
    exact T_ireturn rfl rfl (am_oki rfl rfl)
  | succ uu ih =>
    intro i hi
    have hr := @ml_r m h w G i
    have hge := @pv_ge (ml m h w G i).1 h (ml m h w G i).2 i
    refine R_iload_n rfl rfl ?_
    refine R_aload_n rfl rfl ?_
    refine R_gIN (n := w) rfl rfl fd_11_7 setK_w ?_
    refine R_nicmp_ge (x := i) (y := w) rfl rfl (by omega) (by omega) (fun z => by omega) (fun g1 => ?_)
    refine R_aload_n rfl rfl ?_
    refine R_iload_n rfl rfl ?_
    refine R_iload_n rfl rfl ?_
    by_cases g2 : pv ((ml m h w G i).1) h ((ml m h w G i).2) i < h
    · refine R_cV (as := [.int (nI ((ml m h w G i).2)), .int (nI i)]) rfl rfl iv_M_pivotRow ((by have z := sp_pivotRow (G := ((ml m h w G i).1)) (fr := ((ml m h w G i).2)) (c := i) hh hw (by omega) (by omega) (σ := σ); rw [show frI h (pv ((ml m h w G i).1) h ((ml m h w G i).2) i) = nI (pv ((ml m h w G i).1) h ((ml m h w G i).2) i) from if_pos g2] at z; exact z)) (by omega) rfl rfl rfl (by decide) rfl rfl (Nat.le_of_ble_eq_true rfl) (fun _ q => ?_)
      obtain rfl := q.symm
      refine R_istore rfl (by decide) ?_
      refine R_iload rfl rfl ?_
      refine R_iconst (v := -1) rfl rfl ?_
      refine R_icmp_ne rfl rfl (fun _ => ?_) (fun z => absurd z (nI_m1 (by omega)))
      refine R_aload_n rfl rfl ?_
      refine R_iload_n rfl rfl ?_
      refine R_iload rfl rfl ?_
      refine R_cV (as := [.int (nI ((ml m h w G i).2)), .int (nI (pv ((ml m h w G i).1) h ((ml m h w G i).2) i))]) rfl rfl iv_M_swapWork (sp_swapWork (G := ((ml m h w G i).1)) (a := ((ml m h w G i).2)) (b := (pv ((ml m h w G i).1) h ((ml m h w G i).2) i)) hh hw (by omega) (by omega)) (by omega) rfl rfl rfl (by decide) rfl rfl (Nat.le_of_ble_eq_true rfl) (fun _ q => ?_)
      obtain rfl := q.symm
      have hpiv := ml_piv hp hh hw (by omega) eG g2
      refine R_aload_n rfl rfl ?_
      refine R_iload_n rfl rfl ?_
      refine R_iload_n rfl rfl ?_
      refine R_iload_n rfl rfl ?_
      refine R_cV (as := [.int (nI m), .int (nI ((ml m h w G i).2)), .int (nI i)]) rfl rfl iv_M_clearColumn (sp_clearColumn (G := (exR ((ml m h w G i).1) (pv ((ml m h w G i).1) h ((ml m h w G i).2) i) ((ml m h w G i).2) w)) (m := m) (rk := ((ml m h w G i).2)) (c := i) hh hw (by omega) (by omega) hp hpiv.1 hpiv.2) (by omega) rfl rfl rfl (by decide) rfl rfl (Nat.le_of_ble_eq_true rfl) (fun _ q => ?_)
      obtain rfl := q.symm
      refine R_iincN (x := ((ml m h w G i).2)) (m := 1) rfl rfl rfl (by decide) ?_
      refine R_iincN (x := i) (m := 1) rfl rfl rfl (by decide) ?_
      refine R_goto rfl rfl ?_
      have e := ih (i + 1) (by omega)
      rw [show ml m h w G (i + 1) = mcS m h w i (ml m h w G i) from rfl] at e
      unfold mcS at e
      rw [if_pos g2] at e
      exact e.weak ⟨rfl, rfl, rfl, rfl, trivial⟩
    · refine R_cV (as := [.int (nI ((ml m h w G i).2)), .int (nI i)]) rfl rfl iv_M_pivotRow ((by have z := sp_pivotRow (G := ((ml m h w G i).1)) (fr := ((ml m h w G i).2)) (c := i) hh hw (by omega) (by omega) (σ := σ); rw [show frI h (pv ((ml m h w G i).1) h ((ml m h w G i).2) i) = (-1) from if_neg g2] at z; exact z)) (by omega) rfl rfl rfl (by decide) rfl rfl (Nat.le_of_ble_eq_true rfl) (fun _ q => ?_)
      obtain rfl := q.symm
      refine R_istore rfl (by decide) ?_
      refine R_iload rfl rfl ?_
      refine R_iconst (v := -1) rfl rfl ?_
      refine R_icmp_ne rfl rfl (fun z => absurd z (by decide)) (fun _ => ?_)
      refine R_goto rfl rfl ?_
      refine R_iincN (x := i) (m := 1) rfl rfl rfl (by decide) ?_
      refine R_goto rfl rfl ?_
      have e := ih (i + 1) (by omega)
      rw [show ml m h w G (i + 1) = mcS m h w i (ml m h w G i) from rfl] at e
      unfold mcS at e
      rw [if_neg g2] at e
      exact e.weak ⟨rfl, rfl, rfl, rfl, trivial⟩
set_option maxRecDepth 100000 in
set_option maxHeartbeats 4000000 in
theorem sp_layEchelon {σ : am_G} {h w m : Nat} {f : am_Gr} (hv : mV σ h w f) (hs : fSm f h w) (hp : m ∈ prL) : am_Call am_TX 4 0 c_M_layEchelon [.ref 120, .int (nI m)] (mm σ) (am_Ok (some (.int (nI (ml m h w (laG f m (2 ^ h - 1) (2 ^ w - 1) w (fun i j => σ.2.1 123 (6 * i + j)) h 0) w).2))) (fun σ1 => σ1 = setK σ (nI h) (nI w) (ml m h w (laG f m (2 ^ h - 1) (2 ^ w - 1) w (fun i j => σ.2.1 123 (6 * i + j)) h 0) w).1)) := by
  have hh1 := hv.1.1.1
  have hh6 := hv.1.1.2
  have hw1 := hv.1.2.1
  have hw6 := hv.1.2.2
  have hb := prL_le m hp
  refine ⟨mf_M_layEchelon, Nat.le_of_ble_eq_true rfl, ?_⟩
  refine R_aload_n rfl rfl ?_
  refine R_iload_n rfl rfl ?_
  refine R_aload_n rfl rfl ?_
  refine R_cV (as := []) rfl rfl iv_M_allRows (sp_mallRows hv) (by omega) rfl rfl rfl (by decide) rfl rfl (Nat.le_of_ble_eq_true rfl) (fun _ q => ?_)
  obtain rfl := q.symm
  refine R_aload_n rfl rfl ?_
  refine R_cV (as := []) rfl rfl iv_M_allColumns (sp_mallColumns hv) (by omega) rfl rfl rfl (by decide) rfl rfl (Nat.le_of_ble_eq_true rfl) (fun _ q => ?_)
  obtain rfl := q.symm
  refine R_cV (as := [.int (nI m), .int (nI (2 ^ h - 1)), .int (nI (2 ^ w - 1))]) rfl rfl iv_M_layWork ((by have z := sp_layWork (m := m) (S := 2 ^ h - 1) (T := 2 ^ w - 1) hv hs (by omega) (lw_lt hh6) (lw_lt hw6); rw [nb_lw hh6, nb_lw hw6, if_neg (by omega)] at z; exact z)) (by omega) rfl rfl rfl (by decide) rfl rfl (Nat.le_of_ble_eq_true rfl) (fun _ q => ?_)
  obtain rfl := q.symm
  refine R_iconst (v := 0) rfl rfl ?_
  refine R_istore_n rfl (by decide) ?_
  refine R_iconst (v := 0) rfl rfl ?_
  refine R_istore_n rfl (by decide) ?_
  exact (lp_mly (G := (laG f m (2 ^ h - 1) (2 ^ w - 1) w (fun i j => σ.2.1 123 (6 * i + j)) h 0)) hh6 hw6 hp rfl (by omega) w 0 (by omega)).weak ⟨rfl, rfl, rfl, rfl, trivial⟩
set_option maxRecDepth 100000 in
set_option maxHeartbeats 4000000 in
theorem lp_mwei {σ : am_G} {w r R : Nat} {G : am_Gr} {L : List Int32} {d k0 : Nat} {Q : am_Res → Prop} (h7 : σ.1 120 7 = nI w) (hat : ∀ i j, i < 6 → j < 6 → σ.2.1 123 (6 * i + j) = G i j) (hw6 : w ≤ 6) (hr : r < R) (hR : R ≤ 6) (hL : L.length + 21 * w ≤ 1000) (hd : 3 ≤ d) (hx : ∀ (τ : am_G), (smP pOm σ τ ∧ oM τ (L ++ rwL G r w)) → am_R am_TX d k0 c_M_writeEchelon 88 [some (.ref 120), none, some (.int (nI R)), some (.int (nI r)), some (.int (nI w))] [] (mm τ) Q) : ∀ (uu i : Nat) (τ : am_G), i + uu = w → (smP pOm σ τ ∧ oM τ (L ++ rwL G r i)) → am_R am_TX d k0 c_M_writeEchelon 46 [some (.ref 120), none, some (.int (nI R)), some (.int (nI r)), some (.int (nI i))] [] (mm τ) Q := by
  intro uu
  induction uu with
  | zero =>
    intro i τ hi hI
    obtain rfl : w = i := by omega
    skip
    refine R_iload rfl rfl ?_
    refine R_aload_n rfl rfl ?_
    refine R_gIN (n := w) rfl rfl fd_11_7 ((hI.1.i (by unfold pOm; omega)).trans h7) ?_
    refine R_nicmp_ge (x := w) (y := w) rfl rfl (by omega) (by omega) (fun g1 => ?_) (fun z => by omega)
    exact hx τ hI
  | succ uu ih =>
    intro i τ hi hI
    have hrl := @rwL_len G r i
    have h20 := @nuL_len (G r i)
    refine R_iload rfl rfl ?_
    refine R_aload_n rfl rfl ?_
    refine R_gIN (n := w) rfl rfl fd_11_7 ((hI.1.i (by unfold pOm; omega)).trans h7) ?_
    refine R_nicmp_ge (x := i) (y := w) rfl rfl (by omega) (by omega) (fun z => by omega) (fun g1 => ?_)
    refine R_iload rfl rfl ?_
    refine R_nif_le (x := i) rfl rfl (by omega) (fun g2 => ?_) (fun g2 => ?_)
    · refine R_aload_n rfl rfl ?_
      refine R_aload_n rfl rfl ?_
      refine R_gP (x := 123) rfl rfl fp_11_5 rfl ?_
      refine R_bipush (v := 6) rfl (by decide) ?_
      refine R_iload_n rfl rfl ?_
      refine R_imulN (x := 6) (y := r) rfl ?_
      refine R_iload rfl rfl ?_
      refine R_iaddN (x := (6 * r)) (y := i) rfl ?_
      refine R_xL (j := ((6 * r) + i)) rfl rfl rfl (by omega) (by decide) ?_
      rw [show τ.2.1 123 (((6 * r) + i)) = G r i from (hI.1.1 123 _ (by unfold pOm; omega)).2.trans (hat r i (by omega) (by omega))]
      refine R_cV (as := [.long (G r i)]) rfl rfl iv_M_writeNumber (sp_mwriteNumber (v := (G r i)) hI.2 (by first | omega | (simp only [List.length_append, List.length_cons, List.length_nil]; omega))) (by omega) rfl rfl rfl (by decide) rfl rfl (Nat.le_of_ble_eq_true rfl) (fun τ1 hτ1 => ?_)
      obtain ⟨pτ1, oτ1⟩ := hτ1
      refine R_iincN (x := i) (m := 1) rfl rfl rfl (by decide) ?_
      refine R_goto rfl rfl ?_
      have e := ih (i + 1) τ1 (by omega) ⟨(hI.1.trans pτ1), by rw [show rwL G r (i + 1) = rwL G r i ++ ([] ++ nuL (G r i)) from by show rwL G r i ++ ((if 0 < i then [32] else []) ++ nuL (G r i)) = _; rw [if_neg (by omega)]]; have o := oτ1; simp only [List.append_assoc, List.nil_append] at o ⊢; exact o⟩
      exact e.weak ⟨rfl, rfl, rfl, rfl, trivial⟩
    · refine R_aload_n rfl rfl ?_
      refine R_bipush (v := 32) rfl (by decide) ?_
      refine R_cV (as := [.int 32]) rfl rfl iv_M_write (sp_mwrite (x := 32) rfl hI.2 (by first | omega | (simp only [List.length_append, List.length_cons, List.length_nil]; omega))) (by omega) rfl rfl rfl (by decide) rfl rfl (Nat.le_of_ble_eq_true rfl) (fun τ3 hτ3 => ?_)
      obtain ⟨pτ3, oτ3⟩ := hτ3
      refine R_aload_n rfl rfl ?_
      refine R_aload_n rfl rfl ?_
      refine R_gP (x := 123) rfl rfl fp_11_5 rfl ?_
      refine R_bipush (v := 6) rfl (by decide) ?_
      refine R_iload_n rfl rfl ?_
      refine R_imulN (x := 6) (y := r) rfl ?_
      refine R_iload rfl rfl ?_
      refine R_iaddN (x := (6 * r)) (y := i) rfl ?_
      refine R_xL (j := ((6 * r) + i)) rfl rfl rfl (by omega) (by decide) ?_
      rw [show τ3.2.1 123 (((6 * r) + i)) = G r i from ((hI.1.trans pτ3).1 123 _ (by unfold pOm; omega)).2.trans (hat r i (by omega) (by omega))]
      refine R_cV (as := [.long (G r i)]) rfl rfl iv_M_writeNumber (sp_mwriteNumber (v := (G r i)) oτ3 (by first | omega | (simp only [List.length_append, List.length_cons, List.length_nil]; omega))) (by omega) rfl rfl rfl (by decide) rfl rfl (Nat.le_of_ble_eq_true rfl) (fun τ5 hτ5 => ?_)
      obtain ⟨pτ5, oτ5⟩ := hτ5
      refine R_iincN (x := i) (m := 1) rfl rfl rfl (by decide) ?_
      refine R_goto rfl rfl ?_
      have e := ih (i + 1) τ5 (by omega) ⟨((hI.1.trans pτ3).trans pτ5), by rw [show rwL G r (i + 1) = rwL G r i ++ ([32] ++ nuL (G r i)) from by show rwL G r i ++ ((if 0 < i then [32] else []) ++ nuL (G r i)) = _; rw [if_pos (by omega)]]; have o := oτ5; simp only [List.append_assoc, List.nil_append] at o ⊢; exact o⟩
      exact e.weak ⟨rfl, rfl, rfl, rfl, trivial⟩
set_option maxRecDepth 100000 in
set_option maxHeartbeats 4000000 in
theorem lp_mweo {σ : am_G} {w R : Nat} {G : am_Gr} {d k0 : Nat} (h7 : σ.1 120 7 = nI w) (hat : ∀ i j, i < 6 → j < 6 → σ.2.1 123 (6 * i + j) = G i j) (hw6 : w ≤ 6) (hR : R ≤ 6) (hd : 4 ≤ d)  : ∀ (uu i : Nat) (τ : am_G), i + uu = R → (smP pOm σ τ ∧ oM τ (lnL G w i)) → am_R am_TX d k0 c_M_writeEchelon 38 [some (.ref 120), none, some (.int (nI R)), some (.int (nI i)), none] [] (mm τ) (am_Ok (some (.int (nI (lnL G w R).length))) (fun σ1 => smP pOm σ σ1 ∧ oM σ1 (lnL G w R))) := by
  intro uu
  induction uu with
  | zero =>
    intro i τ hi hI
    obtain rfl : R = i := by omega
    skip
    refine R_iload_n rfl rfl ?_
    refine R_iload_n rfl rfl ?_
    refine R_nicmp_ge (x := R) (y := R) rfl rfl (by omega) (by omega) (fun g1 => ?_) (fun z => by omega)
    refine R_aload_n rfl rfl ?_
    refine R_gIN (n := (lnL G w R).length) rfl rfl fd_11_27 hI.2.1 ?_
    exact T_ireturn rfl rfl (am_oki rfl hI)
  | succ uu ih =>
    intro i τ hi hI
    have hll := @lnL_len G w i
    have hrl := @rwL_len G i w
    have hlm : (21 * w + 1) * i ≤ 127 * 5 := Nat.mul_le_mul (by omega) (by omega)
    refine R_iload_n rfl rfl ?_
    refine R_iload_n rfl rfl ?_
    refine R_nicmp_ge (x := i) (y := R) rfl rfl (by omega) (by omega) (fun z => by omega) (fun g1 => ?_)
    refine R_iconst (v := 0) rfl rfl ?_
    refine R_istore rfl (by decide) ?_
    refine (lp_mwei (σ := τ) (G := G) (L := lnL G w i) (r := i) (R := R) ((hI.1.i (by unfold pOm; omega)).trans h7) (fun a b ha hb => (hI.1.1 123 _ (by unfold pOm; omega)).2.trans (hat a b ha hb)) hw6 (by omega) hR (by omega) (by omega) (fun τ1 hτ1 => ?_) w 0 τ (by omega) ⟨smP.refl, by rw [show rwL G i 0 = [] from rfl, List.append_nil]; exact hI.2⟩).weak ⟨rfl, rfl, rfl, rfl, trivial⟩
    refine R_aload_n rfl rfl ?_
    refine R_bipush (v := 10) rfl (by decide) ?_
    refine R_cV (as := [.int 10]) rfl rfl iv_M_write (sp_mwrite (x := 10) rfl hτ1.2 (by simp only [List.length_append, List.length_cons, List.length_nil]; omega)) (by omega) rfl rfl rfl (by decide) rfl rfl (Nat.le_of_ble_eq_true rfl) (fun τ1 hτ1 => ?_)
    obtain ⟨pτ1, oτ1⟩ := hτ1
    refine R_iincN (x := i) (m := 1) rfl rfl rfl (by decide) ?_
    refine R_goto rfl rfl ?_
    have e := ih (i + 1) τ1 (by omega) ⟨((hI.1.trans hτ1.1).trans pτ1), by rw [show lnL G w (i + 1) = lnL G w i ++ (rwL G i w ++ [10]) from rfl, ← List.append_assoc]; exact oτ1⟩
    exact e.weak ⟨rfl, rfl, rfl, trivial⟩
set_option maxRecDepth 100000 in
set_option maxHeartbeats 4000000 in
theorem sp_M_writeEchelon {σ : am_G} {h w rh pn : Nat} {f v rl : am_Gr} {I : Nat → Int32} {m : Nat} (hn : nV σ h w f v rh rl pn I) (hmp : m ∈ prL) : am_Call am_TX 16 0 c_M_writeEchelon [.ref 120, .int (nI m)] (mm σ) (am_Ok (some (.int (nI (lnL (ecG f m h w) (pc (2 ^ w - 1)) (ecR f m h w)).length))) (fun σ1 => smP pOq σ σ1 ∧ σ1.1 120 0 = 0 ∧ oM σ1 (lnL (ecG f m h w) (pc (2 ^ w - 1)) (ecR f m h w)))) := by
  have hv := hn.toV
  have hs := hn.2.1.2.1
  have hh1 := hv.1.1.1
  have hh6 := hv.1.1.2
  have hw1 := hv.1.2.1
  have hw6 := hv.1.2.2
  have hp6 := hn.2.1.2.2.2.1.1
  have hr6 := hn.2.1.2.2.2.2.2.2.1
  have hs7 := lw_lt hh6
  have ws7 := lw_lt hw6
  have hm97 := (prL_le m hmp).2
  have hm2 := (prL_le m hmp).1
  have hmd : m ∈ mdL := List.mem_cons_of_mem _ hmp
  refine ⟨mf_M_writeEchelon, Nat.le_of_ble_eq_true rfl, ?_⟩
  refine R_aload_n rfl rfl ?_
  refine R_iload_n rfl rfl ?_
  refine R_nif_eq (x := m) rfl rfl (by omega) (fun z => by omega) (fun g1 => ?_)
  refine R_iload_n rfl rfl ?_
  refine R_cS (as := [.int (nI m)]) rfl rfl iv_M_isModulus (isMod_1 hmd) (by omega) rfl rfl rfl rfl (Nat.le_of_ble_eq_true rfl) (fun _ q => ?_)
  obtain rfl := q.symm
  refine R_if_eq rfl rfl (fun z => absurd z (by decide)) (fun _ => ?_)
  refine R_iconst (v := 1) rfl rfl ?_
  refine R_goto rfl rfl ?_
  refine R_cV (as := [.int 1]) rfl rfl iv_M_passes (pass_1) (by omega) rfl rfl rfl (by decide) rfl rfl (Nat.le_of_ble_eq_true rfl) (fun _ q => ?_)
  obtain rfl := q.symm
  refine R_if_ne rfl rfl (fun _ => ?_) (fun z => absurd z (by decide))
  refine R_aload_n rfl rfl ?_
  refine R_iconst (v := 0) rfl rfl ?_
  refine R_pI rfl rfl fw_11_27 rfl ?_
  refine R_aload_n rfl rfl ?_
  refine R_iload_n rfl rfl ?_
  refine R_cV (as := [.int (nI m)]) rfl rfl iv_M_layEchelon (sp_layEchelon (((smP_sI (p := pOq) (k := 120) (j := 0) (x := 0) (by unfold pOq; omega)).trans (smP_sI (p := pOq) (k := 120) (j := 27) (x := 0) (by unfold pOq; omega))).mV hv (fun b => by unfold pOq; omega) (fun b => by unfold pOq; omega) (by unfold pOq; omega)) hs hmp) (by omega) rfl rfl rfl (by decide) rfl rfl (Nat.le_of_ble_eq_true rfl) (fun _ q => ?_)
  obtain rfl := q.symm
  refine R_istore_n rfl (by decide) ?_
  refine R_iconst (v := 0) rfl rfl ?_
  refine R_istore_n rfl (by decide) ?_
  obtain ⟨e1, e2⟩ := ech_eq (f := f) (W := fun i j => (sI (sI σ 120 0 0) 120 27 0).2.1 123 (6 * i + j)) hmp hh6 hw6
  have el : (lnL (ecG f m h w) (pc (2 ^ w - 1)) (ecR f m h w)) = lnL (ml m h w (laG f m (2 ^ h - 1) (2 ^ w - 1) w (fun i j => (sI (sI σ 120 0 0) 120 27 0).2.1 123 (6 * i + j)) h 0) w).1 w (ml m h w (laG f m (2 ^ h - 1) (2 ^ w - 1) w (fun i j => (sI (sI σ 120 0 0) 120 27 0).2.1 123 (6 * i + j)) h 0) w).2 := by
    rw [pc_lw hw6, lnL_cg _ e2, e1]
  rw [el]
  have hr2 := (@ml_r m h w (laG f m (2 ^ h - 1) (2 ^ w - 1) w (fun i j => (sI (sI σ 120 0 0) 120 27 0).2.1 123 (6 * i + j)) h 0) w).2
  have qk : smP pOq (sI (sI σ 120 0 0) 120 27 0) (setK (sI (sI σ 120 0 0) 120 27 0) (nI h) (nI w) (ml m h w (laG f m (2 ^ h - 1) (2 ^ w - 1) w (fun i j => (sI (sI σ 120 0 0) 120 27 0).2.1 123 (6 * i + j)) h 0) w).1) := (setK_fr (σ := (sI (sI σ 120 0 0) 120 27 0))).mono pOq_W
  have om : oM (setK (sI (sI σ 120 0 0) 120 27 0) (nI h) (nI w) (ml m h w (laG f m (2 ^ h - 1) (2 ^ w - 1) w (fun i j => (sI (sI σ 120 0 0) 120 27 0).2.1 123 (6 * i + j)) h 0) w).1) [] := oM_nil.fr (setK_fr (σ := (sI (sI σ 120 0 0) 120 27 0))) ⟨by unfold pW; omega, fun b => by unfold pW; omega⟩
  exact ((lp_mweo (σ := (setK (sI (sI σ 120 0 0) 120 27 0) (nI h) (nI w) (ml m h w (laG f m (2 ^ h - 1) (2 ^ w - 1) w (fun i j => (sI (sI σ 120 0 0) 120 27 0).2.1 123 (6 * i + j)) h 0) w).1)) (w := w) (R := (ml m h w (laG f m (2 ^ h - 1) (2 ^ w - 1) w (fun i j => (sI (sI σ 120 0 0) 120 27 0).2.1 123 (6 * i + j)) h 0) w).2) (G := (ml m h w (laG f m (2 ^ h - 1) (2 ^ w - 1) w (fun i j => (sI (sI σ 120 0 0) 120 27 0).2.1 123 (6 * i + j)) h 0) w).1) setK_w (fun a b ha hb => setK_at ha hb) hw6 (by omega) (by omega) (ml m h w (laG f m (2 ^ h - 1) (2 ^ w - 1) w (fun i j => (sI (sI σ 120 0 0) 120 27 0).2.1 123 (6 * i + j)) h 0) w).2 0 _ (by omega) ⟨smP.refl, om⟩).mono (am_Ok.mono (fun σ1 z => ⟨(((smP_sI (p := pOq) (k := 120) (j := 0) (x := 0) (by unfold pOq; omega)).trans (smP_sI (p := pOq) (k := 120) (j := 27) (x := 0) (by unfold pOq; omega))).trans qk).trans (z.1.mono pOq_O), (z.1.i (by unfold pOm; omega)).trans (((setK_fr (σ := (sI (sI σ 120 0 0) 120 27 0))).i (by unfold pW; omega)).trans ((sI_o (Or.inr (by decide))).trans sI_s)), z.2⟩))).weak ⟨rfl, rfl, rfl, trivial⟩
set_option maxRecDepth 100000 in
set_option maxHeartbeats 4000000 in
theorem sp_M_writeEchelon_x0 {σ : am_G} {h w rh pn : Nat} {f v rl : am_Gr} {I : Nat → Int32} {x : Int32} (hn : nV σ h w f v rh rl pn I) (hb : ∀ n, n ∈ prL → x ≠ nI n) : am_Call am_TX 14 0 c_M_writeEchelon [.ref 120, .int x] (mm σ) (am_Ok (some (.int 0)) (fun σ1 => smP pQ σ σ1 ∧ σ1.1 120 0 = 1)) := by
  have hv := hn.toV
  have hs := hn.2.1.2.1
  have hh1 := hv.1.1.1
  have hh6 := hv.1.1.2
  have hw1 := hv.1.2.1
  have hw6 := hv.1.2.2
  have hp6 := hn.2.1.2.2.2.1.1
  have hr6 := hn.2.1.2.2.2.2.2.2.1
  have hs7 := lw_lt hh6
  have ws7 := lw_lt hw6
  refine ⟨mf_M_writeEchelon, Nat.le_of_ble_eq_true rfl, ?_⟩
  refine R_aload_n rfl rfl ?_
  refine R_iload_n rfl rfl ?_
  refine R_if_eq rfl rfl (fun g1 => ?_) (fun g1 => ?_)
  · refine R_iconst (v := 0) rfl rfl ?_
    refine R_cV (as := [.int 0]) rfl rfl iv_M_passes (pass_0) (by omega) rfl rfl rfl (by decide) rfl rfl (Nat.le_of_ble_eq_true rfl) (fun _ q => ?_)
    obtain rfl := q.symm
    refine R_if_ne rfl rfl (fun z => absurd z (by decide)) (fun _ => ?_)
    refine R_iconst (v := 0) rfl rfl ?_
    exact T_ireturn rfl rfl (am_oki rfl ⟨(smP_sI (p := pQ) (k := 120) (j := 0) (x := 1) (by unfold pQ; omega)), sI_s⟩)
  · refine R_iload_n rfl rfl ?_
    refine R_cS (as := [.int x]) rfl rfl iv_M_isModulus (isMod_0 (md_np hb g1)) (by omega) rfl rfl rfl rfl (Nat.le_of_ble_eq_true rfl) (fun _ q => ?_)
    obtain rfl := q.symm
    refine R_if_eq rfl rfl (fun _ => ?_) (fun z => absurd z (by decide))
    refine R_iconst (v := 0) rfl rfl ?_
    refine R_cV (as := [.int 0]) rfl rfl iv_M_passes (pass_0) (by omega) rfl rfl rfl (by decide) rfl rfl (Nat.le_of_ble_eq_true rfl) (fun _ q => ?_)
    obtain rfl := q.symm
    refine R_if_ne rfl rfl (fun z => absurd z (by decide)) (fun _ => ?_)
    refine R_iconst (v := 0) rfl rfl ?_
    exact T_ireturn rfl rfl (am_oki rfl ⟨(smP_sI (p := pQ) (k := 120) (j := 0) (x := 1) (by unfold pQ; omega)), sI_s⟩)
set_option maxRecDepth 100000 in
set_option maxHeartbeats 4000000 in
theorem sp_thrown {σ : am_G} : am_Call am_TX 0 0 c_M_thrown [.ref 120] (mm σ) (am_Ok (some (.int (σ.1 120 0))) (fun σ1 => σ1 = σ)) := by
  refine ⟨mf_M_thrown, Nat.le_of_ble_eq_true rfl, ?_⟩
  refine R_aload_n rfl rfl ?_
  refine R_gI rfl rfl fd_11_0 ?_
  exact T_ireturn rfl rfl (am_oki rfl rfl)
