/-! ===== the law's profiles ===== -/
theorem nI_shl2 {n : Nat} (h : n ≤ 29) : (2 : Int32) <<< (nI n &&& 31) = nI (2 ^ (n + 1)) := by
  have key : ∀ n, n ≤ 29 → (2 : Int32) <<< (nI n &&& 31) = nI (2 ^ (n + 1)) := by decide +kernel
  exact key n h
theorem R_shl2N {Tx : am_Tx} {d k : Nat} {c : am_C} {pc a b : Nat} {ls : List (Option Value)} {st : List Value} {μ : am_M} {Q : am_Res → Prop} {y : Nat} (hc : c.2 pc = some (.ishl, 1, a, b)) (hy : y ≤ 29) (h : am_R Tx d k c (pc + 1) ls (.int (nI (2 ^ (y + 1))) :: st) μ Q) : am_R Tx d k c pc ls (.int (nI y) :: .int 2 :: st) μ Q :=
  R_ishl hc (by rw [nI_shl2 hy]; exact h)
theorem p2_pos {n : Nat} : 1 ≤ 2 ^ n := Nat.pos_of_ne_zero (by simp)
theorem prR_t {f : am_Gr} {m h w r : Nat} (hr : r < 6) (hd : zdom m) (hm : m ≤ 97) (hf : fSm f h w) (hh : h ≤ 6) (hw : w ≤ 6) (hrh : r < h) : (prR f m h w (r + 1) = if ck f m h w r w < ck f m h w (r + 1) w then wi (prR f m h w r) r else prR f m h w r) ∧ ((prR f m h w (r + 1)).testBit r = true ↔ ck f m h w r w < ck f m h w (r + 1) w) := by
  have e := (prR_rk hd hm hf hh hw r (by omega)).1
  have hlt := @prR_lt2 f m h w r
  have h64 : prR f m h w r < 64 := p2_64 hlt (by omega)
  have e1 : prR f m h w (r + 1) = if ck f m h w r w < ck f m h w (r + 1) w then wi (prR f m h w r) r else prR f m h w r := by
    simp only [prR]
    rw [e]
  refine ⟨e1, ?_⟩
  rw [e1]
  by_cases z : ck f m h w r w < ck f m h w (r + 1) w
  · rw [if_pos z, tb_wi h64 hr hr]
    exact ⟨fun _ => z, fun _ => Or.inr rfl⟩
  · rw [if_neg z]
    exact ⟨fun x => absurd x (tb_hi hlt), fun x => absurd x z⟩
theorem prC_t {f : am_Gr} {m S h w c : Nat} (hS : S < 64) (hd : zdom m) (hm : m ≤ 97) (hf : fSm f h w) (hh : h ≤ 6) (hw : w ≤ 6) (hc : c < w) : prC f m S h w (c + 1) = if rkO f m S (2 ^ c - 1) h w < rkO f m S (2 ^ (c + 1) - 1) h w then wi (prC f m S h w c) c else prC f m S h w c := by
  have e := (prC_rk hS hd hm hf hh hw c (by omega)).1
  simp only [prC]
  rw [e]
section LPF
variable {h w rh pn m : Nat} {f v rl : am_Gr} {I : Nat → Int32} {ρ : am_Y}
theorem lp_pf_end (hd : zdom m) (hm : m ≤ 97) (hf : fSm f h w) (hmd : m ∈ mdL) {D s r : Nat} (hD : 9 ≤ D) {σ τ : am_G} (hv : vS σ 26 h w f v rh rl pn I) (hs : pvC f m h w h s) (q : smP (plc 17 26) σ τ) {x y z u : Option Value} : am_R am_TX D 0 c_L_profiles 390 [some (.ref 0), some (.int (nI m)), some (.int (nI (2 ^ w - 1))), some (.int (nI (prR f m h w h))), some (.int (nI (prC f m (2 ^ h - 1) h w w))), some (.int (nI s)), some (.int (nI r)), x, y, z, u] [] (ml τ ρ) (am_Oy (some (.int 1)) (fun σ1 ρ1 => ρ1 = ρ ∧ smP (plc 17 26) σ σ1)) := by
  have hh := hv.1.1.2
  have hw := hv.1.2.1.2
  have h64 : prR f m h w h < 64 := prR_lt h hh
  refine R_aload_n rfl rfl ?_
  refine R_iload_n rfl rfl ?_
  refine R_qV (as := [.int (nI m)]) rfl rfl iv_D_rowProfile (sp_D_rowProfile (vS_q q hv) hmd) (fun _ z => sm_lo z) (by omega) rfl rfl rfl rfl (Nat.le_of_ble_eq_true rfl) (fun τ1 r1 => ?_)
  have q1 := q.trans r1
  refine R_iload_n rfl rfl ?_
  refine R_icmp_ne rfl rfl (fun z => absurd rfl z) (fun _ => ?_)
  refine R_aload_n rfl rfl ?_
  refine R_iload_n rfl rfl ?_
  refine R_qV (as := [.int (nI m)]) rfl rfl iv_D_columnProfile (sp_D_columnProfile (vS_q q1 hv) hmd) (fun _ z => sm_lo z) (by omega) rfl rfl rfl rfl (Nat.le_of_ble_eq_true rfl) (fun τ2 r2 => ?_)
  have q2 := q1.trans r2
  refine R_iload rfl rfl ?_
  refine R_icmp_ne rfl rfl (fun z => absurd rfl z) (fun _ => ?_)
  rw [pvC_e hd hm hf hh hw hs]
  refine R_iload rfl rfl ?_
  refine R_iload rfl rfl ?_
  refine R_icmp_ne rfl rfl (fun z => absurd rfl z) (fun _ => ?_)
  refine R_iload_n rfl rfl ?_
  refine R_pS (as := [.int (nI (prR f m h w h))]) rfl rfl iv_JInteger_bitCount (pu_bitCount h64) (by omega) rfl rfl rfl rfl (Nat.le_of_ble_eq_true rfl) ?_
  rw [(prR_rk hd hm hf hh hw h (Nat.le_refl h)).1]
  refine R_aload_n rfl rfl ?_
  refine R_iload_n rfl rfl ?_
  refine R_qV (as := [.int (nI m)]) rfl rfl iv_D_rank (sp_D_rank (vS_q q2 hv) hmd) (fun _ z => sm_lo z) (by omega) rfl rfl rfl rfl (Nat.le_of_ble_eq_true rfl) (fun τ3 r3 => ?_)
  have q3 := q2.trans r3
  refine R_icmp_ne rfl rfl (fun z => absurd rfl z) (fun _ => ?_)
  refine R_aload_n rfl rfl ?_
  refine R_iload_n rfl rfl ?_
  refine R_qV (as := [.int (nI m)]) rfl rfl iv_D_nullity (sp_D_nullity (vS_q q3 hv) hmd) (fun _ z => sm_lo z) (by omega) rfl rfl rfl rfl (Nat.le_of_ble_eq_true rfl) (fun τ4 r4 => ?_)
  have q4 := q3.trans r4
  refine R_aload_n rfl rfl ?_
  refine R_iconst (v := 1) rfl rfl ?_
  refine R_qV (as := [.int 1]) rfl rfl iv_D_count (sp_D_count_1 (vS_q q4 hv)) (fun _ z => sm_lo z) (by omega) rfl rfl rfl rfl (Nat.le_of_ble_eq_true rfl) (fun τ5 r5 => ?_)
  have q5 := q4.trans r5
  refine R_aload_n rfl rfl ?_
  refine R_iload_n rfl rfl ?_
  refine R_qV (as := [.int (nI m)]) rfl rfl iv_D_rank (sp_D_rank (vS_q q5 hv) hmd) (fun _ z => sm_lo z) (by omega) rfl rfl rfl rfl (Nat.le_of_ble_eq_true rfl) (fun τ6 r6 => ?_)
  have q6 := q5.trans r6
  refine R_isub rfl ?_
  refine R_icmp_ne rfl rfl (fun z => absurd rfl z) (fun _ => ?_)
  refine R_iconst (v := 1) rfl rfl ?_
  refine R_goto rfl rfl ?_
  exact T_zreturn rfl rfl rfl ⟨_, _, rfl, rfl, q6⟩
theorem lp_pf_c (hd : zdom m) (hm : m ≤ 97) (hf : fSm f h w) (hmd : m ∈ mdL) {D s : Nat} (hD : 9 ≤ D) {σ : am_G} (hv : vS σ 26 h w f v rh rl pn I) (hs : pvC f m h w h s) {x y z t : Option Value} : ∀ u c τ, c + u = w → smP (plc 17 26) σ τ → am_R am_TX D 0 c_L_profiles 318 [some (.ref 0), some (.int (nI m)), some (.int (nI (2 ^ w - 1))), some (.int (nI (prR f m h w h))), some (.int (nI (prC f m (2 ^ h - 1) h w c))), some (.int (nI s)), some (.int (nI c)), x, y, z, t] [] (ml τ ρ) (am_Oy (some (.int 1)) (fun σ1 ρ1 => ρ1 = ρ ∧ smP (plc 17 26) σ σ1)) := by
  have hh := hv.1.1.2
  have hw := hv.1.2.1.2
  have hS : 2 ^ h - 1 < 64 := p2_64 (lwP2 (Nat.le_refl h)) hh
  intro u
  induction u with
  | zero =>
    intro c τ hc q
    obtain rfl : c = w := by omega
    refine R_iload rfl rfl ?_
    refine R_aload_n rfl rfl ?_
    refine R_iconst (v := 1) rfl rfl ?_
    refine R_qV (as := [.int 1]) rfl rfl iv_D_count (sp_D_count_1 (vS_q q hv)) (fun _ z => sm_lo z) (by omega) rfl rfl rfl rfl (Nat.le_of_ble_eq_true rfl) (fun τ7 r7 => ?_)
    have q7 := q.trans r7
    refine R_nicmp_ge (x := c) (y := c) rfl rfl (by omega) (by omega) (fun _ => ?_) (fun z => absurd (Nat.le_refl c) z)
    exact lp_pf_end hd hm hf hmd hD hv hs q7
  | succ u ih =>
    intro c τ hc q
    have hcw : c < w := by omega
    have m6 := @rkO_6 f m (2 ^ h - 1) (2 ^ (c + 1) - 1) h w hh
    have m7 := @rkO_6 f m (2 ^ h - 1) (2 ^ c - 1) h w hh
    have s6 : prC f m (2 ^ h - 1) h w c < 64 := p2_64 (prC_lt2 c) (by omega)
    have e := prC_t (f := f) (m := m) (S := 2 ^ h - 1) (h := h) (w := w) (c := c) hS hd hm hf hh hw hcw
    refine R_iload rfl rfl ?_
    refine R_aload_n rfl rfl ?_
    refine R_iconst (v := 1) rfl rfl ?_
    refine R_qV (as := [.int 1]) rfl rfl iv_D_count (sp_D_count_1 (vS_q q hv)) (fun _ z => sm_lo z) (by omega) rfl rfl rfl rfl (Nat.le_of_ble_eq_true rfl) (fun τ8 r8 => ?_)
    have q8 := q.trans r8
    refine R_nicmp_ge (x := c) (y := w) rfl rfl (by omega) (by omega) (fun z => by omega) (fun _ => ?_)
    refine R_iload rfl rfl ?_
    refine R_aload_n rfl rfl ?_
    refine R_iload_n rfl rfl ?_
    refine R_iconst (v := 1) rfl rfl ?_
    refine R_aload_n rfl rfl ?_
    refine R_iconst (v := 0) rfl rfl ?_
    refine R_qV (as := [.int 0]) rfl rfl iv_D_count (sp_D_count_0 (vS_q q8 hv)) (fun _ z => sm_lo z) (by omega) rfl rfl rfl rfl (Nat.le_of_ble_eq_true rfl) (fun τ9 r9 => ?_)
    have q9 := q8.trans r9
    refine R_shl1N (y := h) rfl (by omega) ?_
    refine R_iconst (v := 1) rfl rfl ?_
    refine R_isubN (x := 2 ^ h) (y := 1) rfl (p2_pos) ?_
    refine R_iconst (v := 2) rfl rfl ?_
    refine R_iload rfl rfl ?_
    refine R_shl2N (y := c) rfl (by omega) ?_
    refine R_iconst (v := 1) rfl rfl ?_
    refine R_isubN (x := 2 ^ (c + 1)) (y := 1) rfl (p2_pos) ?_
    refine R_qV (as := [.int (nI m), .int (nI (2 ^ h - 1)), .int (nI (2 ^ (c + 1) - 1))]) rfl rfl iv_D_rankOf (sp_D_rankOf (m := m) (S := 2 ^ h - 1) (T := 2 ^ (c + 1) - 1) (vS_q q9 hv) hmd (lwP2 (by omega)) (lwP2 (by omega))) (fun _ z => sm_lo z) (by omega) rfl rfl rfl rfl (Nat.le_of_ble_eq_true rfl) (fun τ10 r10 => ?_)
    have q10 := q9.trans r10
    refine R_aload_n rfl rfl ?_
    refine R_iload_n rfl rfl ?_
    refine R_iconst (v := 1) rfl rfl ?_
    refine R_aload_n rfl rfl ?_
    refine R_iconst (v := 0) rfl rfl ?_
    refine R_qV (as := [.int 0]) rfl rfl iv_D_count (sp_D_count_0 (vS_q q10 hv)) (fun _ z => sm_lo z) (by omega) rfl rfl rfl rfl (Nat.le_of_ble_eq_true rfl) (fun τ11 r11 => ?_)
    have q11 := q10.trans r11
    refine R_shl1N (y := h) rfl (by omega) ?_
    refine R_iconst (v := 1) rfl rfl ?_
    refine R_isubN (x := 2 ^ h) (y := 1) rfl (p2_pos) ?_
    refine R_iconst (v := 1) rfl rfl ?_
    refine R_iload rfl rfl ?_
    refine R_shl1N (y := c) rfl (by omega) ?_
    refine R_iconst (v := 1) rfl rfl ?_
    refine R_isubN (x := 2 ^ c) (y := 1) rfl (p2_pos) ?_
    refine R_qV (as := [.int (nI m), .int (nI (2 ^ h - 1)), .int (nI (2 ^ c - 1))]) rfl rfl iv_D_rankOf (sp_D_rankOf (m := m) (S := 2 ^ h - 1) (T := 2 ^ c - 1) (vS_q q11 hv) hmd (lwP2 (by omega)) (lwP2 (by omega))) (fun _ z => sm_lo z) (by omega) rfl rfl rfl rfl (Nat.le_of_ble_eq_true rfl) (fun τ12 r12 => ?_)
    have q12 := q11.trans r12
    refine R_nicmp_le (x := rkO f m (2 ^ h - 1) (2 ^ (c + 1) - 1) h w) (y := rkO f m (2 ^ h - 1) (2 ^ c - 1) h w) rfl rfl (by omega) (by omega) (fun z => ?_) (fun z => ?_)
    · refine R_iconst (v := 0) rfl rfl ?_
      refine R_ior rfl ?_
      rw [Int32.or_zero]
      refine R_istore rfl (by decide) ?_
      refine R_iincN (x := c) (m := 1) rfl rfl rfl (by decide) ?_
      refine R_goto rfl rfl ?_
      have g := ih (c + 1) _ (by omega) q12
      rw [e, if_neg (by omega)] at g
      exact g
    · refine R_iconst (v := 1) rfl rfl ?_
      refine R_iload rfl rfl ?_
      refine R_shl1N (y := c) rfl (by omega) ?_
      refine R_goto rfl rfl ?_
      refine R_iorB (s := prC f m (2 ^ h - 1) h w c) (y := c) rfl s6 (by omega) ?_
      refine R_istore rfl (by decide) ?_
      refine R_iincN (x := c) (m := 1) rfl rfl rfl (by decide) ?_
      refine R_goto rfl rfl ?_
      have g := ih (c + 1) _ (by omega) q12
      rw [e, if_pos (by omega)] at g
      exact g
theorem lp_pf_p (hd : zdom m) (hm : m ≤ 97) (hf : fSm f h w) (hmd : m ∈ mdL) {D s r k rows cols : Nat} (hD : 9 ≤ D) (hr : r < h) {σ : am_G} (hv : vS σ 26 h w f v rh rl pn I) {Qx : am_Res → Prop}
    (hx : ∀ τ x c i j, smP (plc 17 26) σ τ → fnd f m h w r w x → am_R am_TX D k c_L_profiles 207 [some (.ref 0), some (.int (nI m)), some (.int (nI (2 ^ w - 1))), some (.int (nI rows)), some (.int (nI cols)), some (.int (nI s)), some (.int (nI r)), some (.int (x)), c, i, j] [] (ml τ ρ) Qx) :
    ∀ u c x i j τ, c + u = w → fnd f m h w r c x → smP (plc 17 26) σ τ → am_R am_TX D k c_L_profiles 71 [some (.ref 0), some (.int (nI m)), some (.int (nI (2 ^ w - 1))), some (.int (nI rows)), some (.int (nI cols)), some (.int (nI s)), some (.int (nI r)), some (.int (x)), some (.int (nI c)), i, j] [] (ml τ ρ) Qx := by
  have hh := hv.1.1.2
  have hw := hv.1.2.1.2
  intro u
  induction u with
  | zero =>
    intro c x i j τ hc hf2 q
    obtain rfl : c = w := by omega
    refine R_iload rfl rfl ?_
    refine R_aload_n rfl rfl ?_
    refine R_iconst (v := 1) rfl rfl ?_
    refine R_qV (as := [.int 1]) rfl rfl iv_D_count (sp_D_count_1 (vS_q q hv)) (fun _ z => sm_lo z) (by omega) rfl rfl rfl rfl (Nat.le_of_ble_eq_true rfl) (fun τ13 r13 => ?_)
    have q13 := q.trans r13
    refine R_nicmp_ge (x := c) (y := c) rfl rfl (by omega) (by omega) (fun _ => ?_) (fun z => absurd (Nat.le_refl c) z)
    exact hx _ x _ i j q13 hf2
  | succ u ih =>
    intro c x i j τ hc hf2 q
    have hcw : c < w := by omega
    have m1 := @rkO_6 f m (2 ^ (r + 1) - 1) (2 ^ (c + 1) - 1) h w hh
    have m2 := @rkO_6 f m (2 ^ r - 1) (2 ^ (c + 1) - 1) h w hh
    have m3 := @rkO_6 f m (2 ^ (r + 1) - 1) (2 ^ c - 1) h w hh
    have m4 := @rkO_6 f m (2 ^ r - 1) (2 ^ c - 1) h w hh
    have no : ∀ τ i, smP (plc 17 26) σ τ → ¬ isP f m h w r c → am_R am_TX D k c_L_profiles 172 [some (.ref 0), some (.int (nI m)), some (.int (nI (2 ^ w - 1))), some (.int (nI rows)), some (.int (nI cols)), some (.int (nI s)), some (.int (nI r)), some (.int (x)), some (.int (nI c)), i, j] [] (ml τ ρ) Qx := by
      intro τ i q hp
      refine R_iconst (v := 0) rfl rfl ?_
      refine R_istore rfl (by decide) ?_
      refine R_iload rfl rfl ?_
      refine R_if_eq rfl rfl (fun _ => ?_) (fun z => absurd rfl z)
      refine R_iload rfl rfl ?_
      refine R_if_eq rfl rfl (fun _ => ?_) (fun z => absurd rfl z)
      refine R_iload rfl rfl ?_
      refine R_istore rfl (by decide) ?_
      refine R_iincN (x := c) (m := 1) rfl rfl rfl (by decide) ?_
      refine R_goto rfl rfl ?_
      exact ih (c + 1) x _ _ τ (by omega) (fnd_f hd hm hf hh hw hr hcw hf2 hp) q
    refine R_iload rfl rfl ?_
    refine R_aload_n rfl rfl ?_
    refine R_iconst (v := 1) rfl rfl ?_
    refine R_qV (as := [.int 1]) rfl rfl iv_D_count (sp_D_count_1 (vS_q q hv)) (fun _ z => sm_lo z) (by omega) rfl rfl rfl rfl (Nat.le_of_ble_eq_true rfl) (fun τ14 r14 => ?_)
    have q14 := q.trans r14
    refine R_nicmp_ge (x := c) (y := w) rfl rfl (by omega) (by omega) (fun z => by omega) (fun _ => ?_)
    refine R_aload_n rfl rfl ?_
    refine R_iload_n rfl rfl ?_
    refine R_iconst (v := 2) rfl rfl ?_
    refine R_iload rfl rfl ?_
    refine R_shl2N (y := r) rfl (by omega) ?_
    refine R_iconst (v := 1) rfl rfl ?_
    refine R_isubN (x := 2 ^ (r + 1)) (y := 1) rfl (p2_pos) ?_
    refine R_iconst (v := 2) rfl rfl ?_
    refine R_iload rfl rfl ?_
    refine R_shl2N (y := c) rfl (by omega) ?_
    refine R_iconst (v := 1) rfl rfl ?_
    refine R_isubN (x := 2 ^ (c + 1)) (y := 1) rfl (p2_pos) ?_
    refine R_qV (as := [.int (nI m), .int (nI (2 ^ (r + 1) - 1)), .int (nI (2 ^ (c + 1) - 1))]) rfl rfl iv_D_rankOf (sp_D_rankOf (m := m) (S := 2 ^ (r + 1) - 1) (T := 2 ^ (c + 1) - 1) (vS_q q14 hv) hmd (lwP2 (by omega)) (lwP2 (by omega))) (fun _ z => sm_lo z) (by omega) rfl rfl rfl rfl (Nat.le_of_ble_eq_true rfl) (fun τ15 r15 => ?_)
    have q15 := q14.trans r15
    refine R_iconst (v := 1) rfl rfl ?_
    refine R_isub rfl ?_
    refine R_istore rfl (by decide) ?_
    refine R_iload rfl rfl ?_
    refine R_aload_n rfl rfl ?_
    refine R_iload_n rfl rfl ?_
    refine R_iconst (v := 1) rfl rfl ?_
    refine R_iload rfl rfl ?_
    refine R_shl1N (y := r) rfl (by omega) ?_
    refine R_iconst (v := 1) rfl rfl ?_
    refine R_isubN (x := 2 ^ r) (y := 1) rfl (p2_pos) ?_
    refine R_iconst (v := 2) rfl rfl ?_
    refine R_iload rfl rfl ?_
    refine R_shl2N (y := c) rfl (by omega) ?_
    refine R_iconst (v := 1) rfl rfl ?_
    refine R_isubN (x := 2 ^ (c + 1)) (y := 1) rfl (p2_pos) ?_
    refine R_qV (as := [.int (nI m), .int (nI (2 ^ r - 1)), .int (nI (2 ^ (c + 1) - 1))]) rfl rfl iv_D_rankOf (sp_D_rankOf (m := m) (S := 2 ^ r - 1) (T := 2 ^ (c + 1) - 1) (vS_q q15 hv) hmd (lwP2 (by omega)) (lwP2 (by omega))) (fun _ z => sm_lo z) (by omega) rfl rfl rfl rfl (Nat.le_of_ble_eq_true rfl) (fun τ16 r16 => ?_)
    have q16 := q15.trans r16
    refine R_icmp_ne rfl rfl (fun z => no _ _ q16 (fun y => z ((nI_s1 (x := rkO f m (2 ^ (r + 1) - 1) (2 ^ (c + 1) - 1) h w) (y := rkO f m (2 ^ r - 1) (2 ^ (c + 1) - 1) h w) (by omega) (by omega)).mpr y.1).symm)) (fun e16 => ?_)
    have g16 := (nI_s1 (x := rkO f m (2 ^ (r + 1) - 1) (2 ^ (c + 1) - 1) h w) (y := rkO f m (2 ^ r - 1) (2 ^ (c + 1) - 1) h w) (by omega) (by omega)).mp e16.symm
    refine R_iload rfl rfl ?_
    refine R_aload_n rfl rfl ?_
    refine R_iload_n rfl rfl ?_
    refine R_iconst (v := 2) rfl rfl ?_
    refine R_iload rfl rfl ?_
    refine R_shl2N (y := r) rfl (by omega) ?_
    refine R_iconst (v := 1) rfl rfl ?_
    refine R_isubN (x := 2 ^ (r + 1)) (y := 1) rfl (p2_pos) ?_
    refine R_iconst (v := 1) rfl rfl ?_
    refine R_iload rfl rfl ?_
    refine R_shl1N (y := c) rfl (by omega) ?_
    refine R_iconst (v := 1) rfl rfl ?_
    refine R_isubN (x := 2 ^ c) (y := 1) rfl (p2_pos) ?_
    refine R_qV (as := [.int (nI m), .int (nI (2 ^ (r + 1) - 1)), .int (nI (2 ^ c - 1))]) rfl rfl iv_D_rankOf (sp_D_rankOf (m := m) (S := 2 ^ (r + 1) - 1) (T := 2 ^ c - 1) (vS_q q16 hv) hmd (lwP2 (by omega)) (lwP2 (by omega))) (fun _ z => sm_lo z) (by omega) rfl rfl rfl rfl (Nat.le_of_ble_eq_true rfl) (fun τ17 r17 => ?_)
    have q17 := q16.trans r17
    refine R_icmp_ne rfl rfl (fun z => no _ _ q17 (fun y => z ((nI_s1 (x := rkO f m (2 ^ (r + 1) - 1) (2 ^ (c + 1) - 1) h w) (y := rkO f m (2 ^ (r + 1) - 1) (2 ^ c - 1) h w) (by omega) (by omega)).mpr y.2.1).symm)) (fun e17 => ?_)
    have g17 := (nI_s1 (x := rkO f m (2 ^ (r + 1) - 1) (2 ^ (c + 1) - 1) h w) (y := rkO f m (2 ^ (r + 1) - 1) (2 ^ c - 1) h w) (by omega) (by omega)).mp e17.symm
    refine R_iload rfl rfl ?_
    refine R_aload_n rfl rfl ?_
    refine R_iload_n rfl rfl ?_
    refine R_iconst (v := 1) rfl rfl ?_
    refine R_iload rfl rfl ?_
    refine R_shl1N (y := r) rfl (by omega) ?_
    refine R_iconst (v := 1) rfl rfl ?_
    refine R_isubN (x := 2 ^ r) (y := 1) rfl (p2_pos) ?_
    refine R_iconst (v := 1) rfl rfl ?_
    refine R_iload rfl rfl ?_
    refine R_shl1N (y := c) rfl (by omega) ?_
    refine R_iconst (v := 1) rfl rfl ?_
    refine R_isubN (x := 2 ^ c) (y := 1) rfl (p2_pos) ?_
    refine R_qV (as := [.int (nI m), .int (nI (2 ^ r - 1)), .int (nI (2 ^ c - 1))]) rfl rfl iv_D_rankOf (sp_D_rankOf (m := m) (S := 2 ^ r - 1) (T := 2 ^ c - 1) (vS_q q17 hv) hmd (lwP2 (by omega)) (lwP2 (by omega))) (fun _ z => sm_lo z) (by omega) rfl rfl rfl rfl (Nat.le_of_ble_eq_true rfl) (fun τ18 r18 => ?_)
    have q18 := q17.trans r18
    refine R_icmp_ne rfl rfl (fun z => no _ _ q18 (fun y => z ((nI_s1 (x := rkO f m (2 ^ (r + 1) - 1) (2 ^ (c + 1) - 1) h w) (y := rkO f m (2 ^ r - 1) (2 ^ c - 1) h w) (by omega) (by omega)).mpr y.2.2).symm)) (fun e18 => ?_)
    have g18 := (nI_s1 (x := rkO f m (2 ^ (r + 1) - 1) (2 ^ (c + 1) - 1) h w) (y := rkO f m (2 ^ r - 1) (2 ^ c - 1) h w) (by omega) (by omega)).mp e18.symm
    obtain ⟨rfl, hn⟩ := fnd_t hd hm hf hh hw hr hcw hf2 ⟨g16, g17, g18⟩
    refine R_iconst (v := 1) rfl rfl ?_
    refine R_goto rfl rfl ?_
    refine R_istore rfl (by decide) ?_
    refine R_iload rfl rfl ?_
    refine R_if_eq rfl rfl (fun z => absurd z (by decide)) (fun _ => ?_)
    refine R_iload rfl rfl ?_
    refine R_if_lt rfl rfl (fun _ => ?_) (fun z => absurd (by decide) z)
    refine R_iload rfl rfl ?_
    refine R_if_eq rfl rfl (fun z => absurd z (by decide)) (fun _ => ?_)
    refine R_iload rfl rfl ?_
    refine R_goto rfl rfl ?_
    refine R_istore rfl (by decide) ?_
    refine R_iincN (x := c) (m := 1) rfl rfl rfl (by decide) ?_
    refine R_goto rfl rfl ?_
    exact ih (c + 1) (nI c) _ _ _ (by omega) hn q18
theorem lp_pf_r (hd : zdom m) (hm : m ≤ 97) (hf : fSm f h w) (hmd : m ∈ mdL) {D : Nat} (hD : 9 ≤ D) {σ : am_G} (hv : vS σ 26 h w f v rh rl pn I) : ∀ u r s x c i j τ, r + u = h → pvC f m h w r s → smP (plc 17 26) σ τ → am_R am_TX D 0 c_L_profiles 21 [some (.ref 0), some (.int (nI m)), some (.int (nI (2 ^ w - 1))), some (.int (nI (prR f m h w r))), some (.int (nI 0)), some (.int (nI s)), some (.int (nI r)), x, c, i, j] [] (ml τ ρ) (am_Oy (some (.int 1)) (fun σ1 ρ1 => ρ1 = ρ ∧ smP (plc 17 26) σ σ1)) := by
  have hh := hv.1.1.2
  have hw := hv.1.2.1.2
  have hS : 2 ^ h - 1 < 64 := p2_64 (lwP2 (Nat.le_refl h)) hh
  intro u
  induction u with
  | zero =>
    intro r s x c i j τ hr hs q
    obtain rfl : r = h := by omega
    refine R_iload rfl rfl ?_
    refine R_aload_n rfl rfl ?_
    refine R_iconst (v := 0) rfl rfl ?_
    refine R_qV (as := [.int 0]) rfl rfl iv_D_count (sp_D_count_0 (vS_q q hv)) (fun _ z => sm_lo z) (by omega) rfl rfl rfl rfl (Nat.le_of_ble_eq_true rfl) (fun τ19 r19 => ?_)
    have q19 := q.trans r19
    refine R_nicmp_ge (x := r) (y := r) rfl rfl (by omega) (by omega) (fun _ => ?_) (fun z => absurd (Nat.le_refl r) z)
    refine R_iconst (v := 0) rfl rfl ?_
    refine R_istore rfl (by decide) ?_
    exact lp_pf_c hd hm hf hmd hD hv hs w 0 _ (by omega) q19
  | succ u ih =>
    intro r s x c i j τ hr hs q
    have hrh : r < h := by omega
    have m1 := @rkO_6 f m (2 ^ (r + 1) - 1) (2 ^ w - 1) h w hh
    have m2 := @rkO_6 f m (2 ^ r - 1) (2 ^ w - 1) h w hh
    have m3 := @rkO_6 f m (wo (2 ^ h - 1) r) (2 ^ w - 1) h w hh
    have m4 := @rkO_6 f m (2 ^ h - 1) (2 ^ w - 1) h w hh
    have s6 : prR f m h w r < 64 := prR_lt r (by omega)
    have s7 : prR f m h w (r + 1) < 64 := prR_lt (r + 1) (by omega)
    have v6 := p2_64 hs.1 hw
    obtain ⟨e1, e2⟩ := prR_t (f := f) (m := m) (h := h) (w := w) (r := r) (by omega) hd hm hf hh hw hrh
    have j65 : ∀ τ, smP (plc 17 26) σ τ → am_R am_TX D 0 c_L_profiles 65 [some (.ref 0), some (.int (nI m)), some (.int (nI (2 ^ w - 1))), some (.int (nI (prR f m h w (r + 1)))), some (.int (nI 0)), some (.int (nI s)), some (.int (nI r)), x, c, i, j] [] (ml τ ρ) (am_Oy (some (.int 1)) (fun σ1 ρ1 => ρ1 = ρ ∧ smP (plc 17 26) σ σ1)) := by
      intro τ q
      refine R_iconst (v := -1) rfl rfl ?_
      refine R_istore rfl (by decide) ?_
      refine R_iconst (v := 0) rfl rfl ?_
      refine R_istore rfl (by decide) ?_
      refine lp_pf_p hd hm hf hmd hD hrh hv (fun τ0 x0 c0 i0 j0 q0 f0 => ?_) w 0 (-1) _ _ τ (by omega) (fnd_0 hd hm hf hh hw hrh) q
      refine R_aload_n rfl rfl ?_
      refine R_iload_n rfl rfl ?_
      refine R_iload rfl rfl ?_
      refine R_qV (as := [.int (nI m), .int (nI r)]) rfl rfl iv_D_pivot (sp_D_pivot (vS_q q0 hv) hrh hmd) (fun _ z => sm_lo z) (by omega) rfl rfl rfl rfl (Nat.le_of_ble_eq_true rfl) (fun τ20 r20 => ?_)
      have q20 := q0.trans r20
      rw [fnd_e f0]
      refine R_iload rfl rfl ?_
      refine R_icmp_eq rfl rfl (fun _ => ?_) (fun z => absurd rfl z)
      have j239 : ∀ τ s2 c, smP (plc 17 26) σ τ → pvC f m h w (r + 1) s2 → am_R am_TX D 0 c_L_profiles 239 [some (.ref 0), some (.int (nI m)), some (.int (nI (2 ^ w - 1))), some (.int (nI (prR f m h w (r + 1)))), some (.int (nI 0)), some (.int (nI s2)), some (.int (nI r)), some (.int (x0)), c, i0, j0] [] (ml τ ρ) (am_Oy (some (.int 1)) (fun σ1 ρ1 => ρ1 = ρ ∧ smP (plc 17 26) σ σ1)) := by
        intro τ s2 c q hs2
        refine R_aload_n rfl rfl ?_
        refine R_iload_n rfl rfl ?_
        refine R_iconst (v := 1) rfl rfl ?_
        refine R_aload_n rfl rfl ?_
        refine R_iconst (v := 0) rfl rfl ?_
        refine R_qV (as := [.int 0]) rfl rfl iv_D_count (sp_D_count_0 (vS_q q hv)) (fun _ z => sm_lo z) (by omega) rfl rfl rfl rfl (Nat.le_of_ble_eq_true rfl) (fun τ21 r21 => ?_)
        have q21 := q.trans r21
        refine R_shl1N (y := h) rfl (by omega) ?_
        refine R_iconst (v := 1) rfl rfl ?_
        refine R_isubN (x := 2 ^ h) (y := 1) rfl (p2_pos) ?_
        refine R_iconst (v := 1) rfl rfl ?_
        refine R_iload rfl rfl ?_
        refine R_shl1N (y := r) rfl (by omega) ?_
        refine R_iconst (v := -1) rfl rfl ?_
        refine R_ixor rfl ?_
        refine R_iandB (s := 2 ^ h - 1) (y := r) rfl hS (by omega) ?_
        refine R_iload_n rfl rfl ?_
        refine R_qV (as := [.int (nI m), .int (nI (wo (2 ^ h - 1) r)), .int (nI (2 ^ w - 1))]) rfl rfl iv_D_rankOf (sp_D_rankOf (m := m) (S := wo (2 ^ h - 1) r) (T := 2 ^ w - 1) (vS_q q21 hv) hmd (wo_p2 (lwP2 (Nat.le_refl h))) (lwP2 (by omega))) (fun _ z => sm_lo z) (by omega) rfl rfl rfl rfl (Nat.le_of_ble_eq_true rfl) (fun τ22 r22 => ?_)
        have q22 := q21.trans r22
        refine R_aload_n rfl rfl ?_
        refine R_iload_n rfl rfl ?_
        refine R_qV (as := [.int (nI m)]) rfl rfl iv_D_rank (sp_D_rank (vS_q q22 hv) hmd) (fun _ z => sm_lo z) (by omega) rfl rfl rfl rfl (Nat.le_of_ble_eq_true rfl) (fun τ23 r23 => ?_)
        have q23 := q22.trans r23
        have j274 : ∀ y : Int32, y = zP (rkO f m (wo (2 ^ h - 1) r) (2 ^ w - 1) h w < rkO f m (2 ^ h - 1) (2 ^ w - 1) h w) → am_R am_TX D 0 c_L_profiles 274 [some (.ref 0), some (.int (nI m)), some (.int (nI (2 ^ w - 1))), some (.int (nI (prR f m h w (r + 1)))), some (.int (nI 0)), some (.int (nI s2)), some (.int (nI r)), some (.int (x0)), c, i0, j0] [.int y] (ml τ23 ρ) (am_Oy (some (.int 1)) (fun σ1 ρ1 => ρ1 = ρ ∧ smP (plc 17 26) σ σ1)) := by
          intro y hy
          subst hy
          refine R_istore rfl (by decide) ?_
          refine R_aload_n rfl rfl ?_
          refine R_iload_n rfl rfl ?_
          refine R_iload rfl rfl ?_
          refine R_qV (as := [.int (nI m), .int (nI r)]) rfl rfl iv_D_isNeeded (sp_D_isNeeded (vS_q q23 hv) hrh hmd) (fun _ z => sm_lo z) (by omega) rfl rfl rfl rfl (Nat.le_of_ble_eq_true rfl) (fun τ24 r24 => ?_)
          have q24 := q23.trans r24
          refine R_iload rfl rfl ?_
          refine R_icmp_ne rfl rfl (fun z => absurd rfl z) (fun _ => ?_)
          refine R_iload rfl rfl ?_
          have j298 : ∀ y : Int32, y = zP ((prR f m h w (r + 1)).testBit r = true) → am_R am_TX D 0 c_L_profiles 298 [some (.ref 0), some (.int (nI m)), some (.int (nI (2 ^ w - 1))), some (.int (nI (prR f m h w (r + 1)))), some (.int (nI 0)), some (.int (nI s2)), some (.int (nI r)), some (.int (x0)), some (.int (zP (rkO f m (wo (2 ^ h - 1) r) (2 ^ w - 1) h w < rkO f m (2 ^ h - 1) (2 ^ w - 1) h w))), i0, j0] [.int y] (ml τ24 ρ) (am_Oy (some (.int 1)) (fun σ1 ρ1 => ρ1 = ρ ∧ smP (plc 17 26) σ σ1)) := by
            intro y hy
            subst hy
            refine R_iload_n rfl rfl ?_
            refine R_iload rfl rfl ?_
            refine R_pS (as := [.int (nI (prR f m h w (r + 1))), .int (nI r)]) rfl rfl iv_L_has (pl_has s7 (by omega)) (by omega) rfl rfl rfl rfl (Nat.le_of_ble_eq_true rfl) ?_
            refine R_icmp_eq rfl rfl (fun _ => ?_) (fun z => absurd rfl z)
            refine R_iincN (x := r) (m := 1) rfl rfl rfl (by decide) ?_
            refine R_goto rfl rfl ?_
            exact ih (r + 1) s2 _ _ _ _ _ (by omega) hs2 q24
          rcases f0 with ⟨rfl, f1, -⟩ | ⟨c1, f1, rfl, f2, -, -⟩
          · refine R_if_lt rfl rfl (fun _ => ?_) (fun z => absurd (by decide) z)
            refine R_iconst (v := 0) rfl rfl ?_
            exact j298 0 (zP_f (fun y => by have := e2.mp y; omega)).symm
          · refine R_if_lt rfl rfl (fun z => absurd z (nI_nn (by omega))) (fun _ => ?_)
            refine R_iconst (v := 1) rfl rfl ?_
            refine R_goto rfl rfl ?_
            exact j298 1 (zP_t (e2.mpr (by omega))).symm
        refine R_nicmp_ge (x := rkO f m (wo (2 ^ h - 1) r) (2 ^ w - 1) h w) (y := rkO f m (2 ^ h - 1) (2 ^ w - 1) h w) rfl rfl (by omega) (by omega) (fun z => ?_) (fun z => ?_)
        · refine R_iconst (v := 0) rfl rfl ?_
          exact j274 0 (zP_f (by omega)).symm
        · refine R_iconst (v := 1) rfl rfl ?_
          refine R_goto rfl rfl ?_
          exact j274 1 (zP_t (by omega)).symm
      refine R_iload rfl rfl ?_
      refine R_iload rfl rfl ?_
      have f9 := f0
      rcases f9 with ⟨rfl, f1, f3⟩ | ⟨c1, f1, rfl, f2, f3, f4⟩
      · refine R_if_lt rfl rfl (fun _ => ?_) (fun z => absurd (by decide) z)
        refine R_iconst (v := 0) rfl rfl ?_
        refine R_ior rfl ?_
        rw [Int32.or_zero]
        refine R_istore rfl (by decide) ?_
        exact j239 _ _ _ q20 (pvC_f hd hm hf hh hw hrh hs f3)
      · refine R_if_lt rfl rfl (fun z => absurd z (nI_nn (by omega))) (fun _ => ?_)
        refine R_iconst (v := 1) rfl rfl ?_
        refine R_iload rfl rfl ?_
        refine R_shl1N (y := c1) rfl (by omega) ?_
        refine R_goto rfl rfl ?_
        refine R_iorB (s := s) (y := c1) rfl v6 (by omega) ?_
        refine R_istore rfl (by decide) ?_
        exact j239 _ _ _ q20 (pvC_t hd hm hf hh hw hrh hs f1 f3 f4)
    refine R_iload rfl rfl ?_
    refine R_aload_n rfl rfl ?_
    refine R_iconst (v := 0) rfl rfl ?_
    refine R_qV (as := [.int 0]) rfl rfl iv_D_count (sp_D_count_0 (vS_q q hv)) (fun _ z => sm_lo z) (by omega) rfl rfl rfl rfl (Nat.le_of_ble_eq_true rfl) (fun τ25 r25 => ?_)
    have q25 := q.trans r25
    refine R_nicmp_ge (x := r) (y := h) rfl rfl (by omega) (by omega) (fun z => by omega) (fun _ => ?_)
    refine R_aload_n rfl rfl ?_
    refine R_iload_n rfl rfl ?_
    refine R_iconst (v := 2) rfl rfl ?_
    refine R_iload rfl rfl ?_
    refine R_shl2N (y := r) rfl (by omega) ?_
    refine R_iconst (v := 1) rfl rfl ?_
    refine R_isubN (x := 2 ^ (r + 1)) (y := 1) rfl (p2_pos) ?_
    refine R_iload_n rfl rfl ?_
    refine R_qV (as := [.int (nI m), .int (nI (2 ^ (r + 1) - 1)), .int (nI (2 ^ w - 1))]) rfl rfl iv_D_rankOf (sp_D_rankOf (m := m) (S := 2 ^ (r + 1) - 1) (T := 2 ^ w - 1) (vS_q q25 hv) hmd (lwP2 (by omega)) (lwP2 (by omega))) (fun _ z => sm_lo z) (by omega) rfl rfl rfl rfl (Nat.le_of_ble_eq_true rfl) (fun τ26 r26 => ?_)
    have q26 := q25.trans r26
    refine R_aload_n rfl rfl ?_
    refine R_iload_n rfl rfl ?_
    refine R_iconst (v := 1) rfl rfl ?_
    refine R_iload rfl rfl ?_
    refine R_shl1N (y := r) rfl (by omega) ?_
    refine R_iconst (v := 1) rfl rfl ?_
    refine R_isubN (x := 2 ^ r) (y := 1) rfl (p2_pos) ?_
    refine R_iload_n rfl rfl ?_
    refine R_qV (as := [.int (nI m), .int (nI (2 ^ r - 1)), .int (nI (2 ^ w - 1))]) rfl rfl iv_D_rankOf (sp_D_rankOf (m := m) (S := 2 ^ r - 1) (T := 2 ^ w - 1) (vS_q q26 hv) hmd (lwP2 (by omega)) (lwP2 (by omega))) (fun _ z => sm_lo z) (by omega) rfl rfl rfl rfl (Nat.le_of_ble_eq_true rfl) (fun τ27 r27 => ?_)
    have q27 := q26.trans r27
    refine R_nicmp_le (x := rkO f m (2 ^ (r + 1) - 1) (2 ^ w - 1) h w) (y := rkO f m (2 ^ r - 1) (2 ^ w - 1) h w) rfl rfl (by omega) (by omega) (fun z => ?_) (fun z => ?_)
    · have g := j65 _ q27
      rw [e1, if_neg (Nat.not_lt.mpr z)] at g
      exact g
    · refine R_iload_n rfl rfl ?_
      refine R_iconst (v := 1) rfl rfl ?_
      refine R_iload rfl rfl ?_
      refine R_shl1N (y := r) rfl (by omega) ?_
      refine R_iorB (s := prR f m h w r) (y := r) rfl s6 (by omega) ?_
      refine R_istore_n rfl (by decide) ?_
      have g := j65 _ q27
      rw [e1, if_pos (Nat.not_le.mp z)] at g
      exact g
theorem pl_profiles (hf : fSm f h w) (hmd : m ∈ mdL) {σ : am_G} (hv : vS σ 26 h w f v rh rl pn I) : am_Call am_TX 9 0 c_L_profiles [.ref 0, .int (nI m)] (ml σ ρ) (am_Oy (some (.int 1)) (fun σ1 ρ1 => ρ1 = ρ ∧ smP (plc 17 26) σ σ1)) := by
  obtain ⟨hd, hm⟩ := md_dom hmd
  have hw := hv.1.2.1.2
  refine ⟨mf_L_profiles, Nat.le_of_ble_eq_true rfl, ?_⟩
  refine R_iconst (v := 1) rfl rfl ?_
  refine R_aload_n rfl rfl ?_
  refine R_iconst (v := 1) rfl rfl ?_
  refine R_qV (as := [.int 1]) rfl rfl iv_D_count (sp_D_count_1 hv) (fun _ z => sm_lo z) (by decide) rfl rfl rfl rfl (Nat.le_of_ble_eq_true rfl) (fun τ1 q1 => ?_)
  refine R_shl1N (y := w) rfl (by omega) ?_
  refine R_iconst (v := 1) rfl rfl ?_
  refine R_isubN (x := 2 ^ w) (y := 1) rfl (p2_pos) ?_
  refine R_istore_n rfl (by decide) ?_
  refine R_iconst (v := 0) rfl rfl ?_
  refine R_istore_n rfl (by decide) ?_
  refine R_iconst (v := 0) rfl rfl ?_
  refine R_istore rfl (by decide) ?_
  refine R_iconst (v := 0) rfl rfl ?_
  refine R_istore rfl (by decide) ?_
  refine R_iconst (v := 0) rfl rfl ?_
  refine R_istore rfl (by decide) ?_
  exact lp_pf_r hd hm hf hmd (by decide) hv h 0 0 none none none none τ1 (by omega) pvC_0 q1
end LPF
