section LDW
variable {h w rh pn : Nat} {f v rl : am_Gr} {I : Nat → Int32} {ρ : am_Y}
/-- the locals of the law's divisors -/
def dvLs (h w : Nat) (bf : Int64) (n : Nat) (its : Option Value) (a b : Option Value) : List (Option Value) := [some (.ref 0), some (.int (nI (2 ^ h - 1))), some (.int (nI (2 ^ w - 1))), some (.long bf), none, some (.int (nI n)), its, none, a, b]
theorem lp_div_b (hf : fSm f h w) (hh : h ≤ 6) (hw : w ≤ 6) {A n k D : Nat} {a bf : Int64} (hA : A < 2 ^ h) (hn : n ≤ 6) (ha : mB a) (hD : 75 ≤ D) {σ : am_G} (hv : vS σ 26 h w f v rh rl pn I) {Q : am_Res → Prop}
    (hx : ∀ τ b, smP (plc 17 26) σ τ → am_R am_TX D k c_L_divisors 94 (dvLs h w bf n (some (.long (if pc A = n then dvC f A w n a (2 ^ w) else a))) (some (.int (nI A))) b) [] (ml τ ρ) Q) :
    ∀ u b τ, b + u = 2 ^ w → smP (plc 17 26) σ τ → am_R am_TX D k c_L_divisors 47 (dvLs h w bf n (some (.long (if pc A = n then dvC f A w n a b else a))) (some (.int (nI A))) (some (.int (nI b)))) [] (ml τ ρ) Q := by
  have hA6 := p2_64 hA hh
  have hw2 : 2 ^ w ≤ 64 := Nat.pow_le_pow_right (by decide) hw
  have hw0 : 0 < 2 ^ w := Nat.pos_of_ne_zero (by simp)
  have c1 := @pc_le A
  intro u
  induction u with
  | zero =>
    intro b τ hb q
    obtain rfl : b = 2 ^ w := by omega
    refine R_iload rfl rfl ?_
    refine R_iload_n rfl rfl ?_
    refine R_nicmp_gt (x := 2 ^ w) (y := 2 ^ w - 1) rfl rfl (by omega) (by omega) (fun _ => ?_) (fun z => by omega)
    exact hx τ _ q
  | succ u ih =>
    intro b τ hb q
    have c2 := @pc_le b
    have hbw : b < 2 ^ w := by omega
    have next : ∀ τ (x : Int64), smP (plc 17 26) σ τ → x = (if pc A = n then dvC f A w n a (b + 1) else a) → am_R am_TX D k c_L_divisors 88 (dvLs h w bf n (some (.long x)) (some (.int (nI A))) (some (.int (nI b)))) [] (ml τ ρ) Q := by
      intro τ x q hx
      subst hx
      refine R_iincN (x := b) (m := 1) rfl rfl rfl (by decide) ?_
      refine R_goto rfl rfl ?_
      exact ih (b + 1) τ (by omega) q
    refine R_iload rfl rfl ?_
    refine R_iload_n rfl rfl ?_
    refine R_nicmp_gt (x := b) (y := 2 ^ w - 1) rfl rfl (by omega) (by omega) (fun z => by omega) (fun _ => ?_)
    refine R_iload rfl rfl ?_
    refine R_pS (as := [.int (nI A)]) rfl rfl iv_JInteger_bitCount (pu_bitCount hA6) (by omega) rfl rfl rfl rfl (Nat.le_of_ble_eq_true rfl) ?_
    refine R_iload rfl rfl ?_
    refine R_nicmp_ne (x := pc A) (y := n) rfl rfl (by omega) (by omega) (fun hp => ?_) (fun hp => ?_)
    · exact next τ _ q (by rw [if_neg hp, if_neg hp])
    · refine R_iload rfl rfl ?_
      refine R_pS (as := [.int (nI b)]) rfl rfl iv_JInteger_bitCount (pu_bitCount (by omega)) (by omega) rfl rfl rfl rfl (Nat.le_of_ble_eq_true rfl) ?_
      refine R_iload rfl rfl ?_
      refine R_nicmp_ne (x := pc b) (y := n) rfl rfl (by omega) (by omega) (fun hp2 => ?_) (fun hp2 => ?_)
      · exact next τ _ q (by rw [if_pos hp, if_pos hp]; simp only [dvC]; rw [if_neg hp2])
      · rw [if_pos hp]
        obtain ⟨m1, -⟩ := dvC_B hf hh hw hA hp ha b (by omega)
        have m2 := mB_mn hf hh hw hA hbw (hp.trans hp2.symm)
        refine R_lload rfl rfl ?_
        refine R_aload_n rfl rfl ?_
        refine R_iload rfl rfl ?_
        refine R_iload rfl rfl ?_
        refine R_qV (as := [.int (nI A), .int (nI b)]) rfl rfl iv_D_minor (sp_D_minor (vS_q q hv) hA hbw (hp.trans hp2.symm)) (fun _ z => sm_lo z) (by omega) rfl rfl rfl rfl (Nat.le_of_ble_eq_true rfl) (fun τ1 q1 => ?_)
        refine R_pS (as := [.long (dvC f A w n a b), .long (mnF f A w b)]) rfl rfl iv_L_common (pl_common 73 _ _ m1 m2 (gD_all m1 m2)) (by omega) rfl rfl rfl rfl (Nat.le_of_ble_eq_true rfl) ?_
        refine R_lstore rfl (by decide) ?_
        exact next τ1 _ (q.trans q1) (by rw [if_pos hp]; simp only [dvC]; rw [if_pos hp2])
theorem lp_div_a (hf : fSm f h w) (hh : h ≤ 6) (hw : w ≤ 6) {n k D : Nat} {bf : Int64} (hn : n ≤ 6) (hD : 75 ≤ D) {σ : am_G} (hv : vS σ 26 h w f v rh rl pn I) {Q : am_Res → Prop}
    (hx : ∀ τ a b, smP (plc 17 26) σ τ → am_R am_TX D k c_L_divisors 100 (dvLs h w bf n (some (.long (dvF f h w n))) a b) [] (ml τ ρ) Q) :
    ∀ u a b τ, a + u = 2 ^ h → smP (plc 17 26) σ τ → am_R am_TX D k c_L_divisors 38 (dvLs h w bf n (some (.long (dvR f w n a))) (some (.int (nI a))) b) [] (ml τ ρ) Q := by
  have hh2 : 2 ^ h ≤ 64 := Nat.pow_le_pow_right (by decide) hh
  have hh0 : 0 < 2 ^ h := Nat.pos_of_ne_zero (by simp)
  intro u
  induction u with
  | zero =>
    intro a b τ ha q
    obtain rfl : a = 2 ^ h := by omega
    refine R_iload rfl rfl ?_
    refine R_iload_n rfl rfl ?_
    refine R_nicmp_gt (x := 2 ^ h) (y := 2 ^ h - 1) rfl rfl (by omega) (by omega) (fun _ => ?_) (fun z => by omega)
    exact hx τ _ _ q
  | succ u ih =>
    intro a b τ ha q
    refine R_iload rfl rfl ?_
    refine R_iload_n rfl rfl ?_
    refine R_nicmp_gt (x := a) (y := 2 ^ h - 1) rfl rfl (by omega) (by omega) (fun z => by omega) (fun _ => ?_)
    refine R_iconst (v := 0) rfl rfl ?_
    refine R_istore rfl (by decide) ?_
    have g := lp_div_b (A := a) (n := n) (k := k) (D := D) (a := dvR f w n a) (bf := bf) hf hh hw (by omega) hn (dvR_B hf hh hw a (by omega)).1 hD hv (Q := Q) (ρ := ρ) (fun τ1 b1 q1 => ?_) (2 ^ w) 0 τ (by omega) q
    · rw [show (if pc a = n then dvC f a w n (dvR f w n a) 0 else dvR f w n a) = dvR f w n a from by simp [dvC]] at g
      exact g
    · refine R_iincN (x := a) (m := 1) rfl rfl rfl (by decide) ?_
      refine R_goto rfl rfl ?_
      have e : (if pc a = n then dvC f a w n (dvR f w n a) (2 ^ w) else dvR f w n a) = dvR f w n (a + 1) := by simp only [dvR]
      rw [e]
      exact ih (a + 1) _ τ1 (by omega) q1
theorem dv_q (hf : fSm f h w) (hh : h ≤ 6) (hw : w ≤ 6) {n : Nat} : qtL (dvF f h w (n + 1)) (dvF f h w n) = (if dvF f h w (n + 1) = 0 then 0 else dvF f h w (n + 1) / dvF f h w n) ∧ (dvF f h w (n + 1) ≠ 0 → dvF f h w n ≠ 0) := by
  have h1 := dv_rk (n := n + 1) hf hh hw
  have h2 := dv_rk (n := n) hf hh hw
  have h3 : dvF f h w (n + 1) ≠ 0 → dvF f h w n ≠ 0 := by
    intro a b
    have := h2.mp b
    exact a (h1.mpr (by omega))
  refine ⟨?_, h3⟩
  unfold qtL
  by_cases c : dvF f h w (n + 1) = 0
  · rw [if_pos c, c]
    split
    · rfl
    · rw [l_eq, Int64.toInt_div, l0, Int.zero_tdiv]
      rfl
  · rw [if_neg c, if_neg (h3 c)]
theorem lp_div (hf : fSm f h w) (hh : h ≤ 6) (hw : w ≤ 6) {D : Nat} (hD : 75 ≤ D) {σ : am_G} (hv : vS σ 26 h w f v rh rl pn I) :
    ∀ u n bf its a b τ, n + u = 7 → (n ≠ 0 → bf = dvF f h w (n - 1)) → smP (plc 17 26) σ τ → am_R am_TX D 0 c_L_divisors 25 (dvLs h w bf n its a b) [] (ml τ ρ) (am_Oy (some (.int 1)) (fun σ1 ρ1 => ρ1 = ρ ∧ smP (plc 17 26) σ σ1)) := by
  intro u
  induction u with
  | zero =>
    intro n bf its a b τ hn hbf q
    obtain rfl : n = 7 := by omega
    refine R_iload rfl rfl ?_
    refine R_bipush (v := 7) rfl (by decide) ?_
    refine R_nicmp_ge (x := 7) (y := 7) rfl rfl (by decide) (by decide) (fun _ => ?_) (fun z => absurd (Nat.le_refl 7) z)
    refine R_iconst (v := 1) rfl rfl ?_
    exact T_zreturn rfl rfl rfl ⟨_, _, rfl, rfl, q⟩
  | succ u ih =>
    intro n bf its a b τ hn hbf q
    have hn6 : n ≤ 6 := by omega
    refine R_iload rfl rfl ?_
    refine R_bipush (v := 7) rfl (by decide) ?_
    refine R_nicmp_ge (x := n) (y := 7) rfl rfl (by omega) (by decide) (fun z => by omega) (fun _ => ?_)
    refine R_lconst (v := 0) rfl rfl ?_
    refine R_lstore rfl (by decide) ?_
    refine R_iconst (v := 0) rfl rfl ?_
    refine R_istore rfl (by decide) ?_
    refine lp_div_a (bf := bf) hf hh hw hn6 hD (vS_q q hv) (fun τ1 a1 b1 q1 => ?_) (2 ^ h) 0 _ τ (by omega) smP.refl
    have q1 := q.trans q1
    have e181 : ∀ τ a b, smP (plc 17 26) σ τ → am_R am_TX D 0 c_L_divisors 183 (dvLs h w bf n (some (.long (dvF f h w n))) a b) [] (ml τ ρ) (am_Oy (some (.int 1)) (fun σ1 ρ1 => ρ1 = ρ ∧ smP (plc 17 26) σ σ1)) := by
      intro τ a b q
      refine R_lload rfl rfl ?_
      refine R_lstore_n rfl (by decide) ?_
      refine R_iincN (x := n) (m := 1) rfl rfl rfl (by decide) ?_
      refine R_goto rfl rfl ?_
      exact ih (n + 1) _ _ _ _ τ (by omega) (fun _ => by rw [Nat.add_sub_cancel]) q
    have e146 : ∀ τ a b, smP (plc 17 26) σ τ → am_R am_TX D 0 c_L_divisors 146 (dvLs h w bf n (some (.long (dvF f h w n))) a b) [] (ml τ ρ) (am_Oy (some (.int 1)) (fun σ1 ρ1 => ρ1 = ρ ∧ smP (plc 17 26) σ σ1)) := by
      intro τ a b q
      refine R_iload rfl rfl ?_
      refine R_nif_le (x := n) rfl rfl (by omega) (fun _ => e181 τ a b q) (fun h0 => ?_)
      have hr := dv_rk (n := n) hf hh hw
      have r6 := @rkO_6 f 0 (2 ^ h - 1) (2 ^ w - 1) h w hh
      have j163 : ∀ x : Int32, x = zP (dvF f h w n = 0) → am_R am_TX D 0 c_L_divisors 163 (dvLs h w bf n (some (.long (dvF f h w n))) a b) [.int x] (ml τ ρ) (am_Oy (some (.int 1)) (fun σ1 ρ1 => ρ1 = ρ ∧ smP (plc 17 26) σ σ1)) := by
        intro x hx
        subst hx
        refine R_aload_n rfl rfl ?_
        refine R_iconst (v := 0) rfl rfl ?_
        refine R_qV (as := [.int (nI 0)]) rfl rfl iv_D_rank (sp_D_rank (vS_q q hv) (by decide)) (fun _ z => sm_lo z) (by omega) rfl rfl rfl rfl (Nat.le_of_ble_eq_true rfl) (fun τ2 q2 => ?_)
        refine R_iload rfl rfl ?_
        refine R_nicmp_ge (x := rkO f 0 (2 ^ h - 1) (2 ^ w - 1) h w) (y := n) rfl rfl (by omega) (by omega) (fun z => ?_) (fun z => ?_)
        · refine R_iconst (v := 0) rfl rfl ?_
          rw [zP_f (fun y => by have := hr.mp y; omega)]
          refine R_icmp_eq rfl rfl (fun _ => ?_) (fun z => absurd rfl z)
          exact e181 τ2 a b (q.trans q2)
        · refine R_iconst (v := 1) rfl rfl ?_
          refine R_goto rfl rfl ?_
          rw [zP_t (hr.mpr (by omega))]
          refine R_icmp_eq rfl rfl (fun _ => ?_) (fun z => absurd rfl z)
          exact e181 τ2 a b (q.trans q2)
      refine R_lload rfl rfl ?_
      refine R_lconst (v := 0) rfl rfl ?_
      refine R_l_ne rfl rfl rfl (fun z => ?_) (fun z => ?_)
      · refine R_iconst (v := 0) rfl rfl ?_
        exact j163 0 (zP_f z).symm
      · refine R_iconst (v := 1) rfl rfl ?_
        refine R_goto rfl rfl ?_
        exact j163 1 (zP_t z).symm
    refine R_aload_n rfl rfl ?_
    refine R_iload rfl rfl ?_
    refine R_qV (as := [.int (nI n)]) rfl rfl iv_D_divisor (sp_D_divisor (vS_q q1 hv) hn6) (fun _ z => sm_lo z) (by omega) rfl rfl rfl rfl (Nat.le_of_ble_eq_true rfl) (fun τ2 q2 => ?_)
    have q2 := q1.trans q2
    refine R_lload rfl rfl ?_
    refine R_l_eq rfl rfl rfl (fun _ => ?_) (fun z => absurd rfl z)
    refine R_iload rfl rfl ?_
    refine R_nif_le (x := n) rfl rfl (by omega) (fun _ => e146 τ2 a1 b1 q2) (fun h0 => ?_)
    obtain ⟨n1, rfl⟩ : ∃ n1, n = n1 + 1 := ⟨n - 1, by omega⟩
    have hbf := hbf (by omega)
    rw [Nat.add_sub_cancel] at hbf
    subst hbf
    obtain ⟨g1, g2⟩ := dv_q (n := n1) hf hh hw
    refine R_aload_n rfl rfl ?_
    refine R_iload rfl rfl ?_
    refine R_qV (as := [.int (nI (n1 + 1))]) rfl rfl iv_D_invariant (sp_D_invariant (vS_q q2 hv) ⟨by omega, hn6⟩) (fun _ z => sm_lo z) (by omega) rfl rfl rfl rfl (Nat.le_of_ble_eq_true rfl) (fun τ3 q3 => ?_)
    have q3 := q2.trans q3
    rw [Nat.add_sub_cancel, g1]
    refine R_lload rfl rfl ?_
    refine R_lconst (v := 0) rfl rfl ?_
    refine R_l_ne rfl rfl rfl (fun z => ?_) (fun z => ?_)
    · refine R_lload rfl rfl ?_
      refine R_lload_n rfl rfl ?_
      refine R_ldiv rfl (g2 z) ?_
      rw [if_neg z]
      refine R_l_eq rfl rfl rfl (fun _ => ?_) (fun z => absurd rfl z)
      exact e146 τ3 a1 b1 q3
    · refine R_lconst (v := 0) rfl rfl ?_
      refine R_goto rfl rfl ?_
      rw [if_pos z]
      refine R_l_eq rfl rfl rfl (fun _ => ?_) (fun z => absurd rfl z)
      exact e146 τ3 a1 b1 q3
theorem pl_divisors (hf : fSm f h w) {σ : am_G} (hv : vS σ 26 h w f v rh rl pn I) : am_Call am_TX 75 0 c_L_divisors [.ref 0] (ml σ ρ) (am_Oy (some (.int 1)) (fun σ1 ρ1 => ρ1 = ρ ∧ smP (plc 17 26) σ σ1)) := by
  have hh := hv.1.1.2
  have hw := hv.1.2.1.2
  refine ⟨mf_L_divisors, Nat.le_of_ble_eq_true rfl, ?_⟩
  refine R_iconst (v := 1) rfl rfl ?_
  refine R_aload_n rfl rfl ?_
  refine R_iconst (v := 0) rfl rfl ?_
  refine R_qV (as := [.int 0]) rfl rfl iv_D_count (sp_D_count_0 hv) (fun _ z => sm_lo z) (by decide) rfl rfl rfl rfl (Nat.le_of_ble_eq_true rfl) (fun τ1 q1 => ?_)
  refine R_shl1N (y := h) rfl (by omega) ?_
  refine R_iconst (v := 1) rfl rfl ?_
  refine R_isubN (x := 2 ^ h) (y := 1) rfl (Nat.pos_of_ne_zero (by simp)) ?_
  refine R_istore_n rfl (by decide) ?_
  refine R_iconst (v := 1) rfl rfl ?_
  refine R_aload_n rfl rfl ?_
  refine R_iconst (v := 1) rfl rfl ?_
  refine R_qV (as := [.int 1]) rfl rfl iv_D_count (sp_D_count_1 (vS_q q1 hv)) (fun _ z => sm_lo z) (by decide) rfl rfl rfl rfl (Nat.le_of_ble_eq_true rfl) (fun τ2 q2 => ?_)
  have q2 := q1.trans q2
  refine R_shl1N (y := w) rfl (by omega) ?_
  refine R_iconst (v := 1) rfl rfl ?_
  refine R_isubN (x := 2 ^ w) (y := 1) rfl (Nat.pos_of_ne_zero (by simp)) ?_
  refine R_istore_n rfl (by decide) ?_
  refine R_lconst (v := 1) rfl rfl ?_
  refine R_lstore_n rfl (by decide) ?_
  refine R_iconst (v := 0) rfl rfl ?_
  refine R_istore rfl (by decide) ?_
  exact lp_div hf hh hw (by decide) hv 7 0 1 none none none τ2 rfl (fun z => absurd rfl z) q2
end LDW
