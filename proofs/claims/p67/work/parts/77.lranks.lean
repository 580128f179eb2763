/-! ===== the law's ranks ===== -/
theorem and_raw : ∀ a : Nat, a < 64 → ∀ b : Nat, b < 64 → nI a &&& nI b = nI (a &&& b) ∧ a &&& b < 64 := by decide +kernel
theorem sub_next : ∀ R : Nat, R < 64 → ∀ a : Nat, a < 64 → a ≠ 0 → ((a - 1) &&& R < a ∧ ((a - 1) &&& R) &&& R = (a - 1) &&& R) := by decide +kernel
theorem sub_max0 : ∀ R : Nat, R < 64 → ∀ a : Nat, a < 64 → ∀ A : Nat, A < a → (a &&& R = a ∧ A &&& R = A → A ≤ (a - 1) &&& R) := by decide +kernel
theorem sub_max (R : Nat) (hR : R < 64) (a : Nat) (ha : a < 64) (_h0 : a ≠ 0) (h1 : a &&& R = a) (A : Nat) (hA : A < a) (h2 : A &&& R = A) : A ≤ (a - 1) &&& R := sub_max0 R hR a ha A hA ⟨h1, h2⟩
theorem sub_tb : ∀ A : Nat, A < 64 → ∀ R : Nat, R < 64 → A &&& R = A → ∀ x : Nat, x < 6 → A.testBit x = true → R.testBit x = true := by decide +kernel
theorem tb_sub : ∀ A : Nat, A < 64 → ∀ R : Nat, R < 64 → (∀ x : Nat, x < 6 → A.testBit x = true → R.testBit x = true) → A &&& R = A := by decide +kernel
theorem sub_tb' {A R : Nat} (hA : A < 64) (hR : R < 64) (h : A &&& R = A) : ∀ x, A.testBit x = true → R.testBit x = true := fun x hx => sub_tb A hA R hR h x (tb_w (h := 6) hA hx) hx
theorem sub_le {A R : Nat} (h : A &&& R = A) : A ≤ R := by rw [← h]; exact Nat.and_le_right
section LRK
variable {h w rh pn m : Nat} {f v rl : am_Gr} {I : Nat → Int32} {ρ : am_Y}
/-- a minor that is not 0 modulo m -/
def nzM (f : am_Gr) (m A B : Nat) : Prop := pc A = pc B ∧ ¬ (m : Int) ∣ zM f A B
theorem mn_nz (hf : fSm f h w) (hh : h ≤ 6) (hw : w ≤ 6) {A B : Nat} (hA : A < 2 ^ h) (hB : B < 2 ^ w) (hp : pc A = pc B) : (mnF f A w B).toInt = zM f A B := (mnF_t hf hh hw hA hB (by omega)).1
theorem nz_0 (hf : fSm f h w) (hh : h ≤ 6) (hw : w ≤ 6) {A B : Nat} (hA : A < 2 ^ h) (hB : B < 2 ^ w) (hp : pc A = pc B) : mnF f A w B = 0 ↔ ((0 : Nat) : Int) ∣ zM f A B := by
  rw [l_eq0, mn_nz hf hh hw hA hB hp]
  exact Int.zero_dvd.symm
theorem nz_m (hf : fSm f h w) (hh : h ≤ 6) (hw : w ≤ 6) {A B : Nat} (hA : A < 2 ^ h) (hB : B < 2 ^ w) (hp : pc A = pc B) (hm : m < 2 ^ 31) : mnF f A w B - mnF f A w B / (nI m).toInt64 * (nI m).toInt64 = 0 ↔ (m : Int) ∣ zM f A B := by
  have e : (remL (mnF f A w B) (nI m).toInt64).toInt = (zM f A B).tmod m := by rw [remL_toInt, nI_64 hm, mn_nz hf hh hw hA hB hp]
  rw [l_eq0]
  show (remL (mnF f A w B) (nI m).toInt64).toInt = 0 ↔ _
  rw [e, Int.dvd_iff_tmod_eq_zero]
def rkE (f : am_Gr) (m R C most : Nat) : Prop := most = 0 ∨ ∃ A B, A < 64 ∧ B < 64 ∧ A &&& R = A ∧ B &&& C = B ∧ pc A = most ∧ nzM f m A B
def rkU (f : am_Gr) (m R C a most : Nat) : Prop := ∀ A B, A &&& R = A → B &&& C = B → a < A → nzM f m A B → pc A ≤ most
def rkB (f : am_Gr) (m C a b : Nat) : Prop := ∀ B, B &&& C = B → b < B → ¬ nzM f m a B
theorem rk_end (hd : zdom m) (hm : m ≤ 97) (hf : fSm f h w) (hh : h ≤ 6) (hw : w ≤ 6) {R C most : Nat} (hR : R < 2 ^ h) (hC : C < 2 ^ w) (hE : rkE f m R C most) (hU : rkU f m R C 0 most) : rkO f m R C h w = most := by
  have hR6 := p2_64 hR hh
  have hC6 := p2_64 hC hw
  refine Nat.le_antisymm ?_ ?_
  · obtain ⟨A, B, a1, a2, a3, a4, a5, a6, a7⟩ := rk_sets hd hm hf hh hw hR hC
    rw [← a5]
    by_cases h0 : A = 0
    · rw [h0]; exact Nat.zero_le _
    · exact hU A B (tb_sub A (p2_64 a1 hh) R hR6 (fun x _ hx => a3 x hx)) (tb_sub B (p2_64 a2 hw) C hC6 (fun x _ hx => a4 x hx)) (Nat.pos_of_ne_zero h0) ⟨a5.trans a6.symm, a7⟩
  · rcases hE with h0 | ⟨A, B, a1, a2, a3, a4, a5, a6, a7⟩
    · rw [h0]; exact Nat.zero_le _
    · rw [← a5]
      exact rk_top hd hm hf hh hw hR hC (sub_tb' a1 hR6 a3) (sub_tb' a2 hC6 a4) a1 a2 a6 a7
theorem lp_ranks_b (hf : fSm f h w) (hh : h ≤ 6) (hw : w ≤ 6) (hm : m ≤ 97) {R C a most k D : Nat} (hR : R < 2 ^ h) (hC : C < 2 ^ w) (ha : a &&& R = a) (hpa : most < pc a) (hD : 9 ≤ D) {σ : am_G} (hv : vS σ 26 h w f v rh rl pn I) {Q : am_Res → Prop}
    (hno : ∀ τ b0 its s, smP (plc 17 26) σ τ → rkB f m C a 0 → am_R am_TX D k c_L_ranks 103 [some (.ref 0), some (.int (nI m)), some (.int (nI R)), some (.int (nI C)), some (.int (nI most)), some (.int (nI a)), some (.int (nI b0)), its, s] [] (ml τ ρ) Q)
    (hyes : ∀ τ b its s, smP (plc 17 26) σ τ → b < 64 → b &&& C = b → nzM f m a b → am_R am_TX D k c_L_ranks 103 [some (.ref 0), some (.int (nI m)), some (.int (nI R)), some (.int (nI C)), some (.int (nI (pc a))), some (.int (nI a)), some (.int (nI b)), its, s] [] (ml τ ρ) Q) :
    ∀ u b its s τ, b < u → b < 64 → b &&& C = b → rkB f m C a b → smP (plc 17 26) σ τ → am_R am_TX D k c_L_ranks 27 [some (.ref 0), some (.int (nI m)), some (.int (nI R)), some (.int (nI C)), some (.int (nI most)), some (.int (nI a)), some (.int (nI b)), its, s] [] (ml τ ρ) Q := by
  have hC6 := p2_64 hC hw
  have hR6 := p2_64 hR hh
  have ha6 : a < 64 := Nat.lt_of_le_of_lt (sub_le ha) hR6
  have hah : a < 2 ^ h := Nat.lt_of_le_of_lt (sub_le ha) hR
  intro u
  induction u with
  | zero => intro b its s τ hb; exact absurd hb (Nat.not_lt_zero b)
  | succ u ih =>
    intro b its s τ hbu hb hbC hB q
    have hbw : b < 2 ^ w := Nat.lt_of_le_of_lt (sub_le hbC) hC
    have next : ∀ τ its s, smP (plc 17 26) σ τ → b ≠ 0 → ¬ nzM f m a b → am_R am_TX D k c_L_ranks 92 [some (.ref 0), some (.int (nI m)), some (.int (nI R)), some (.int (nI C)), some (.int (nI most)), some (.int (nI a)), some (.int (nI b)), its, s] [] (ml τ ρ) Q := by
      intro τ its s q h0 hn
      obtain ⟨n1, n2⟩ := sub_next C hC6 b hb h0
      refine R_iload rfl rfl ?_
      refine R_iconst (v := 1) rfl rfl ?_
      refine R_isubN (x := b) (y := 1) rfl (by omega) ?_
      refine R_iload_n rfl rfl ?_
      refine R_iand rfl ?_
      rw [(and_raw (b - 1) (by omega) C hC6).1]
      refine R_istore rfl (by decide) ?_
      refine R_goto rfl rfl ?_
      refine ih _ its s τ (by omega) (by omega) n2 (fun B hB2 hlt hz => ?_) q
      rcases Nat.lt_trichotomy b B with z | z | z
      · exact hB B hB2 z hz
      · exact hn (z ▸ hz)
      · have := sub_max C hC6 b hb h0 hbC B z hB2
        omega
    refine R_iload rfl rfl ?_
    refine R_nif_le (x := b) rfl rfl (by omega) (fun z => ?_) (fun z => ?_)
    · have h0 : b = 0 := by omega
      subst h0
      exact hno τ 0 its s q hB
    · refine R_iload rfl rfl ?_
      refine R_pS (as := [.int (nI a)]) rfl rfl iv_JInteger_bitCount (pu_bitCount ha6) (by omega) rfl rfl rfl rfl (Nat.le_of_ble_eq_true rfl) ?_
      refine R_iload rfl rfl ?_
      refine R_pS (as := [.int (nI b)]) rfl rfl iv_JInteger_bitCount (pu_bitCount hb) (by omega) rfl rfl rfl rfl (Nat.le_of_ble_eq_true rfl) ?_
      have c1 := @pc_le a
      have c2 := @pc_le b
      refine R_nicmp_eq (x := pc a) (y := pc b) rfl rfl (by omega) (by omega) (fun hp => ?_) (fun hp => ?_)
      · refine R_aload_n rfl rfl ?_
        refine R_iload rfl rfl ?_
        refine R_iload rfl rfl ?_
        refine R_qV (as := [.int (nI a), .int (nI b)]) rfl rfl iv_D_minor (sp_D_minor (vS_q q hv) hah hbw hp) (fun _ z => sm_lo z) (by omega) rfl rfl rfl rfl (Nat.le_of_ble_eq_true rfl) (fun τ1 q1 => ?_)
        have q2 := q.trans q1
        refine R_lstore rfl (by decide) ?_
        have yes : ∀ its s, nzM f m a b → am_R am_TX D k c_L_ranks 82 [some (.ref 0), some (.int (nI m)), some (.int (nI R)), some (.int (nI C)), some (.int (nI most)), some (.int (nI a)), some (.int (nI b)), its, s] [] (ml τ1 ρ) Q := by
          intro its s hz
          refine R_iload rfl rfl ?_
          refine R_pS (as := [.int (nI a)]) rfl rfl iv_JInteger_bitCount (pu_bitCount ha6) (by omega) rfl rfl rfl rfl (Nat.le_of_ble_eq_true rfl) ?_
          refine R_istore rfl (by decide) ?_
          refine R_goto rfl rfl ?_
          exact hyes τ1 b its s q2 hb hbC hz
        refine R_iload_n rfl rfl ?_
        refine R_nif_ne (x := m) rfl rfl (by omega) (fun h0 => ?_) (fun h0 => ?_)
        · refine R_lload rfl rfl ?_
          refine R_iload_n rfl rfl ?_
          refine R_i2l rfl ?_
          refine R_lrem rfl (by rw [l_eq0, nI_64 (by omega)]; omega) ?_
          refine R_lconst (v := 0) rfl rfl ?_
          refine R_l_eq rfl rfl rfl (fun hz => ?_) (fun hz => ?_)
          · exact next τ1 _ _ q2 (by omega) (fun y => y.2 ((nz_m hf hh hw hah hbw hp (by omega)).mp hz))
          · exact yes _ _ ⟨hp, fun y => hz ((nz_m hf hh hw hah hbw hp (by omega)).mpr y)⟩
        · subst h0
          refine R_lload rfl rfl ?_
          refine R_lconst (v := 0) rfl rfl ?_
          refine R_l_eq rfl rfl rfl (fun hz => ?_) (fun hz => ?_)
          · exact next τ1 _ _ q2 (by omega) (fun y => y.2 ((nz_0 hf hh hw hah hbw hp).mp hz))
          · refine R_goto rfl rfl ?_
            exact yes _ _ ⟨hp, fun y => hz ((nz_0 hf hh hw hah hbw hp).mpr y)⟩
      · refine R_goto rfl rfl ?_
        exact next τ its s q (by omega) (fun y => hp y.1)
theorem lp_ranks_a (hd : zdom m) (hf : fSm f h w) (hh : h ≤ 6) (hw : w ≤ 6) (hm : m ≤ 97) (hmd : m ∈ mdL) {R C k D : Nat} (hR : R < 2 ^ h) (hC : C < 2 ^ w) (hD : 9 ≤ D) {σ : am_G} (hv : vS σ 26 h w f v rh rl pn I) :
    ∀ u a most b its s τ, a < u → a < 64 → a &&& R = a → most ≤ 6 → rkE f m R C most → rkU f m R C a most → smP (plc 17 26) σ τ → am_R am_TX D k c_L_ranks 6 [some (.ref 0), some (.int (nI m)), some (.int (nI R)), some (.int (nI C)), some (.int (nI most)), some (.int (nI a)), b, its, s] [] (ml τ ρ) (am_Oy (some (.int 1)) (fun σ1 ρ1 => ρ1 = ρ ∧ smP (plc 17 26) σ σ1)) := by
  have hC6 := p2_64 hC hw
  have hR6 := p2_64 hR hh
  intro u
  induction u with
  | zero => intro a most b its s τ ha; exact absurd ha (Nat.not_lt_zero a)
  | succ u ih =>
    intro a most b its s τ hau ha haR hmo hE hU q
    have c1 := @pc_le a
    have next : ∀ τ most b its s, smP (plc 17 26) σ τ → a ≠ 0 → most ≤ 6 → rkE f m R C most → rkU f m R C a most → (∀ B, B &&& C = B → nzM f m a B → pc a ≤ most) → am_R am_TX D k c_L_ranks 103 [some (.ref 0), some (.int (nI m)), some (.int (nI R)), some (.int (nI C)), some (.int (nI most)), some (.int (nI a)), b, its, s] [] (ml τ ρ) (am_Oy (some (.int 1)) (fun σ1 ρ1 => ρ1 = ρ ∧ smP (plc 17 26) σ σ1)) := by
      intro τ most b its s q h0 hmo hE hU hn
      obtain ⟨n1, n2⟩ := sub_next R hR6 a ha h0
      refine R_iload rfl rfl ?_
      refine R_iconst (v := 1) rfl rfl ?_
      refine R_isubN (x := a) (y := 1) rfl (by omega) ?_
      refine R_iload_n rfl rfl ?_
      refine R_iand rfl ?_
      rw [(and_raw (a - 1) (by omega) R hR6).1]
      refine R_istore rfl (by decide) ?_
      refine R_goto rfl rfl ?_
      refine ih _ most b its s τ (by omega) (by omega) n2 hmo hE (fun A B hA2 hB2 hlt hz => ?_) q
      rcases Nat.lt_trichotomy a A with z | z | z
      · exact hU A B hA2 hB2 z hz
      · subst z; exact hn B hB2 hz
      · have := sub_max R hR6 a ha h0 haR A z hA2
        omega
    refine R_iload rfl rfl ?_
    refine R_nif_le (x := a) rfl rfl (by omega) (fun z => ?_) (fun z => ?_)
    · have h0 : a = 0 := by omega
      subst h0
      refine R_aload_n rfl rfl ?_
      refine R_iload_n rfl rfl ?_
      refine R_iload_n rfl rfl ?_
      refine R_iload_n rfl rfl ?_
      refine R_qV (as := [.int (nI m), .int (nI R), .int (nI C)]) rfl rfl iv_D_rankOf (sp_D_rankOf (vS_q q hv) hmd hR hC) (fun _ z => sm_lo z) (by omega) rfl rfl rfl rfl (Nat.le_of_ble_eq_true rfl) (fun τ1 q1 => ?_)
      rw [rk_end hd hm hf hh hw hR hC hE hU]
      refine R_iload rfl rfl ?_
      refine R_icmp_ne rfl rfl (fun z => absurd rfl z) (fun _ => ?_)
      refine R_iconst (v := 1) rfl rfl ?_
      refine R_goto rfl rfl ?_
      exact T_zreturn rfl rfl rfl ⟨_, _, rfl, rfl, q.trans q1⟩
    · refine R_iload rfl rfl ?_
      refine R_pS (as := [.int (nI a)]) rfl rfl iv_JInteger_bitCount (pu_bitCount ha) (by omega) rfl rfl rfl rfl (Nat.le_of_ble_eq_true rfl) ?_
      refine R_iload rfl rfl ?_
      refine R_nicmp_gt (x := pc a) (y := most) rfl rfl (by omega) (by omega) (fun hp => ?_) (fun hp => ?_)
      · refine R_iload_n rfl rfl ?_
        refine R_istore rfl (by decide) ?_
        refine lp_ranks_b hf hh hw hm hR hC haR (by omega) hD (vS_q q hv) (fun τ2 b2 i2 s2 q2 hB => ?_) (fun τ2 b2 i2 s2 q2 h64 hbC hz => ?_) (C + 1) C its s τ (by omega) hC6 (Nat.and_self C) (fun B hB hlt => absurd (sub_le hB) (Nat.not_le.mpr hlt)) smP.refl
        · refine next τ2 most _ i2 s2 (q.trans q2) (by omega) hmo hE hU (fun B hB2 hz => ?_)
          by_cases h0 : B = 0
          · have := hz.1
            rw [h0] at this
            rw [this]
            exact Nat.zero_le _
          · exact absurd hz (hB B hB2 (Nat.pos_of_ne_zero h0))
        · refine next τ2 (pc a) _ i2 s2 (q.trans q2) (by omega) c1 (Or.inr ⟨a, b2, ha, h64, haR, hbC, rfl, hz⟩) (fun A B a1 a2 a3 a4 => Nat.le_trans (hU A B a1 a2 a3 a4) (by omega)) (fun _ _ _ => Nat.le_refl _)
      · refine R_goto rfl rfl ?_
        exact next τ most b its s q (by omega) hmo hE hU (fun _ _ _ => by omega)
theorem pl_ranks (hf : fSm f h w) (hmd : m ∈ mdL) {R C : Nat} (hR : R < 2 ^ h) (hC : C < 2 ^ w) {σ : am_G} (hv : vS σ 26 h w f v rh rl pn I) : am_Call am_TX 9 0 c_L_ranks [.ref 0, .int (nI m), .int (nI R), .int (nI C)] (ml σ ρ) (am_Oy (some (.int 1)) (fun σ1 ρ1 => ρ1 = ρ ∧ smP (plc 17 26) σ σ1)) := by
  obtain ⟨hd, hm⟩ := md_dom hmd
  have hh := hv.1.1.2
  have hw := hv.1.2.1.2
  have hC6 := p2_64 hC hw
  have hR6 := p2_64 hR hh
  refine ⟨mf_L_ranks, Nat.le_of_ble_eq_true rfl, ?_⟩
  refine R_iconst (v := 0) rfl rfl ?_
  refine R_istore rfl (by decide) ?_
  refine R_iload_n rfl rfl ?_
  refine R_istore rfl (by decide) ?_
  exact lp_ranks_a hd hf hh hw hm hmd hR hC (by decide) hv (R + 1) R 0 none none none σ (by omega) hR6 (Nat.and_self R) (by decide) (Or.inl rfl) (fun A B hA _ hlt => absurd (sub_le hA) (Nat.not_le.mpr hlt)) smP.refl
end LRK
