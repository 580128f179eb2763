/-! ===== the law's minor ===== -/
def zM (f : am_Gr) (S s : Nat) : Int := zzD (pc s) (fun i j => fZ f (sel S i) (sel s j))
theorem tz_sel : ∀ S : Nat, S < 64 → S ≠ 0 → tz S = sel S 0 := by decide +kernel
theorem zg_i {n : Nat} {x : Int32} {z : Int} (hx : x.toInt = z) (hz : z.natAbs ≤ 20) : (iZ (zg n) * x).toInt64 = Int64.ofInt (zg n * z) := by
  rw [← Int64.toInt_inj, Int32.toInt_toInt64]
  rcases @zg_pm n with h | h
  · rw [h, Int.one_mul, show iZ 1 = 1 from rfl, Int32.one_mul, hx, Int64.toInt_ofInt_of_le (by omega) (by omega)]
  · rw [h, Int.neg_mul, Int.one_mul, show iZ (-1) = -1 from rfl, Int32.neg_mul, Int32.one_mul, Int64.toInt_ofInt_of_le (by omega) (by omega), Int32.toInt_neg, hx, Int.bmod_eq_of_le (by omega) (by omega)]
theorem iZ_neg {z : Int} : -(iZ z) = iZ (-z) := (Int32.ofInt_neg z).symm
theorem wo_p2 {S k h : Nat} (hS : S < 2 ^ h) : wo S k < 2 ^ h := by
  unfold wo
  split
  · exact Nat.lt_of_le_of_lt (Nat.sub_le _ _) hS
  · exact hS
theorem fZ_32 {f : am_Gr} {h w i j : Nat} (hf : fSm f h w) (hi : i < h) (hj : j < w) : ((f i j).toInt32).toInt = fZ f i j ∧ (fZ f i j).natAbs ≤ 20 := by
  have := hf i j hi hj
  refine ⟨?_, this⟩
  show (f i j).toInt32.toInt = (f i j).toInt
  rw [Int64.toInt_toInt32, Int.bmod_eq_of_le (by omega) (by omega)]
section LMI
variable {h w rh pn : Nat} {f v rl : am_Gr} {I : Nat → Int32} {ρ : am_Y}
theorem zM_s {S s : Nat} (hS : S < 64) (hs : s < 64) {n : Nat} (h1 : pc S = n + 1) (h2 : pc s = n + 1) : zM f S s = zzS (n + 1) (fun j => zg j * fZ f (sel S 0) (sel s j) * zM f (wo S (sel S 0)) (wo s (sel s j))) := by
  unfold zM
  rw [h2, zzD_s]
  refine zzS_congr _ (fun j hj => ?_)
  have a4 := (pc_above hs (show j < pc s by omega)).2.2.2
  congr 1
  rw [show pc (wo s (sel s j)) = n by omega]
  refine zzD_congr n (fun i k hi hk => ?_)
  rw [sel_wo hs (by omega) (by omega), sel_wo hS (by omega) (by omega), zk_0]
theorem lp_minor (hf : fSm f h w) (hh : h ≤ 6) (hw : w ≤ 6) {n S s : Nat} (hS : S < 2 ^ h) (hs : s < 2 ^ w) (h1 : pc S = n + 1) (h2 : pc s = n + 1)
    (ih : ∀ S s, S < 2 ^ h → s < 2 ^ w → pc S = n → pc s = n → ∀ σ, vS σ 26 h w f v rh rl pn I → am_Call am_TX (9 + n) 0 c_L_minor [.ref 0, .int (nI S), .int (nI s)] (ml σ ρ) (am_Oy (some (.long (Int64.ofInt (zM f S s)))) (fun σ1 ρ1 => ρ1 = ρ ∧ smP (plc 17 26) σ σ1))) {σ : am_G} (hv : vS σ 26 h w f v rh rl pn I) :
    ∀ m c τ, c + m = 6 → smP (plc 17 26) σ τ → am_R am_TX (9 + (n + 1)) 0 c_L_minor 20 [some (.ref 0), some (.int (nI S)), some (.int (nI s)), some (.int (nI (tz S))), some (.long (Int64.ofInt (zzS (nb s c) (fun j => zg j * fZ f (sel S 0) (sel s j) * zM f (wo S (sel S 0)) (wo s (sel s j)))))), none, some (.int (iZ (zg (nb s c)))), some (.int (nI c))] [] (ml τ ρ) (am_Oy (some (.long (Int64.ofInt (zM f S s)))) (fun σ1 ρ1 => ρ1 = ρ ∧ smP (plc 17 26) σ σ1)) := by
  have hS6 := p2_64 hS hh
  have hs6 := p2_64 hs hw
  have hS0 : S ≠ 0 := fun e => by rw [e] at h1; exact absurd h1 (by simp [pc])
  obtain ⟨t1, t2, t3, t4, t5⟩ := tz_raw S hS6 hS0
  have ht := tz_sel S hS6 hS0
  intro m
  induction m with
  | zero =>
    intro c τ hc q
    obtain rfl : c = 6 := by omega
    refine R_iload rfl rfl ?_
    refine R_bipush (v := 6) rfl (by decide) ?_
    refine R_nicmp_ge (x := 6) (y := 6) rfl rfl (by decide) (by decide) (fun _ => ?_) (fun z => absurd (Nat.le_refl 6) z)
    refine R_lload rfl rfl ?_
    refine T_lreturn rfl rfl ⟨_, _, ?_, rfl, q⟩
    rw [← pc_nb hs6, h2, ← zM_s hS6 hs6 h1 h2]
  | succ m ihm =>
    intro c τ hc q
    refine R_iload rfl rfl ?_
    refine R_bipush (v := 6) rfl (by decide) ?_
    refine R_nicmp_ge (x := c) (y := 6) rfl rfl (by omega) (by decide) (fun z => by omega) (fun _ => ?_)
    refine R_iload_n rfl rfl ?_
    refine R_iload rfl rfl ?_
    refine R_pS (as := [.int (nI s), .int (nI c)]) rfl rfl iv_L_has (pl_has hs6 (by omega)) (by omega) rfl rfl rfl rfl (Nat.le_of_ble_eq_true rfl) ?_
    refine R_zif_ne rfl rfl (fun hb => ?_) (fun hb => ?_)
    · have hcw : c < w := by
        refine Decidable.byContradiction fun z => ?_
        exact tb_hi (Nat.lt_of_lt_of_le hs (Nat.pow_le_pow_right (by decide) (Nat.le_of_not_lt z))) hb
      have htS : tz S < h := by
        refine Decidable.byContradiction fun z => ?_
        exact tb_hi (Nat.lt_of_lt_of_le hS (Nat.pow_le_pow_right (by decide) (Nat.le_of_not_lt z))) t3
      have hsel := sel_nb hs6 (show c < 6 by omega) hb
      refine R_lload rfl rfl ?_
      refine R_iload rfl rfl ?_
      refine R_aload_n rfl rfl ?_
      refine R_iload_n rfl rfl ?_
      refine R_iload rfl rfl ?_
      refine R_qV (as := [.int (nI (tz S)), .int (nI c)]) rfl rfl iv_D_entry (sp_D_entry (vS_q q hv) htS hcw) (fun _ z => sm_lo z) (by omega) rfl rfl rfl rfl (Nat.le_of_ble_eq_true rfl) (fun τ1 q1 => ?_)
      refine R_imul rfl ?_
      refine R_i2l rfl ?_
      obtain ⟨x1, x2⟩ := fZ_32 hf htS hcw
      rw [zg_i x1 x2]
      refine R_aload_n rfl rfl ?_
      refine R_iload_n rfl rfl ?_
      refine R_iload_n rfl rfl ?_
      refine R_iconst (v := 1) rfl rfl ?_
      refine R_isub rfl ?_
      refine R_iand rfl ?_
      rw [t5]
      refine R_iload_n rfl rfl ?_
      refine R_iconst (v := 1) rfl rfl ?_
      refine R_iload rfl rfl ?_
      refine R_shl1N (y := c) rfl (by omega) ?_
      refine R_iconst (v := -1) rfl rfl ?_
      refine R_ixor rfl ?_
      refine R_iandB (s := s) (y := c) rfl hs6 (by omega) ?_
      have p1 := (pc_wo hS6 t2 t3).1
      have p2 := (pc_wo hs6 (show c < 6 by omega) hb).1
      refine R_qS (kc := 0) (k := 0) (as := [.ref 0, .int (nI (wo S (tz S))), .int (nI (wo s c))]) rfl rfl iv_L_minor (ih (wo S (tz S)) (wo s c) (wo_p2 hS) (wo_p2 hs) (by omega) (by omega) τ1 (vS_q (q.trans q1) hv)) (by omega) rfl rfl rfl rfl (Nat.le_of_ble_eq_true rfl) (fun τ2 q2 => ?_)
      refine R_lmul rfl ?_
      refine R_ladd rfl ?_
      refine R_lstore rfl (by decide) ?_
      refine R_iload rfl rfl ?_
      refine R_ineg rfl ?_
      refine R_istore rfl (by decide) ?_
      refine R_iincN (x := c) (m := 1) rfl rfl rfl (by decide) ?_
      refine R_goto rfl rfl ?_
      have g := ihm (c + 1) τ2 (by omega) ((q.trans q1).trans q2)
      rw [nb_t hb, zg_s] at g
      rw [iZ_neg, ← Int64.ofInt_mul, ← Int64.ofInt_add]
      have e : zzS (nb s c + 1) (fun j => zg j * fZ f (sel S 0) (sel s j) * zM f (wo S (sel S 0)) (wo s (sel s j))) = zzS (nb s c) (fun j => zg j * fZ f (sel S 0) (sel s j) * zM f (wo S (sel S 0)) (wo s (sel s j))) + zg (nb s c) * fZ f (tz S) c * zM f (wo S (tz S)) (wo s c) := by
        show _ + zg (nb s c) * fZ f (sel S 0) (sel s (nb s c)) * zM f (wo S (sel S 0)) (wo s (sel s (nb s c))) = _
        rw [hsel, ht]
      rw [e] at g
      exact g
    · refine R_goto rfl rfl ?_
      refine R_iincN (x := c) (m := 1) rfl rfl rfl (by decide) ?_
      refine R_goto rfl rfl ?_
      have g := ihm (c + 1) τ (by omega) q
      rw [nb_f hb] at g
      exact g
theorem pl_minor (hf : fSm f h w) (hh : h ≤ 6) (hw : w ≤ 6) : ∀ n S s, S < 2 ^ h → s < 2 ^ w → pc S = n → pc s = n → ∀ σ, vS σ 26 h w f v rh rl pn I → am_Call am_TX (9 + n) 0 c_L_minor [.ref 0, .int (nI S), .int (nI s)] (ml σ ρ) (am_Oy (some (.long (Int64.ofInt (zM f S s)))) (fun σ1 ρ1 => ρ1 = ρ ∧ smP (plc 17 26) σ σ1)) := by
  intro n
  induction n with
  | zero =>
    intro S s hS hs h1 h2 σ hv
    have hS0 : S = 0 := Decidable.byContradiction fun z => by have := pc_pos (p2_64 hS hh) z; omega
    subst hS0
    refine ⟨mf_L_minor, Nat.le_of_ble_eq_true rfl, ?_⟩
    refine R_iload_n rfl rfl ?_
    refine R_nif_ne (x := 0) rfl rfl (by decide) (fun z => absurd rfl z) (fun _ => ?_)
    refine R_lconst (v := 1) rfl rfl ?_
    refine T_lreturn rfl rfl ⟨_, _, ?_, rfl, smP.refl⟩
    unfold zM
    rw [h2]
    rfl
  | succ n ih =>
    intro S s hS hs h1 h2 σ hv
    have hS6 := p2_64 hS hh
    have hS0 : S ≠ 0 := fun e => by rw [e] at h1; exact absurd h1 (by simp [pc])
    refine ⟨mf_L_minor, Nat.le_of_ble_eq_true rfl, ?_⟩
    refine R_iload_n rfl rfl ?_
    refine R_nif_ne (x := S) rfl rfl (by omega) (fun _ => ?_) (fun z => absurd z hS0)
    refine R_iload_n rfl rfl ?_
    refine R_pS (as := [.int (nI S)]) rfl rfl iv_JInteger_numberOfTrailingZeros (pu_tz hS6 hS0) (by omega) rfl rfl rfl rfl (Nat.le_of_ble_eq_true rfl) ?_
    refine R_istore_n rfl (by decide) ?_
    refine R_lconst (v := 0) rfl rfl ?_
    refine R_lstore rfl (by decide) ?_
    refine R_iconst (v := 1) rfl rfl ?_
    refine R_istore rfl (by decide) ?_
    refine R_iconst (v := 0) rfl rfl ?_
    refine R_istore rfl (by decide) ?_
    exact lp_minor hf hh hw hS hs h1 h2 ih hv 6 0 σ rfl smP.refl
end LMI
