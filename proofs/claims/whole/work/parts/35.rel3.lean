/-! ===== the model's divisors and relations ===== -/
theorem pKW_mV {P : Nat → Nat → Prop} {σ σ1 : am_G} (q : smP P σ σ1) (hP : ∀ a b, P a b → ¬ (a = 120 ∧ b = 4) ∧ a ≠ 121 ∧ a ≠ 122) {h w : Nat} {f : am_Gr} (hv : mV σ h w f) : mV σ1 h w f :=
  q.mV hv (fun b z => (hP _ _ z).2.1 rfl) (fun b z => (hP _ _ z).2.2 rfl) (fun z => (hP _ _ z).1 ⟨rfl, rfl⟩)
set_option maxRecDepth 100000 in
set_option maxHeartbeats 4000000 in
theorem lp_mdv1 {σ : am_G} {h w n : Nat} {f : am_Gr} {S : Nat} {a : Int64} {d k0 : Nat} {Q : am_Res → Prop} (hv : mV σ h w f) (hs : fSm f h w) (hn : n ≤ 6) (hS : S < 2 ^ h) (hSn : pc S = n) (hd : 11 ≤ d) (hx : ∀ (τ : am_G), (smP pK σ τ) → am_R am_TX d k0 c_M_divisorOf 63 [some (.ref 120), some (.int (nI n)), some (.long (dvC f S w n a (2 ^ w))), none, some (.int (nI S)), some (.int (nI (2 ^ w)))] [] (mm τ) Q) : ∀ (uu i : Nat) (τ : am_G), i + uu = 2 ^ w → (smP pK σ τ) → am_R am_TX d k0 c_M_divisorOf 17 [some (.ref 120), some (.int (nI n)), some (.long (dvC f S w n a i)), none, some (.int (nI S)), some (.int (nI i))] [] (mm τ) Q := by
  have hh1 := hv.1.1.1
  have hh6 := hv.1.1.2
  have hw1 := hv.1.2.1
  have hw6 := hv.1.2.2
  have hp2h := Nat.two_pow_pos h
  have hp2w := Nat.two_pow_pos w
  have h2h : 2 ^ h ≤ 2 ^ 6 := Nat.pow_le_pow_right (by omega) hv.1.1.2
  have h2w : 2 ^ w ≤ 2 ^ 6 := Nat.pow_le_pow_right (by omega) hv.1.2.2
  intro uu
  induction uu with
  | zero =>
    intro i τ hi hI
    obtain rfl : 2 ^ w = i := by omega
    skip
    refine R_iload rfl rfl ?_
    refine R_aload_n rfl rfl ?_
    refine R_cV (as := []) rfl rfl iv_M_allColumns (sp_mallColumns (hI.mV hv (fun b => by unfold pK; omega) (fun b => by unfold pK; omega) (by unfold pK; omega))) (by omega) rfl rfl rfl (by decide) rfl rfl (Nat.le_of_ble_eq_true rfl) (fun _ q => ?_)
    obtain rfl := q.symm
    refine R_nicmp_gt (x := (2 ^ w)) (y := (2 ^ w - 1)) rfl rfl (by omega) (by omega) (fun h1 => ?_) (fun z => by omega)
    exact hx τ hI
  | succ uu ih =>
    intro i τ hi hI
    have hpi := @pc_le i
    refine R_iload rfl rfl ?_
    refine R_aload_n rfl rfl ?_
    refine R_cV (as := []) rfl rfl iv_M_allColumns (sp_mallColumns (hI.mV hv (fun b => by unfold pK; omega) (fun b => by unfold pK; omega) (by unfold pK; omega))) (by omega) rfl rfl rfl (by decide) rfl rfl (Nat.le_of_ble_eq_true rfl) (fun _ q => ?_)
    obtain rfl := q.symm
    refine R_nicmp_gt (x := i) (y := (2 ^ w - 1)) rfl rfl (by omega) (by omega) (fun z => by omega) (fun h1 => ?_)
    refine R_iload rfl rfl ?_
    refine R_cS (as := [.int (nI S)]) rfl rfl iv_M_bits (sp_bits (s := S) (by first | assumption | exact lw_lt (by omega) | exact wi_lt (by first | assumption | omega) (by omega) | exact wo_lt (by first | assumption | omega) (by omega) | omega)) (by omega) rfl rfl rfl rfl (Nat.le_of_ble_eq_true rfl) (fun _ q => ?_)
    obtain rfl := q.symm
    refine R_iload_n rfl rfl ?_
    refine R_nicmp_ne (x := (pc S)) (y := n) rfl rfl (by omega) (by omega) (fun z => absurd hSn z) (fun h2 => ?_)
    refine R_iload rfl rfl ?_
    refine R_cS (as := [.int (nI i)]) rfl rfl iv_M_bits (sp_bits (s := i) (by first | assumption | exact lw_lt (by omega) | exact wi_lt (by first | assumption | omega) (by omega) | exact wo_lt (by first | assumption | omega) (by omega) | omega)) (by omega) rfl rfl rfl rfl (Nat.le_of_ble_eq_true rfl) (fun _ q => ?_)
    obtain rfl := q.symm
    refine R_iload_n rfl rfl ?_
    refine R_nicmp_ne (x := (pc i)) (y := n) rfl rfl (by omega) (by omega) (fun h3 => ?_) (fun h3 => ?_)
    · refine R_iincN (x := i) (m := 1) rfl rfl rfl (by decide) ?_
      refine R_goto rfl rfl ?_
      have e := ih (i + 1) _ (by omega) (hI)
      rw [show dvC f S w n a (i + 1) = dvC f S w n a i from by simp only [dvC]; exact if_neg (by omega)] at e
      exact e.weak ⟨rfl, rfl, rfl, rfl, rfl, trivial⟩
    · refine R_lload_n rfl rfl ?_
      refine R_aload_n rfl rfl ?_
      refine R_iload rfl rfl ?_
      refine R_iload rfl rfl ?_
      refine R_cV (as := [.int (nI S), .int (nI i)]) rfl rfl iv_M_minorOf (sp_mminorOf (S := S) (s := i) (hI.mV hv (fun b => by unfold pK; omega) (fun b => by unfold pK; omega) (by unfold pK; omega)) hs (by omega) (by omega) (by omega)) (by omega) rfl rfl rfl (by decide) rfl rfl (Nat.le_of_ble_eq_true rfl) (fun σ4 hσ4 => ?_)
      refine R_cS (as := [.long (dvC f S w n a i), .long (mnF f S w i)]) rfl rfl iv_M_common (sp_mcd) (by omega) rfl rfl rfl rfl (Nat.le_of_ble_eq_true rfl) (fun _ q => ?_)
      obtain rfl := q.symm
      refine R_lstore_n rfl (by decide) ?_
      refine R_iincN (x := i) (m := 1) rfl rfl rfl (by decide) ?_
      refine R_goto rfl rfl ?_
      have e := ih (i + 1) _ (by omega) ((hI.trans hσ4))
      rw [show dvC f S w n a (i + 1) = cdL (dvC f S w n a i) (mnF f S w i) from by simp only [dvC]; exact if_pos (by omega)] at e
      exact e.weak ⟨rfl, rfl, rfl, rfl, rfl, trivial⟩
set_option maxRecDepth 100000 in
set_option maxHeartbeats 4000000 in
theorem en_mdv {σ : am_G} {h w n : Nat} {f : am_Gr} {S : Nat} {d k0 : Nat} {Q : am_Res → Prop} (hv : mV σ h w f) (hs : fSm f h w) (hn : n ≤ 6) (hS : S < 2 ^ h) (hd : 11 ≤ d) (hx : ∀ τ : am_G, smP pK σ τ → am_R am_TX d k0 c_M_divisorOf 63 [some (.ref 120), some (.int (nI n)), some (.long (dvR f w n (S + 1))), none, some (.int (nI S)), none] [] (mm τ) Q) : am_R am_TX d k0 c_M_divisorOf 17 [some (.ref 120), some (.int (nI n)), some (.long (dvR f w n S)), none, some (.int (nI S)), some (.int 0)] [] (mm σ) Q := by
  have hh1 := hv.1.1.1
  have hh6 := hv.1.1.2
  have hw1 := hv.1.2.1
  have hw6 := hv.1.2.2
  have hp2h := Nat.two_pow_pos h
  have hp2w := Nat.two_pow_pos w
  have h2h : 2 ^ h ≤ 2 ^ 6 := Nat.pow_le_pow_right (by omega) hv.1.1.2
  have h2w : 2 ^ w ≤ 2 ^ 6 := Nat.pow_le_pow_right (by omega) hv.1.2.2
  have hpS := @pc_le S
  by_cases hne : pc S = n
  · refine (lp_mdv1 (a := dvR f w n S) hv hs hn hS hne hd (fun τ hτ => ?_) (2 ^ w) 0 σ (by omega) smP.refl).weak ⟨rfl, rfl, rfl, rfl, rfl, trivial⟩
    have z := hx τ hτ
    rw [show dvR f w n (S + 1) = dvC f S w n (dvR f w n S) (2 ^ w) from by simp only [dvR]; exact if_pos hne] at z
    exact z.weak ⟨rfl, rfl, rfl, rfl, trivial⟩
  · refine R_iload rfl rfl ?_
    refine R_aload_n rfl rfl ?_
    refine R_cV (as := []) rfl rfl iv_M_allColumns (sp_mallColumns hv) (by omega) rfl rfl rfl (by decide) rfl rfl (Nat.le_of_ble_eq_true rfl) (fun _ q => ?_)
    obtain rfl := q.symm
    refine R_nicmp_gt (x := 0) (y := (2 ^ w - 1)) rfl rfl (by omega) (by omega) (fun z => by omega) (fun h1 => ?_)
    refine R_iload rfl rfl ?_
    refine R_cS (as := [.int (nI S)]) rfl rfl iv_M_bits (sp_bits (s := S) (by first | assumption | exact lw_lt (by omega) | exact wi_lt (by first | assumption | omega) (by omega) | exact wo_lt (by first | assumption | omega) (by omega) | omega)) (by omega) rfl rfl rfl rfl (Nat.le_of_ble_eq_true rfl) (fun _ q => ?_)
    obtain rfl := q.symm
    refine R_iload_n rfl rfl ?_
    refine R_nicmp_ne (x := (pc S)) (y := n) rfl rfl (by omega) (by omega) (fun h2 => ?_) (fun z => absurd z hne)
    have z := hx σ smP.refl
    rw [show dvR f w n (S + 1) = dvR f w n S from by simp only [dvR]; exact if_neg hne] at z
    exact z.weak ⟨rfl, rfl, rfl, rfl, trivial⟩
set_option maxRecDepth 100000 in
set_option maxHeartbeats 4000000 in
theorem lp_mdv {σ : am_G} {h w n : Nat} {f : am_Gr} {d k0 : Nat} (hv : mV σ h w f) (hs : fSm f h w) (hn : n ≤ 6) (hd : 11 ≤ d)  : ∀ (uu i : Nat) (τ : am_G), i + uu = 2 ^ h → (smP pK σ τ) → am_R am_TX d k0 c_M_divisorOf 5 [some (.ref 120), some (.int (nI n)), some (.long (dvR f w n i)), none, some (.int (nI i)), none] [] (mm τ) (am_Ok (some (.long (dvF f h w n))) (fun σ1 => smP pK σ σ1)) := by
  have hh1 := hv.1.1.1
  have hh6 := hv.1.1.2
  have hw1 := hv.1.2.1
  have hw6 := hv.1.2.2
  have hp2h := Nat.two_pow_pos h
  have hp2w := Nat.two_pow_pos w
  have h2h : 2 ^ h ≤ 2 ^ 6 := Nat.pow_le_pow_right (by omega) hv.1.1.2
  have h2w : 2 ^ w ≤ 2 ^ 6 := Nat.pow_le_pow_right (by omega) hv.1.2.2
  intro uu
  induction uu with
  | zero =>
    intro i τ hi hI
    obtain rfl : 2 ^ h = i := by omega
    refine R_iload rfl rfl ?_
    refine R_aload_n rfl rfl ?_
    refine R_cV (as := []) rfl rfl iv_M_allRows (sp_mallRows (hI.mV hv (fun b => by unfold pK; omega) (fun b => by unfold pK; omega) (by unfold pK; omega))) (by omega) rfl rfl rfl (by decide) rfl rfl (Nat.le_of_ble_eq_true rfl) (fun _ q => ?_)
    obtain rfl := q.symm
    refine R_nicmp_gt (x := (2 ^ h)) (y := (2 ^ h - 1)) rfl rfl (by omega) (by omega) (fun h1 => ?_) (fun z => by omega)
    refine R_lload_n rfl rfl ?_
    exact T_lreturn rfl rfl (am_okl rfl hI)
  | succ uu ih =>
    intro i τ hi hI
    refine R_iload rfl rfl ?_
    refine R_aload_n rfl rfl ?_
    refine R_cV (as := []) rfl rfl iv_M_allRows (sp_mallRows (hI.mV hv (fun b => by unfold pK; omega) (fun b => by unfold pK; omega) (by unfold pK; omega))) (by omega) rfl rfl rfl (by decide) rfl rfl (Nat.le_of_ble_eq_true rfl) (fun _ q => ?_)
    obtain rfl := q.symm
    refine R_nicmp_gt (x := i) (y := (2 ^ h - 1)) rfl rfl (by omega) (by omega) (fun z => by omega) (fun h1 => ?_)
    refine R_iconst (v := 0) rfl rfl ?_
    refine R_istore rfl (by decide) ?_
    refine en_mdv (S := i) (hI.mV hv (fun b => by unfold pK; omega) (fun b => by unfold pK; omega) (by unfold pK; omega)) hs hn (by omega) (by omega) (fun τ1 hτ1 => ?_)
    refine R_iincN (x := i) (m := 1) rfl rfl rfl (by decide) ?_
    refine R_goto rfl rfl ?_
    exact (ih (i + 1) _ (by omega) (hI.trans hτ1)).weak ⟨rfl, rfl, rfl, rfl, trivial⟩
set_option maxRecDepth 100000 in
set_option maxHeartbeats 4000000 in
theorem sp_divisorOf {σ : am_G} {h w n : Nat} {f : am_Gr} (hv : mV σ h w f) (hs : fSm f h w) (hn : n ≤ 6) : am_Call am_TX 11 0 c_M_divisorOf [.ref 120, .int (nI n)] (mm σ) (am_Ok (some (.long (dvF f h w n))) (fun σ1 => smP pK σ σ1)) := by
  have hh1 := hv.1.1.1
  have hh6 := hv.1.1.2
  have hw1 := hv.1.2.1
  have hw6 := hv.1.2.2
  have hp2h := Nat.two_pow_pos h
  have hp2w := Nat.two_pow_pos w
  have h2h : 2 ^ h ≤ 2 ^ 6 := Nat.pow_le_pow_right (by omega) hv.1.1.2
  have h2w : 2 ^ w ≤ 2 ^ 6 := Nat.pow_le_pow_right (by omega) hv.1.2.2
  refine ⟨mf_M_divisorOf, Nat.le_of_ble_eq_true rfl, ?_⟩
  refine R_lconst (v := 0) rfl rfl ?_
  refine R_lstore_n rfl (by decide) ?_
  refine R_iconst (v := 0) rfl rfl ?_
  refine R_istore rfl (by decide) ?_
  exact (lp_mdv hv hs hn (by omega) (2 ^ h) 0 σ (by omega) smP.refl).weak ⟨rfl, rfl, rfl, rfl, trivial⟩
theorem inv_iff {x : Int64} {n t : Nat} (hx : mB x) (hn : 2 ≤ n) (hn2 : n ≤ 97) (ht : t < n) : remL ((nI t).toInt64 * rdL n x) (nI n).toInt64 = 1 ↔ rdL n (x * (nI t).toInt64) = 1 := by
  have h1 := rd_rng (m := n) (v := x) (by omega) (by omega)
  have h2 := rdL_int (m := n) (v := x) (by omega)
  have h3 := nI_64 (n := t) (by omega)
  have h4 := nI_64 (n := n) (by omega)
  have b1 : ((t : Int) * (rdL n x).toInt).natAbs ≤ 97 * 97 := by rw [Int.natAbs_mul]; exact Nat.mul_le_mul (by omega) (by omega)
  have b2 : (x.toInt * (t : Int)).natAbs ≤ 46080000000 * 97 := by rw [Int.natAbs_mul]; exact Nat.mul_le_mul hx (by omega)
  have p1 : ((nI t).toInt64 * rdL n x).toInt = (t : Int) * (rdL n x).toInt := by
    rw [Int64.toInt_mul, h3]
    generalize (t : Int) * (rdL n x).toInt = z at *
    exact Int.bmod_eq_of_le (by omega) (by omega)
  have p2 : (x * (nI t).toInt64).toInt = x.toInt * (t : Int) := by
    rw [Int64.toInt_mul, h3]
    generalize x.toInt * (t : Int) = z at *
    exact Int.bmod_eq_of_le (by omega) (by omega)
  have p3 := rdL_int (m := n) (v := x * (nI t).toInt64) (by omega)
  have p4 : ((t : Int) * (rdL n x).toInt) % (n : Int) = (x.toInt * (t : Int)) % (n : Int) := by
    rw [h2, Int.mul_emod, Int.emod_emod_of_dvd _ (Int.dvd_refl _), ← Int.mul_emod, Int.mul_comm]
  rw [l_eq, l_eq, remL_toInt, p1, h4, l1, p3, p2, Int.tmod_eq_emod_of_nonneg (Int.mul_nonneg (by omega) h1.1), p4]
theorem nI_64s {t : Nat} (h : t < 2 ^ 31 - 1) : (nI t).toInt64 + 1 = (nI (t + 1)).toInt64 := by
  apply Int64.toInt_inj.mp
  rw [Int64.toInt_add, nI_64 (by omega), nI_64 (by omega), l1]
  rw [Int.bmod_eq_of_le (by omega) (by omega)]
  omega
theorem nI_64z {n : Nat} (h0 : 1 ≤ n) (h : n < 2 ^ 31) : ¬ (nI n).toInt64 = 0 := fun e => by
  have := congrArg Int64.toInt e
  rw [nI_64 h, l0] at this; omega
theorem inv_ex {x : Int64} {n : Nat} (hx : mB x) (hp : n ∈ prL) (hd : ¬ (n : Int) ∣ x.toInt) : ∃ i, 1 ≤ i ∧ i < n ∧ rdL n (x * (nI i).toInt64) = 1 := by
  have hb := prL_le n hp
  have h1 := Int.emod_nonneg x.toInt (show (n : Int) ≠ 0 by omega)
  have h2 := Int.emod_lt_of_pos x.toInt (show (0 : Int) < n by omega)
  have h3 : x.toInt % (n : Int) ≠ 0 := fun e => hd (Int.dvd_of_emod_eq_zero e)
  obtain ⟨i, hi, e⟩ := prL_inv n hp (x.toInt % (n : Int)).toNat (by omega) (by omega)
  have hi0 : 1 ≤ i := by
    refine Nat.pos_of_ne_zero fun z => ?_
    subst z
    rw [Nat.mul_zero, Nat.zero_mod] at e
    omega
  refine ⟨i, hi0, hi, ?_⟩
  have b2 : (x.toInt * (i : Int)).natAbs ≤ 46080000000 * 97 := by rw [Int.natAbs_mul]; exact Nat.mul_le_mul hx (by omega)
  have p2 : (x * (nI i).toInt64).toInt = x.toInt * (i : Int) := by
    rw [Int64.toInt_mul, nI_64 (by omega)]
    generalize x.toInt * (i : Int) = z at *
    exact Int.bmod_eq_of_le (by omega) (by omega)
  rw [l_eq, rdL_int (by omega), p2, l1, Int.mul_emod]
  have e2 : (((x.toInt % (n : Int)).toNat * i % n : Nat) : Int) = 1 := by rw [e]; rfl
  rw [Int.natCast_emod, Int.natCast_mul, Int.toNat_of_nonneg h1] at e2
  rw [Int.mul_emod, Int.emod_emod_of_dvd _ (Int.dvd_refl _)] at e2
  exact e2
set_option maxRecDepth 100000 in
set_option maxHeartbeats 4000000 in
theorem lp_minv {σ : am_G} {x : Int64} {n : Nat} {d k0 : Nat} (hx : mB x) (hn : 2 ≤ n) (hn2 : n ≤ 97) : ∀ (u t : Nat), t + u = n → 1 ≤ t → (∃ i, t ≤ i ∧ i < n ∧ rdL n (x * (nI i).toInt64) = 1) → am_R am_TX d k0 c_M_inverse 2 [some (.long (rdL n x)), none, some (.int (nI n)), some (.long ((nI t).toInt64)), none] [] (mm σ) (am_Ok (some (.long (ivF n x u t))) (fun σ1 => σ1 = σ)) := by
  intro u
  induction u with
  | zero =>
    intro t ht h1 he
    obtain ⟨i, i1, i2, i3⟩ := he
    omega
  | succ u ih =>
    intro t ht h1t he
    refine R_lload_n rfl rfl ?_
    refine R_lload_n rfl rfl ?_
    refine R_lmul rfl ?_
    refine R_iload_n rfl rfl ?_
    refine R_i2l rfl ?_
    refine R_lrem rfl (nI_64z (by omega) (by omega)) ?_
    refine R_lconst (v := 1) rfl rfl ?_
    refine R_l_eq rfl rfl rfl (fun h1 => ?_) (fun h1 => ?_)
    · refine R_lload_n rfl rfl ?_
      exact T_lreturn rfl rfl (am_okl (by simp only [ivF]; rw [if_pos ((inv_iff hx hn hn2 (by omega)).mp h1)]) rfl)
    · refine R_lload_n rfl rfl ?_
      refine R_lconst (v := 1) rfl rfl ?_
      refine R_ladd rfl ?_
      refine R_lstore_n rfl (by decide) ?_
      refine R_goto rfl rfl ?_
      rw [nI_64s (by omega)]
      have e := ih (t + 1) (by omega) (by omega) (by
        obtain ⟨i, i1, i2, i3⟩ := he
        refine ⟨i, ?_, i2, i3⟩
        by_cases e : i = t
        · subst e; exact absurd ((inv_iff hx hn hn2 (by omega)).mpr i3) h1
        · omega)
      rw [show ivF n x (u + 1) t = ivF n x u (t + 1) from by simp only [ivF]; exact if_neg (fun z => h1 ((inv_iff hx hn hn2 (by omega)).mpr z))]
      exact e.weak ⟨rfl, rfl, rfl, trivial⟩
set_option maxRecDepth 100000 in
set_option maxHeartbeats 4000000 in
theorem sp_minverse {σ : am_G} {x : Int64} {n : Nat} (hx : mB x) (hp : n ∈ prL) (hd : ¬ (n : Int) ∣ x.toInt) : am_Call am_TX 0 0 c_M_inverse [.long (rdL n x), .int (nI n)] (mm σ) (am_Ok (some (.long (ivL n x))) (fun σ1 => σ1 = σ)) := by
  have hb := prL_le n hp
  refine ⟨mf_M_inverse, Nat.le_of_ble_eq_true rfl, ?_⟩
  refine R_lconst (v := 1) rfl rfl ?_
  refine R_lstore_n rfl (by decide) ?_
  exact (lp_minv hx hb.1 hb.2 (n - 1) 1 (by omega) (Nat.le_refl 1) (inv_ex hx hp hd)).weak ⟨rfl, rfl, rfl, trivial⟩
theorem l_nlt {a b : Int64} (h : a ≤ b) : ¬ b < a := by rw [l_le] at h; rw [l_lt]; omega
theorem l_nle {a b : Int64} (h : ¬ a ≤ b) : b < a := by rw [l_le] at h; rw [l_lt]; omega
def pX (a _b : Nat) : Prop := a = 125
def xV (σ : am_G) (X : Nat → Int64) : Prop := ∀ k, k < 6 → σ.2.1 125 k = X k
theorem xV_put {P : Nat → Nat → Prop} {σ : am_G} {X : Nat → Int64} {i : Nat} {z : Int64} {Y : Nat → Int64} (h : xV σ X) (hY : ∀ k, k < 6 → Y k = if k = i then z else X k) : xV (sL σ 125 i z) Y := fun k hk => by
  rw [hY k hk]
  by_cases e : k = i
  · subst e; rw [if_pos rfl]; exact sL_s
  · rw [if_neg e, sL_o (Or.inr e)]; exact h k hk
set_option maxRecDepth 100000 in
set_option maxHeartbeats 4000000 in
theorem lp_simp1 {σ : am_G} {X : Nat → Int64} {r : Nat} {d k0 : Nat} {Q : am_Res → Prop} (hX : xV σ X) (hr : r < 6) (hd : 2 ≤ d) (hx : am_R am_TX d k0 c_M_simplify 30 [some (.ref 120), some (.int (nI r)), some (.long (fdL X 6)), none, some (.int (nI 6))] [] (mm σ) Q) : ∀ (uu i : Nat), i + uu = 6 → am_R am_TX d k0 c_M_simplify 5 [some (.ref 120), some (.int (nI r)), some (.long (fdL X i)), none, some (.int (nI i))] [] (mm σ) Q := by
  intro uu
  induction uu with
  | zero =>
    intro i hi
    obtain rfl : 6 = i := by omega
    refine R_iload rfl rfl ?_
    refine R_bipush (v := 6) rfl (by decide) ?_
    refine R_nicmp_ge (x := 6) (y := 6) rfl rfl (by omega) (by omega) (fun h1 => ?_) (fun z => by omega)
    exact hx
  | succ uu ih =>
    intro i hi
    refine R_iload rfl rfl ?_
    refine R_bipush (v := 6) rfl (by decide) ?_
    refine R_nicmp_ge (x := i) (y := 6) rfl rfl (by omega) (by omega) (fun z => by omega) (fun h1 => ?_)
    refine R_lload_n rfl rfl ?_
    refine R_aload_n rfl rfl ?_
    refine R_gP (x := 125) rfl rfl fp_11_10 rfl ?_
    refine R_iload rfl rfl ?_
    refine R_xL (j := i) rfl rfl rfl (by omega) (by decide) ?_
    refine R_cS (as := [.long (fdL X i), .long (σ.2.1 125 i)]) rfl rfl iv_M_common (sp_mcd) (by omega) rfl rfl rfl rfl (Nat.le_of_ble_eq_true rfl) (fun _ q => ?_)
    obtain rfl := q.symm
    refine R_lstore_n rfl (by decide) ?_
    refine R_iincN (x := i) (m := 1) rfl rfl rfl (by decide) ?_
    refine R_goto rfl rfl ?_
    rw [hX i (by omega)]
    exact (ih (i + 1) (by omega)).weak ⟨rfl, rfl, rfl, rfl, trivial⟩
set_option maxRecDepth 100000 in
set_option maxHeartbeats 4000000 in
theorem lp_simp2 {σ : am_G} {X : Nat → Int64} {r : Nat} {d k0 : Nat} (hX : xV σ X) (hr : r < 6) (hz : ¬ (if X r < 0 then -fdL X 6 else fdL X 6) = 0)  : ∀ (uu i : Nat) (τ : am_G), i + uu = 6 → (smP pX σ τ ∧ xV τ (fun k => if k < i then X k / (if X r < 0 then -fdL X 6 else fdL X 6) else X k)) → am_R am_TX d k0 c_M_simplify 47 [some (.ref 120), some (.int (nI r)), some (.long (if X r < 0 then -fdL X 6 else fdL X 6)), none, some (.int (nI i))] [] (mm τ) (am_Ok none (fun σ1 => smP pX σ σ1 ∧ xV σ1 (fun k => X k / (if X r < 0 then -fdL X 6 else fdL X 6)))) := by
  intro uu
  induction uu with
  | zero =>
    intro i τ hi hI
    obtain rfl : 6 = i := by omega
    refine R_iload rfl rfl ?_
    refine R_bipush (v := 6) rfl (by decide) ?_
    refine R_nicmp_ge (x := 6) (y := 6) rfl rfl (by omega) (by omega) (fun h1 => ?_) (fun z => by omega)
    exact T_return rfl rfl (am_okv0 ⟨hI.1, fun k hk => by rw [hI.2 k hk]; exact if_pos hk⟩)
  | succ uu ih =>
    intro i τ hi hI
    refine R_iload rfl rfl ?_
    refine R_bipush (v := 6) rfl (by decide) ?_
    refine R_nicmp_ge (x := i) (y := 6) rfl rfl (by omega) (by omega) (fun z => by omega) (fun h1 => ?_)
    refine R_aload_n rfl rfl ?_
    refine R_gP (x := 125) rfl rfl fp_11_10 rfl ?_
    refine R_iload rfl rfl ?_
    refine R_dup2 rfl rfl rfl ?_
    refine R_xL (j := i) rfl rfl rfl (by omega) (by decide) ?_
    refine R_lload_n rfl rfl ?_
    refine R_ldiv rfl hz ?_
    refine R_wL (j := i) rfl rfl rfl (by omega) (by decide) ?_
    refine R_iincN (x := i) (m := 1) rfl rfl rfl (by decide) ?_
    refine R_goto rfl rfl ?_
    refine (ih (i + 1) _ (by omega) ⟨hI.1.trans (smP_sL rfl), ?_⟩).weak ⟨rfl, rfl, rfl, rfl, trivial⟩
    refine xV_put (P := pX) hI.2 (fun k hk => ?_)
    by_cases e : k = i
    · subst e; rw [if_pos (by omega), if_pos rfl, hI.2 k hk]; dsimp only; rw [if_neg (Nat.lt_irrefl k)]
    · rw [if_neg e]
      by_cases e2 : k < i
      · rw [if_pos e2, if_pos (by omega)]
      · rw [if_neg e2, if_neg (by omega)]
set_option maxRecDepth 100000 in
set_option maxHeartbeats 4000000 in
theorem sp_simplify {σ : am_G} {X : Nat → Int64} {r : Nat} (hX : xV σ X) (hr : r < 6) (hz : ¬ fdL X 6 = 0) (hb : mB (fdL X 6)) : am_Call am_TX 2 0 c_M_simplify [.ref 120, .int (nI r)] (mm σ) (am_Ok none (fun σ1 => smP pX σ σ1 ∧ xV σ1 (fun k => X k / (if X r < 0 then -fdL X 6 else fdL X 6)))) := by
  have hz2 : ¬ (if X r < 0 then -fdL X 6 else fdL X 6) = 0 := by
    split
    · intro e
      have e2 := congrArg Int64.toInt e
      have hb2 : (fdL X 6).toInt.natAbs ≤ 46080000000 := hb
      rw [Int64.toInt_neg, Int.bmod_eq_of_le (by omega) (by omega), l0] at e2
      exact hz (l_eq0.mpr (by omega))
    · exact hz
  refine ⟨mf_M_simplify, Nat.le_of_ble_eq_true rfl, ?_⟩
  refine R_lconst (v := 0) rfl rfl ?_
  refine R_lstore_n rfl (by decide) ?_
  refine R_iconst (v := 0) rfl rfl ?_
  refine R_istore rfl (by decide) ?_
  refine (lp_simp1 hX hr (by omega) ?_ 6 0 (by omega)).weak ⟨rfl, rfl, rfl, rfl, trivial⟩
  refine R_aload_n rfl rfl ?_
  refine R_gP (x := 125) rfl rfl fp_11_10 rfl ?_
  refine R_iload_n rfl rfl ?_
  refine R_xL (j := r) rfl rfl rfl (by omega) (by decide) ?_
  rw [hX r hr]
  refine R_lconst (v := 0) rfl rfl ?_
  refine R_l_ge rfl rfl rfl (fun h1 => ?_) (fun h1 => ?_)
  · refine R_iconst (v := 0) rfl rfl ?_
    refine R_istore rfl (by decide) ?_
    have z := lp_simp2 (d := 2) (k0 := 0) hX hr hz2 6 0 σ (by omega) ⟨smP.refl, fun k hk => (hX k hk).trans (if_neg (Nat.not_lt_zero k)).symm⟩
    rw [show (if X r < 0 then -fdL X 6 else fdL X 6) = fdL X 6 from if_neg (l_nlt h1)] at z
    rw [show (if X r < 0 then -fdL X 6 else fdL X 6) = fdL X 6 from if_neg (l_nlt h1)]
    exact z.weak ⟨rfl, rfl, rfl, rfl, trivial⟩
  · refine R_lload_n rfl rfl ?_
    refine R_lneg rfl ?_
    refine R_lstore_n rfl (by decide) ?_
    refine R_iconst (v := 0) rfl rfl ?_
    refine R_istore rfl (by decide) ?_
    have z := lp_simp2 (d := 2) (k0 := 0) hX hr hz2 6 0 σ (by omega) ⟨smP.refl, fun k hk => (hX k hk).trans (if_neg (Nat.not_lt_zero k)).symm⟩
    rw [show (if X r < 0 then -fdL X 6 else fdL X 6) = -fdL X 6 from if_pos (l_nle h1)] at z
    rw [show (if X r < 0 then -fdL X 6 else fdL X 6) = -fdL X 6 from if_pos (l_nle h1)]
    exact z.weak ⟨rfl, rfl, rfl, rfl, trivial⟩
set_option maxRecDepth 100000 in
set_option maxHeartbeats 4000000 in
theorem lp_redA {σ : am_G} {X : Nat → Int64} {r m : Nat} {d k0 : Nat} (hX : xV σ X) (hr : r < 6) (hp : m ∈ prL) (hd : 1 ≤ d)  : ∀ (uu i : Nat) (τ : am_G), i + uu = 6 → (smP pX σ τ ∧ xV τ (fun k => if k < i then rdL m (rdL m (X k) * (ivL m (X r))) else X k)) → am_R am_TX d k0 c_M_reduceAll 18 [some (.ref 120), some (.int (nI m)), some (.int (nI r)), some (.long (ivL m (X r))), none, some (.int (nI i))] [] (mm τ) (am_Ok none (fun σ1 => smP pX σ σ1 ∧ xV σ1 (fun k => rdL m (rdL m (X k) * (ivL m (X r)))))) := by
  have hb := prL_le m hp
  intro uu
  induction uu with
  | zero =>
    intro i τ hi hI
    obtain rfl : 6 = i := by omega
    refine R_iload rfl rfl ?_
    refine R_bipush (v := 6) rfl (by decide) ?_
    refine R_nicmp_ge (x := 6) (y := 6) rfl rfl (by omega) (by omega) (fun h1 => ?_) (fun z => by omega)
    exact T_return rfl rfl (am_okv0 ⟨hI.1, fun k hk => by rw [hI.2 k hk]; exact if_pos hk⟩)
  | succ uu ih =>
    intro i τ hi hI
    refine R_iload rfl rfl ?_
    refine R_bipush (v := 6) rfl (by decide) ?_
    refine R_nicmp_ge (x := i) (y := 6) rfl rfl (by omega) (by omega) (fun z => by omega) (fun h1 => ?_)
    refine R_aload_n rfl rfl ?_
    refine R_gP (x := 125) rfl rfl fp_11_10 rfl ?_
    refine R_iload rfl rfl ?_
    refine R_aload_n rfl rfl ?_
    refine R_gP (x := 125) rfl rfl fp_11_10 rfl ?_
    refine R_iload rfl rfl ?_
    refine R_xL (j := i) rfl rfl rfl (by omega) (by decide) ?_
    refine R_iload_n rfl rfl ?_
    refine R_cS (as := [.long (τ.2.1 125 i), .int (nI m)]) rfl rfl iv_M_reduced (sp_reduced (v := (τ.2.1 125 i)) (n := m) (by omega)) (by omega) rfl rfl rfl rfl (Nat.le_of_ble_eq_true rfl) (fun _ q => ?_)
    obtain rfl := q.symm
    refine R_lload_n rfl rfl ?_
    refine R_lmul rfl ?_
    refine R_iload_n rfl rfl ?_
    refine R_cS (as := [.long ((rdL m (τ.2.1 125 i)) * (ivL m (X r))), .int (nI m)]) rfl rfl iv_M_reduced (sp_reduced (v := ((rdL m (τ.2.1 125 i)) * (ivL m (X r)))) (n := m) (by omega)) (by omega) rfl rfl rfl rfl (Nat.le_of_ble_eq_true rfl) (fun _ q => ?_)
    obtain rfl := q.symm
    refine R_wL (j := i) rfl rfl rfl (by omega) (by decide) ?_
    refine R_iincN (x := i) (m := 1) rfl rfl rfl (by decide) ?_
    refine R_goto rfl rfl ?_
    refine (ih (i + 1) _ (by omega) ⟨hI.1.trans (smP_sL rfl), ?_⟩).weak ⟨rfl, rfl, rfl, rfl, rfl, trivial⟩
    refine xV_put (P := pX) hI.2 (fun k hk => ?_)
    by_cases e : k = i
    · subst e; rw [if_pos (by omega), if_pos rfl, hI.2 k hk]; dsimp only; rw [if_neg (Nat.lt_irrefl k)]
    · rw [if_neg e]
      by_cases e2 : k < i
      · rw [if_pos e2, if_pos (by omega)]
      · rw [if_neg e2, if_neg (by omega)]
set_option maxRecDepth 100000 in
set_option maxHeartbeats 4000000 in
theorem sp_reduceAll {σ : am_G} {X : Nat → Int64} {r m : Nat} (hX : xV σ X) (hr : r < 6) (hp : m ∈ prL) (hx : mB (X r)) (hd : ¬ (m : Int) ∣ (X r).toInt) : am_Call am_TX 1 0 c_M_reduceAll [.ref 120, .int (nI m), .int (nI r)] (mm σ) (am_Ok none (fun σ1 => smP pX σ σ1 ∧ xV σ1 (fun k => rdL m (rdL m (X k) * (ivL m (X r)))))) := by
  have hb := prL_le m hp
  refine ⟨mf_M_reduceAll, Nat.le_of_ble_eq_true rfl, ?_⟩
  refine R_aload_n rfl rfl ?_
  refine R_gP (x := 125) rfl rfl fp_11_10 rfl ?_
  refine R_iload_n rfl rfl ?_
  refine R_xL (j := r) rfl rfl rfl (by omega) (by decide) ?_
  rw [hX r hr]
  refine R_iload_n rfl rfl ?_
  refine R_cS (as := [.long (X r), .int (nI m)]) rfl rfl iv_M_reduced (sp_reduced (v := (X r)) (n := m) (by omega)) (by decide) rfl rfl rfl rfl (Nat.le_of_ble_eq_true rfl) (fun _ q => ?_)
  obtain rfl := q.symm
  refine R_iload_n rfl rfl ?_
  refine R_cS (as := [.long (rdL m (X r)), .int (nI m)]) rfl rfl iv_M_inverse (sp_minverse hx hp hd) (by decide) rfl rfl rfl rfl (Nat.le_of_ble_eq_true rfl) (fun _ q => ?_)
  obtain rfl := q.symm
  refine R_lstore_n rfl (by decide) ?_
  refine R_iconst (v := 0) rfl rfl ?_
  refine R_istore rfl (by decide) ?_
  exact (lp_redA hX hr hp (by omega) 6 0 σ (by omega) ⟨smP.refl, fun k hk => (hX k hk).trans (if_neg (Nat.not_lt_zero k)).symm⟩).weak ⟨rfl, rfl, rfl, rfl, rfl, trivial⟩
