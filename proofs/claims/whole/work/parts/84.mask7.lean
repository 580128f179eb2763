/-! ===== the model: flaw, spoils, guessed, guess ===== -/
theorem flF_2 {f : am_Gr} {h w rh R Cc : Nat} {rl : am_Gr} (h1 : mnF f R w Cc = 0) : flF f h w rh rl (some (R, Cc)) = 2 := by
  unfold flF; exact if_pos h1
theorem flF_3 {f : am_Gr} {h w rh R Cc : Nat} {rl : am_Gr} (h1 : ¬ mnF f R w Cc = 0) (h2 : ¬ ∀ r, r < rh → ∀ c, c < w → smL (fun a => rl r a * f a c) h = 0) : flF f h w rh rl (some (R, Cc)) = 3 := by
  unfold flF; exact (if_neg h1).trans (if_neg h2)
theorem flF_4 {f : am_Gr} {h w rh R Cc : Nat} {rl : am_Gr} (h1 : ¬ mnF f R w Cc = 0) (h2 : ∀ r, r < rh → ∀ c, c < w → smL (fun a => rl r a * f a c) h = 0) (h3 : ∃ r, r < rh ∧ (thF rl h r).testBit (hdN (rl r) h) = true) : flF f h w rh rl (some (R, Cc)) = 4 := by
  unfold flF; exact (if_neg h1).trans ((if_pos h2).trans (if_pos h3))
theorem flF_0 {f : am_Gr} {h w rh R Cc : Nat} {rl : am_Gr} (h1 : ¬ mnF f R w Cc = 0) (h2 : ∀ r, r < rh → ∀ c, c < w → smL (fun a => rl r a * f a c) h = 0) (h3 : ¬ ∃ r, r < rh ∧ (thF rl h r).testBit (hdN (rl r) h) = true) (h4 : pc R + rh = h) : flF f h w rh rl (some (R, Cc)) = 0 := by
  unfold flF; exact (if_neg h1).trans ((if_pos h2).trans ((if_neg h3).trans (if_pos h4)))
theorem flF_5 {f : am_Gr} {h w rh R Cc : Nat} {rl : am_Gr} (h1 : ¬ mnF f R w Cc = 0) (h2 : ∀ r, r < rh → ∀ c, c < w → smL (fun a => rl r a * f a c) h = 0) (h3 : ¬ ∃ r, r < rh ∧ (thF rl h r).testBit (hdN (rl r) h) = true) (h4 : ¬ pc R + rh = h) : flF f h w rh rl (some (R, Cc)) = 5 := by
  unfold flF; exact (if_neg h1).trans ((if_pos h2).trans ((if_neg h3).trans (if_neg h4)))
theorem rm_fm {v M : Int64} (h1 : 1 ≤ M.toInt) (hb : M.toInt ≤ 97 ^ 6) : remL (remL v M + M) M = fmL v M := by
  have hb' : M.toInt ≤ 832972004929 := Int.le_trans hb (by decide)
  apply l_eq.mpr
  rw [fmL_toInt (by omega), remL_toInt, Int64.toInt_add, remL_toInt]
  generalize hM : M.toInt = m at *
  have hp : 0 < m := by omega
  have h2 := Int.tmod_lt_of_pos v.toInt hp
  have h3 := Int.neg_tmod v.toInt m
  have h4 := Int.tmod_lt_of_pos (- v.toInt) hp
  have h5 : v.toInt % m = (v.toInt.tmod m + m) % m := by
    rw [Int.add_emod_right, Int.tmod_eq_emod]
    by_cases hc : 0 ≤ v.toInt ∨ m ∣ v.toInt
    · rw [if_pos hc]; simp
    · rw [if_neg hc, show ((m.natAbs : Nat) : Int) = m by omega]; simp
  rw [h5]
  generalize hr : v.toInt.tmod m = r at *
  rw [Int.bmod_eq_of_le (by omega) (by omega)]
  exact Int.tmod_eq_emod_of_nonneg (by omega)
theorem okV_g {h w rh pn : Nat} {f v rl : am_Gr} {I : Nat → Int32} (hk : okV h w f v rh rl pn I) (hc : I 4 = -1) : ∀ j, j < 4 → I (4 + j) = -1 := by
  rcases hk.2.2.2.2.1 with a | ⟨g, hg, e⟩
  · exact a
  · exact absurd (e.symm.trans hc) (nI_m1 (by have := hk.2.2.2.1.1; omega))
theorem up2_2 {f : am_Gr} {i j : Nat} {x y : Int64} : up2 (up2 f i j x) i j y = up2 f i j y := by
  funext a b
  unfold up2
  by_cases e : a = i ∧ b = j
  · rw [if_pos e, if_pos e]
  · rw [if_neg e, if_neg e, if_neg e]
theorem up2_own {f : am_Gr} {i j : Nat} : up2 f i j (f i j) = f := by
  funext a b
  unfold up2
  by_cases e : a = i ∧ b = j
  · rw [if_pos e, e.1, e.2]
  · rw [if_neg e]
/-- an entry put anew -/
theorem nL_put {L : Nat → Int64} {h w rh pn i j : Nat} {f v rl : am_Gr} {I : Nat → Int32} {x : Int64} (hk : okV h w f v rh rl pn I) (hL : nL L h w f v rh rl pn I) (hi : i < h) (hj : j < w) : nL (fun k => if k = 14 + 6 * i + j then x else L k) h w (up2 f i j x) v rh rl pn I := by
  obtain ⟨⟨⟨h1, h6⟩, w1, w6⟩, -, -, ⟨p6, -⟩, -, -, r6, -⟩ := hk
  obtain ⟨⟨a1, a2, a3⟩, ⟨b1, b2⟩, c1, ⟨d1, d2⟩, e1, f1, g1, i1⟩ := hL
  have o : ∀ k, (k < 14 ∨ 50 ≤ k) → (if k = 14 + 6 * i + j then x else L k) = L k := fun k hk => if_neg (by omega)
  refine ⟨⟨(o 0 (by omega)).trans a1, (o 1 (by omega)).trans a2, fun a b ha hb => ?_⟩, ⟨(o 2 (by omega)).trans b1, fun j hj => (o _ (by omega)).trans (b2 j hj)⟩, ?_, ⟨by show (if (8 : Nat) = _ then x else L 8).toInt32 = _; rw [o 8 (by omega)]; exact d1, by show (if (9 : Nat) = _ then x else L 9).toInt32 = _; rw [o 9 (by omega)]; exact d2⟩, ?_, (o 13 (by omega)).trans f1, fun j hj => (o _ (by omega)).trans (g1 j hj), fun k j hk hj => (o _ (by omega)).trans (i1 k j hk hj)⟩
  · show (if 14 + 6 * a + b = 14 + 6 * i + j then x else L (14 + 6 * a + b)) = up2 f i j x a b
    unfold up2
    by_cases e : a = i ∧ b = j
    · rw [if_pos e, if_pos (by omega)]
    · rw [if_neg e, if_neg (by omega)]; exact a3 a b ha hb
  · rcases c1 with ⟨y, z⟩ | ⟨y, z, t⟩
    · exact Or.inl ⟨y, (o 3 (by omega)).trans z⟩
    · exact Or.inr ⟨y, (o 3 (by omega)).trans z, fun j hj => (o _ (by omega)).trans (t j hj)⟩
  · rcases e1 with ⟨y, z⟩ | ⟨y, z, t, u⟩
    · exact Or.inl ⟨y, (o 10 (by omega)).trans z⟩
    · exact Or.inr ⟨y, (o 10 (by omega)).trans z, (o 11 (by omega)).trans t, (o 12 (by omega)).trans u⟩
theorem okV_put {h w rh pn i j : Nat} {f v rl : am_Gr} {I : Nat → Int32} {x : Int64} (hk : okV h w f v rh rl pn I) (hi : i < h) (hj : j < w) (hx : x.toInt.natAbs ≤ 20) : okV h w (up2 f i j x) v rh rl pn I := by
  obtain ⟨a, b, c, d⟩ := hk
  refine ⟨a, fun p q hp hq => ?_, fun p q hp hq ho => ?_, d⟩
  · unfold up2
    by_cases e : p = i ∧ q = j
    · rw [if_pos e]; exact hx
    · rw [if_neg e]; exact b p q hp hq
  · unfold up2
    rw [if_neg (by omega)]; exact c p q hp hq ho
theorem nV_put {σ : am_G} {h w rh pn i j : Nat} {f v rl : am_Gr} {I : Nat → Int32} {x : Int64} (hn : nV σ h w f v rh rl pn I) (hi : i < h) (hj : j < w) (hx : x.toInt.natAbs ≤ 20) : nV (sL σ 121 (14 + 6 * i + j) x) h w (up2 f i j x) v rh rl pn I := by
  refine ⟨?_, okV_put hn.2.1 hi hj hx, hn.2.2⟩
  have e : (sL σ 121 (14 + 6 * i + j) x).2.1 121 = fun k => if k = 14 + 6 * i + j then x else σ.2.1 121 k := by
    funext k
    show (sL σ 121 (14 + 6 * i + j) x).2.1 121 k = _
    by_cases e : k = 14 + 6 * i + j
    · rw [e, sL_s, if_pos rfl]
    · rw [sL_o (Or.inr e), if_neg e]
  rw [e]
  exact nL_put hn.2.1 hn.1 hi hj
theorem spv_20 {t : Nat} (ht : t ≤ 40) : (spv t).toInt64.toInt.natAbs ≤ 20 := by
  rw [Int32.toInt_toInt64, spv_t (by omega)]; omega
/-- what spoils touches besides: the one entry -/
def pSp (k a b : Nat) : Prop := pQ a b ∨ (a = 121 ∧ b = k)
theorem sp_bk {σ τ : am_G} {k : Nat} {x : Int64} (q : smP (pSp k) σ τ) (e : τ.1 121 k = σ.1 121 k) (ex : x = σ.2.1 121 k) : smP pQ σ (sL τ 121 k x) := by
  subst ex
  refine ⟨fun a b hab => ?_, q.2⟩
  by_cases c : a = 121 ∧ b = k
  · obtain ⟨rfl, rfl⟩ := c
    exact ⟨e, sL_s⟩
  · have z := q.1 a b (fun z => z.elim hab c)
    exact ⟨z.1, (sL_o (by omega)).trans z.2⟩
set_option maxRecDepth 100000 in
set_option maxHeartbeats 4000000 in
theorem lp_mat {σ : am_G} {h w rh pn : Nat} {f v rl : am_Gr} {I : Nat → Int32} {d k0 : Nat} (hn : nV σ h w f v rh rl pn I) (hd : 3 ≤ d)  : ∀ (uu i : Nat) (hall : ∀ r, r < i → ∀ c, c < w → smL (fun a => rl r a * f a c) h = 0), i + uu = rh → am_R am_TX d k0 c_M_areTrue 2 [some (.ref 120), some (.int (nI i))] [] (mm σ) (am_Ok (some (.int (zP (∀ r, r < rh → ∀ c, c < w → smL (fun a => rl r a * f a c) h = 0)))) (fun σ1 => σ1 = σ)) := by
  have hv := hn.toV
  have hs := hn.2.1.2.1
  have hh1 := hv.1.1.1
  have hh6 := hv.1.1.2
  have hw1 := hv.1.2.1
  have hw6 := hv.1.2.2
  have hp6 := hn.2.1.2.2.2.1.1
  have hr6 := hn.2.1.2.2.2.2.2.2.1
  have hs7 := lw_lt hh6
  have ws7 := lw_lt hw6
  intro uu
  induction uu with
  | zero =>
    intro i hall hi
    obtain rfl : rh = i := by omega
    refine R_iload_n rfl rfl ?_
    refine R_aload_n rfl rfl ?_
    refine R_bipush (v := 13) rfl (by decide) ?_
    refine R_cV (as := [.int 13]) rfl rfl iv_M_get (mget_x hn (j := 13) (by omega) hn.1.2.2.2.2.2.1) (by omega) rfl rfl rfl (by decide) rfl rfl (Nat.le_of_ble_eq_true rfl) (fun _ q => ?_)
    obtain rfl := q.symm
    refine R_nicmp_ge (x := rh) (y := rh) rfl rfl (by omega) (by omega) (fun g1 => ?_) (fun z => by omega)
    refine R_iconst (v := 1) rfl rfl ?_
    exact T_zreturn rfl rfl rfl (am_oki (zP_t hall).symm rfl)
  | succ uu ih =>
    intro i hall hi
    refine R_iload_n rfl rfl ?_
    refine R_aload_n rfl rfl ?_
    refine R_bipush (v := 13) rfl (by decide) ?_
    refine R_cV (as := [.int 13]) rfl rfl iv_M_get (mget_x hn (j := 13) (by omega) hn.1.2.2.2.2.2.1) (by omega) rfl rfl rfl (by decide) rfl rfl (Nat.le_of_ble_eq_true rfl) (fun _ q => ?_)
    obtain rfl := q.symm
    refine R_nicmp_ge (x := i) (y := rh) rfl rfl (by omega) (by omega) (fun z => by omega) (fun g1 => ?_)
    refine R_aload_n rfl rfl ?_
    refine R_iload_n rfl rfl ?_
    refine R_cV (as := [.int (nI i)]) rfl rfl iv_M_isTrue (sp_misTrue (k := i) hn (by omega)) (by omega) rfl rfl rfl (by decide) rfl rfl (Nat.le_of_ble_eq_true rfl) (fun _ q => ?_)
    obtain rfl := q.symm
    refine R_zif_ne rfl rfl (fun g2 => ?_) (fun g2 => ?_)
    · refine R_iincN (x := i) (m := 1) rfl rfl rfl (by decide) ?_
      refine R_goto rfl rfl ?_
      refine (ih (i + 1) (fun c hc => ?_) (by omega)).weak ⟨rfl, rfl, trivial⟩
      rcases Nat.lt_or_eq_of_le (Nat.le_of_lt_succ hc) with a | a
      · exact hall c a
      · subst a; exact g2
    · refine R_iconst (v := 0) rfl rfl ?_
      exact T_zreturn rfl rfl rfl (am_oki (zP_f (fun z => g2 (z i (by omega)))).symm rfl)
set_option maxRecDepth 100000 in
set_option maxHeartbeats 4000000 in
theorem sp_areTrue {σ : am_G} {h w rh pn : Nat} {f v rl : am_Gr} {I : Nat → Int32} (hn : nV σ h w f v rh rl pn I) : am_Call am_TX 3 0 c_M_areTrue [.ref 120] (mm σ) (am_Ok (some (.int (zP (∀ r, r < rh → ∀ c, c < w → smL (fun a => rl r a * f a c) h = 0)))) (fun σ1 => σ1 = σ)) := by
  have hv := hn.toV
  have hs := hn.2.1.2.1
  have hh1 := hv.1.1.1
  have hh6 := hv.1.1.2
  have hw1 := hv.1.2.1
  have hw6 := hv.1.2.2
  have hp6 := hn.2.1.2.2.2.1.1
  have hr6 := hn.2.1.2.2.2.2.2.2.1
  have hs7 := lw_lt hh6
  have ws7 := lw_lt hw6
  refine ⟨mf_M_areTrue, Nat.le_of_ble_eq_true rfl, ?_⟩
  refine R_iconst (v := 0) rfl rfl ?_
  refine R_istore_n rfl (by decide) ?_
  exact (lp_mat hn (by omega) rh 0 (fun c hc => absurd hc (Nat.not_lt_zero _)) (by omega)).weak ⟨rfl, rfl, trivial⟩
set_option maxRecDepth 100000 in
set_option maxHeartbeats 4000000 in
theorem lp_mha {σ : am_G} {h w rh pn : Nat} {f v rl : am_Gr} {I : Nat → Int32} {d k0 : Nat} (hn : nV σ h w f v rh rl pn I) (hd : 3 ≤ d)  : ∀ (uu i : Nat), i + uu = rh → am_R am_TX d k0 c_M_areHeadsApart 4 [some (.ref 120), some (.int (nI (thF rl h i))), some (.int (nI i))] [] (mm σ) (am_Ok (some (.int (zP (pc (thF rl h rh) = rh)))) (fun σ1 => σ1 = σ)) := by
  have hv := hn.toV
  have hs := hn.2.1.2.1
  have hh1 := hv.1.1.1
  have hh6 := hv.1.1.2
  have hw1 := hv.1.2.1
  have hw6 := hv.1.2.2
  have hp6 := hn.2.1.2.2.2.1.1
  have hr6 := hn.2.1.2.2.2.2.2.2.1
  have hs7 := lw_lt hh6
  have ws7 := lw_lt hw6
  intro uu
  induction uu with
  | zero =>
    intro i hi
    obtain rfl : rh = i := by omega
    have hz := hn.2.1.2.2.2.2.2.2.2.2
    obtain ⟨ht1, ht2, ht3⟩ := thF_pc hh6 hz rh (by omega)
    refine R_iload_n rfl rfl ?_
    refine R_aload_n rfl rfl ?_
    refine R_bipush (v := 13) rfl (by decide) ?_
    refine R_cV (as := [.int 13]) rfl rfl iv_M_get (mget_x hn (j := 13) (by omega) hn.1.2.2.2.2.2.1) (by omega) rfl rfl rfl (by decide) rfl rfl (Nat.le_of_ble_eq_true rfl) (fun _ q => ?_)
    obtain rfl := q.symm
    refine R_nicmp_ge (x := rh) (y := rh) rfl rfl (by omega) (by omega) (fun g1 => ?_) (fun z => by omega)
    refine R_iload_n rfl rfl ?_
    refine R_cS (as := [.int (nI (thF rl h rh))]) rfl rfl iv_M_bits (sp_bits (s := (thF rl h rh)) (by first | assumption | exact lw_lt (by omega) | exact wi_lt (by first | assumption | omega) (by omega) | exact wo_lt (by first | assumption | omega) (by omega) | omega)) (by omega) rfl rfl rfl rfl (Nat.le_of_ble_eq_true rfl) (fun _ q => ?_)
    obtain rfl := q.symm
    refine R_aload_n rfl rfl ?_
    refine R_bipush (v := 13) rfl (by decide) ?_
    refine R_cV (as := [.int 13]) rfl rfl iv_M_get (mget_x hn (j := 13) (by omega) hn.1.2.2.2.2.2.1) (by omega) rfl rfl rfl (by decide) rfl rfl (Nat.le_of_ble_eq_true rfl) (fun _ q => ?_)
    obtain rfl := q.symm
    refine R_nicmp_ne (x := (pc (thF rl h rh))) (y := rh) rfl rfl (by omega) (by omega) (fun g2 => ?_) (fun g2 => ?_)
    · refine R_iconst (v := 0) rfl rfl ?_
      exact T_zreturn rfl rfl rfl (am_oki (zP_f g2).symm rfl)
    · refine R_iconst (v := 1) rfl rfl ?_
      refine R_goto rfl rfl ?_
      exact T_zreturn rfl rfl rfl (am_oki (zP_t g2).symm rfl)
  | succ uu ih =>
    intro i hi
    have hz := hn.2.1.2.2.2.2.2.2.2.2
    obtain ⟨ht1, ht2, ht3⟩ := thF_pc hh6 hz i (by omega)
    have hk := (hdF_N h (hz i (by omega))).2
    refine R_iload_n rfl rfl ?_
    refine R_aload_n rfl rfl ?_
    refine R_bipush (v := 13) rfl (by decide) ?_
    refine R_cV (as := [.int 13]) rfl rfl iv_M_get (mget_x hn (j := 13) (by omega) hn.1.2.2.2.2.2.1) (by omega) rfl rfl rfl (by decide) rfl rfl (Nat.le_of_ble_eq_true rfl) (fun _ q => ?_)
    obtain rfl := q.symm
    refine R_nicmp_ge (x := i) (y := rh) rfl rfl (by omega) (by omega) (fun z => by omega) (fun g1 => ?_)
    refine R_iload_n rfl rfl ?_
    refine R_iconst (v := 1) rfl rfl ?_
    refine R_aload_n rfl rfl ?_
    refine R_iload_n rfl rfl ?_
    refine R_cV (as := [.int (nI i)]) rfl rfl iv_M_headOf (sp_mheadOf (k := i) hn (by omega)) (by omega) rfl rfl rfl (by decide) rfl rfl (Nat.le_of_ble_eq_true rfl) (fun _ q => ?_)
    obtain rfl := q.symm
    refine R_shl1N (y := (hdN (rl i) h)) rfl (by omega) ?_
    refine R_iorB (s := (thF rl h i)) (y := (hdN (rl i) h)) rfl (by first | assumption | omega) (by omega) ?_
    refine R_istore_n rfl (by decide) ?_
    refine R_iincN (x := i) (m := 1) rfl rfl rfl (by decide) ?_
    refine R_goto rfl rfl ?_
    exact (ih (i + 1) (by omega)).weak ⟨rfl, rfl, rfl, trivial⟩
set_option maxRecDepth 100000 in
set_option maxHeartbeats 4000000 in
theorem sp_apart {σ : am_G} {h w rh pn : Nat} {f v rl : am_Gr} {I : Nat → Int32} (hn : nV σ h w f v rh rl pn I) : am_Call am_TX 3 0 c_M_areHeadsApart [.ref 120] (mm σ) (am_Ok (some (.int (zP (pc (thF rl h rh) = rh)))) (fun σ1 => σ1 = σ)) := by
  have hv := hn.toV
  have hs := hn.2.1.2.1
  have hh1 := hv.1.1.1
  have hh6 := hv.1.1.2
  have hw1 := hv.1.2.1
  have hw6 := hv.1.2.2
  have hp6 := hn.2.1.2.2.2.1.1
  have hr6 := hn.2.1.2.2.2.2.2.2.1
  have hs7 := lw_lt hh6
  have ws7 := lw_lt hw6
  refine ⟨mf_M_areHeadsApart, Nat.le_of_ble_eq_true rfl, ?_⟩
  refine R_iconst (v := 0) rfl rfl ?_
  refine R_istore_n rfl (by decide) ?_
  refine R_iconst (v := 0) rfl rfl ?_
  refine R_istore_n rfl (by decide) ?_
  exact (lp_mha hn (by omega) rh 0 (by omega)).weak ⟨rfl, rfl, rfl, trivial⟩
set_option maxRecDepth 100000 in
set_option maxHeartbeats 4000000 in
theorem sp_claimedMinor {σ : am_G} {h w rh pn : Nat} {f v rl : am_Gr} {I : Nat → Int32} {R Cc : Nat} (hn : nV σ h w f v rh rl pn I) (hR : I 2 = nI R) (hC : I 3 = nI Cc) (hS : R < 2 ^ h) (hT : Cc < 2 ^ w) (hc : pc R = pc Cc) : am_Call am_TX 12 0 c_M_claimedMinor [.ref 120] (mm σ) (am_Ok (some (.long (mnF f R w Cc))) (fun σ1 => smP pK σ σ1)) := by
  have hv := hn.toV
  have hs := hn.2.1.2.1
  have hh1 := hv.1.1.1
  have hh6 := hv.1.1.2
  have hw1 := hv.1.2.1
  have hw6 := hv.1.2.2
  have hp6 := hn.2.1.2.2.2.1.1
  have hr6 := hn.2.1.2.2.2.2.2.2.1
  have hs7 := lw_lt hh6
  have ws7 := lw_lt hw6
  have hpR := @pc_le R
  have hR6 := p2_64 hS hh6
  have hC6 := p2_64 hT hw6
  have hc2 : ¬ I 2 = -1 := fun z => absurd (hR.symm.trans z) (nI_m1 (by omega))
  refine ⟨mf_M_claimedMinor, Nat.le_of_ble_eq_true rfl, ?_⟩
  refine R_aload_n rfl rfl ?_
  refine R_aload_n rfl rfl ?_
  refine R_bipush (v := 11) rfl (by decide) ?_
  refine R_cV (as := [.int 11]) rfl rfl iv_M_get ((by have z := mget_11 hn hc2; rw [hR] at z; exact z)) (by omega) rfl rfl rfl (by decide) rfl rfl (Nat.le_of_ble_eq_true rfl) (fun _ q => ?_)
  obtain rfl := q.symm
  refine R_aload_n rfl rfl ?_
  refine R_bipush (v := 12) rfl (by decide) ?_
  refine R_cV (as := [.int 12]) rfl rfl iv_M_get ((by have z := mget_12 hn hc2; rw [hC] at z; exact z)) (by omega) rfl rfl rfl (by decide) rfl rfl (Nat.le_of_ble_eq_true rfl) (fun _ q => ?_)
  obtain rfl := q.symm
  refine R_cV (as := [.int (nI R), .int (nI Cc)]) rfl rfl iv_M_minorOf (sp_mminorOf (S := R) (s := Cc) hv hs hS hT hc.symm) (by omega) rfl rfl rfl (by decide) rfl rfl (Nat.le_of_ble_eq_true rfl) (fun σ3 hσ3 => ?_)
  exact T_lreturn rfl rfl (am_okl rfl hσ3)
set_option maxRecDepth 100000 in
set_option maxHeartbeats 4000000 in
theorem sp_M_flaw {σ : am_G} {h w rh pn : Nat} {f v rl : am_Gr} {I : Nat → Int32} {R Cc : Nat} (hn : nV σ h w f v rh rl pn I) (hR : I 2 = nI R) (hC : I 3 = nI Cc) (hS : R < 2 ^ h) (hT : Cc < 2 ^ w) (hc : pc R = pc Cc) : am_Call am_TX 14 0 c_M_flaw [.ref 120] (mm σ) (am_Ok (some (.int (flF f h w rh rl (some (R, Cc))))) (fun σ1 => smP pQ σ σ1 ∧ σ1.1 120 0 = 0)) := by
  have hv := hn.toV
  have hs := hn.2.1.2.1
  have hh1 := hv.1.1.1
  have hh6 := hv.1.1.2
  have hw1 := hv.1.2.1
  have hw6 := hv.1.2.2
  have hp6 := hn.2.1.2.2.2.1.1
  have hr6 := hn.2.1.2.2.2.2.2.2.1
  have hs7 := lw_lt hh6
  have ws7 := lw_lt hw6
  have hpR := @pc_le R
  have hR6 := p2_64 hS hh6
  have hC6 := p2_64 hT hw6
  have hc2 : ¬ I 2 = -1 := fun z => absurd (hR.symm.trans z) (nI_m1 (by omega))
  refine ⟨mf_M_flaw, Nat.le_of_ble_eq_true rfl, ?_⟩
  refine R_aload_n rfl rfl ?_
  refine R_iconst (v := 0) rfl rfl ?_
  refine R_pI rfl rfl fw_11_0 rfl ?_
  refine R_aload_n rfl rfl ?_
  refine R_cV (as := []) rfl rfl iv_M_isClaimed (isClaimed_1 (hn.fr (smP_sI (p := pQ) (k := 120) (j := 0) (x := 0) (by unfold pQ; omega)) (fun b => by unfold pQ; omega) (by unfold pQ; omega)) hc2) (by omega) rfl rfl rfl (by decide) rfl rfl (Nat.le_of_ble_eq_true rfl) (fun _ q => ?_)
  obtain rfl := q.symm
  refine R_if_ne rfl rfl (fun _ => ?_) (fun z => absurd z (by decide))
  refine R_aload_n rfl rfl ?_
  refine R_cV (as := []) rfl rfl iv_M_claimedMinor (sp_claimedMinor (hn.fr (smP_sI (p := pQ) (k := 120) (j := 0) (x := 0) (by unfold pQ; omega)) (fun b => by unfold pQ; omega) (by unfold pQ; omega)) hR hC hS hT hc) (by omega) rfl rfl rfl (by decide) rfl rfl (Nat.le_of_ble_eq_true rfl) (fun σ2 hσ2 => ?_)
  refine R_lconst (v := 0) rfl rfl ?_
  refine R_l_ne rfl rfl rfl (fun g1 => ?_) (fun g1 => ?_)
  · refine R_aload_n rfl rfl ?_
    refine R_cV (as := []) rfl rfl iv_M_areTrue (sp_areTrue (hn.fr ((smP_sI (p := pQ) (k := 120) (j := 0) (x := 0) (by unfold pQ; omega)).trans (hσ2.mono (q := pQ) pQ_K)) (fun b => by unfold pQ; omega) (by unfold pQ; omega))) (by omega) rfl rfl rfl (by decide) rfl rfl (Nat.le_of_ble_eq_true rfl) (fun _ q => ?_)
    obtain rfl := q.symm
    refine R_zif_ne rfl rfl (fun g2 => ?_) (fun g2 => ?_)
    · refine R_aload_n rfl rfl ?_
      refine R_cV (as := []) rfl rfl iv_M_areHeadsApart (sp_apart (hn.fr ((smP_sI (p := pQ) (k := 120) (j := 0) (x := 0) (by unfold pQ; omega)).trans (hσ2.mono (q := pQ) pQ_K)) (fun b => by unfold pQ; omega) (by unfold pQ; omega))) (by omega) rfl rfl rfl (by decide) rfl rfl (Nat.le_of_ble_eq_true rfl) (fun _ q => ?_)
      obtain rfl := q.symm
      refine R_zif_ne rfl rfl (fun g3 => ?_) (fun g3 => ?_)
      · refine R_aload_n rfl rfl ?_
        refine R_bipush (v := 11) rfl (by decide) ?_
        refine R_cV (as := [.int 11]) rfl rfl iv_M_get ((by have z := mget_11 (hn.fr ((smP_sI (p := pQ) (k := 120) (j := 0) (x := 0) (by unfold pQ; omega)).trans (hσ2.mono (q := pQ) pQ_K)) (fun b => by unfold pQ; omega) (by unfold pQ; omega)) hc2; rw [hR] at z; exact z)) (by omega) rfl rfl rfl (by decide) rfl rfl (Nat.le_of_ble_eq_true rfl) (fun _ q => ?_)
        obtain rfl := q.symm
        refine R_cS (as := [.int (nI R)]) rfl rfl iv_M_bits (sp_bits (s := R) (by first | assumption | exact lw_lt (by omega) | exact wi_lt (by first | assumption | omega) (by omega) | exact wo_lt (by first | assumption | omega) (by omega) | omega)) (by omega) rfl rfl rfl rfl (Nat.le_of_ble_eq_true rfl) (fun _ q => ?_)
        obtain rfl := q.symm
        refine R_aload_n rfl rfl ?_
        refine R_bipush (v := 13) rfl (by decide) ?_
        refine R_cV (as := [.int 13]) rfl rfl iv_M_get (mget_x (hn.fr ((smP_sI (p := pQ) (k := 120) (j := 0) (x := 0) (by unfold pQ; omega)).trans (hσ2.mono (q := pQ) pQ_K)) (fun b => by unfold pQ; omega) (by unfold pQ; omega)) (j := 13) (by omega) (hn.fr ((smP_sI (p := pQ) (k := 120) (j := 0) (x := 0) (by unfold pQ; omega)).trans (hσ2.mono (q := pQ) pQ_K)) (fun b => by unfold pQ; omega) (by unfold pQ; omega)).1.2.2.2.2.2.1) (by omega) rfl rfl rfl (by decide) rfl rfl (Nat.le_of_ble_eq_true rfl) (fun _ q => ?_)
        obtain rfl := q.symm
        refine R_iaddN (x := (pc R)) (y := rh) rfl ?_
        refine R_aload_n rfl rfl ?_
        refine R_cV (as := []) rfl rfl iv_M_rows (sp_rows (((smP_sI (p := pQ) (k := 120) (j := 0) (x := 0) (by unfold pQ; omega)).trans (hσ2.mono (q := pQ) pQ_K)).mV hv (fun b => by unfold pQ; omega) (fun b => by unfold pQ; omega) (by unfold pQ; omega))) (by omega) rfl rfl rfl (by decide) rfl rfl (Nat.le_of_ble_eq_true rfl) (fun _ q => ?_)
        obtain rfl := q.symm
        refine R_nicmp_ne (x := ((pc R) + rh)) (y := h) rfl rfl (by omega) (by omega) (fun g4 => ?_) (fun g4 => ?_)
        · refine R_iconst (v := 5) rfl rfl ?_
          exact T_ireturn rfl rfl (am_oki (flF_5 g1 g2 ((thF_pc hh6 hn.2.1.2.2.2.2.2.2.2.2 rh (Nat.le_refl _)).2.2.mp g3) g4).symm ⟨((smP_sI (p := pQ) (k := 120) (j := 0) (x := 0) (by unfold pQ; omega)).trans (hσ2.mono (q := pQ) pQ_K)), ((hσ2.i (by unfold pK; omega)).trans sI_s)⟩)
        · refine R_iconst (v := 0) rfl rfl ?_
          refine R_goto rfl rfl ?_
          exact T_ireturn rfl rfl (am_oki (flF_0 g1 g2 ((thF_pc hh6 hn.2.1.2.2.2.2.2.2.2.2 rh (Nat.le_refl _)).2.2.mp g3) g4).symm ⟨((smP_sI (p := pQ) (k := 120) (j := 0) (x := 0) (by unfold pQ; omega)).trans (hσ2.mono (q := pQ) pQ_K)), ((hσ2.i (by unfold pK; omega)).trans sI_s)⟩)
      · refine R_iconst (v := 4) rfl rfl ?_
        exact T_ireturn rfl rfl (am_oki (flF_4 g1 g2 (Classical.byContradiction (fun z => g3 ((thF_pc hh6 hn.2.1.2.2.2.2.2.2.2.2 rh (Nat.le_refl _)).2.2.mpr z)))).symm ⟨((smP_sI (p := pQ) (k := 120) (j := 0) (x := 0) (by unfold pQ; omega)).trans (hσ2.mono (q := pQ) pQ_K)), ((hσ2.i (by unfold pK; omega)).trans sI_s)⟩)
    · refine R_iconst (v := 3) rfl rfl ?_
      exact T_ireturn rfl rfl (am_oki (flF_3 g1 g2).symm ⟨((smP_sI (p := pQ) (k := 120) (j := 0) (x := 0) (by unfold pQ; omega)).trans (hσ2.mono (q := pQ) pQ_K)), ((hσ2.i (by unfold pK; omega)).trans sI_s)⟩)
  · refine R_iconst (v := 2) rfl rfl ?_
    exact T_ireturn rfl rfl (am_oki (flF_2 g1).symm ⟨((smP_sI (p := pQ) (k := 120) (j := 0) (x := 0) (by unfold pQ; omega)).trans (hσ2.mono (q := pQ) pQ_K)), ((hσ2.i (by unfold pK; omega)).trans sI_s)⟩)
set_option maxRecDepth 100000 in
set_option maxHeartbeats 4000000 in
theorem sp_M_flaw_1 {σ : am_G} {h w rh pn : Nat} {f v rl : am_Gr} {I : Nat → Int32} (hn : nV σ h w f v rh rl pn I) (h2 : I 2 = -1) : am_Call am_TX 14 0 c_M_flaw [.ref 120] (mm σ) (am_Ok (some (.int 1)) (fun σ1 => smP pQ σ σ1 ∧ σ1.1 120 0 = 0)) := by
  have hv := hn.toV
  have hs := hn.2.1.2.1
  have hh1 := hv.1.1.1
  have hh6 := hv.1.1.2
  have hw1 := hv.1.2.1
  have hw6 := hv.1.2.2
  have hp6 := hn.2.1.2.2.2.1.1
  have hr6 := hn.2.1.2.2.2.2.2.2.1
  have hs7 := lw_lt hh6
  have ws7 := lw_lt hw6
  refine ⟨mf_M_flaw, Nat.le_of_ble_eq_true rfl, ?_⟩
  refine R_aload_n rfl rfl ?_
  refine R_iconst (v := 0) rfl rfl ?_
  refine R_pI rfl rfl fw_11_0 rfl ?_
  refine R_aload_n rfl rfl ?_
  refine R_cV (as := []) rfl rfl iv_M_isClaimed (isClaimed_0 (hn.fr (smP_sI (p := pQ) (k := 120) (j := 0) (x := 0) (by unfold pQ; omega)) (fun b => by unfold pQ; omega) (by unfold pQ; omega)) h2) (by omega) rfl rfl rfl (by decide) rfl rfl (Nat.le_of_ble_eq_true rfl) (fun _ q => ?_)
  obtain rfl := q.symm
  refine R_if_ne rfl rfl (fun z => absurd z (by decide)) (fun _ => ?_)
  refine R_iconst (v := 1) rfl rfl ?_
  exact T_ireturn rfl rfl (am_oki rfl ⟨(smP_sI (p := pQ) (k := 120) (j := 0) (x := 0) (by unfold pQ; omega)), sI_s⟩)
set_option maxRecDepth 100000 in
set_option maxHeartbeats 4000000 in
theorem lp_msp {σ : am_G} {h w rh pn : Nat} {f v rl : am_Gr} {I : Nat → Int32} {i j : Nat} {d k0 : Nat} (hn : nV σ h w f v rh rl pn I) (i_h : i < h) (j_w : j < w) (hd : 8 ≤ d) : ∀ (uu t : Nat) (y : Int64) (τ : am_G), t + uu = 41 → nV τ h w (up2 f i j y) v rh rl pn I → (smP (pSp (14 + 6 * i + j)) σ τ ∧ τ.1 120 0 = 0 ∧ τ.1 121 (14 + 6 * i + j) = σ.1 121 (14 + 6 * i + j)) → am_R am_TX d k0 c_M_spoils 51 [some (.ref 120), some (.int (nI i)), some (.int (nI j)), some (.int (nI (rkO f 0 (2 ^ h - 1) (2 ^ w - 1) h w))), some (.int ((f i j).toInt32)), some (.int (nI (csN f h w i j t))), some (.int (spv t))] [] (mm τ) (am_Ok (some (.int (nI (csN f h w i j 41)))) (fun σ1 => smP pQ σ σ1 ∧ σ1.1 120 0 = 0)) := by
  have hv := hn.toV
  have hs := hn.2.1.2.1
  have hh1 := hv.1.1.1
  have hh6 := hv.1.1.2
  have hw1 := hv.1.2.1
  have hw6 := hv.1.2.2
  have hp6 := hn.2.1.2.2.2.1.1
  have hr6 := hn.2.1.2.2.2.2.2.2.1
  have hs7 := lw_lt hh6
  have ws7 := lw_lt hw6
  have hk1 : (rkO f 0 (2 ^ h - 1) (2 ^ w - 1) h w) ≤ 6 := rkO_6 hh6
  intro uu
  induction uu with
  | zero =>
    intro t y τ ht hny hI
    obtain rfl : 41 = t := by omega
    refine R_iload rfl rfl ?_
    refine R_bipush (v := 20) rfl (by decide) ?_
    refine R_icmp_gt rfl rfl (fun g1 => ?_) (fun z => absurd (Nat.lt_irrefl 41) (fun y => y ((spv_le (t := 41) (by omega)).mp z)))
    refine R_aload_n rfl rfl ?_
    refine R_gP (x := 121) rfl rfl fp_11_1 rfl ?_
    refine R_bipush (v := 14) rfl (by decide) ?_
    refine R_bipush (v := 6) rfl (by decide) ?_
    refine R_iload_n rfl rfl ?_
    refine R_imulN (x := 6) (y := i) rfl ?_
    refine R_iaddN (x := 14) (y := (6 * i)) rfl ?_
    refine R_iload_n rfl rfl ?_
    refine R_iaddN (x := (14 + (6 * i))) (y := j) rfl ?_
    refine R_iload rfl rfl ?_
    refine R_i2l rfl ?_
    refine R_wL (j := ((14 + (6 * i)) + j)) rfl rfl rfl (by omega) (by decide) ?_
    refine R_iload rfl rfl ?_
    exact T_ireturn rfl rfl (am_oki rfl ⟨sp_bk hI.1 hI.2.2 (by rw [sm3264 (hs i j i_h j_w)]; exact (hn.1.1.2.2 i j (by omega) (by omega)).symm), hI.2.1⟩)
  | succ uu ih =>
    intro t y τ ht hny hI
    have hk2 : rkO (up2 f i j (spv t).toInt64) 0 (2 ^ h - 1) (2 ^ w - 1) h w ≤ 6 := rkO_6 hh6
    have hk3 := @csN_le f h w i j t
    refine R_iload rfl rfl ?_
    refine R_bipush (v := 20) rfl (by decide) ?_
    refine R_icmp_gt rfl rfl (fun z => absurd z ((spv_le (by omega)).mpr (by omega))) (fun g1 => ?_)
    refine R_aload_n rfl rfl ?_
    refine R_gP (x := 121) rfl rfl fp_11_1 rfl ?_
    refine R_bipush (v := 14) rfl (by decide) ?_
    refine R_bipush (v := 6) rfl (by decide) ?_
    refine R_iload_n rfl rfl ?_
    refine R_imulN (x := 6) (y := i) rfl ?_
    refine R_iaddN (x := 14) (y := (6 * i)) rfl ?_
    refine R_iload_n rfl rfl ?_
    refine R_iaddN (x := (14 + (6 * i))) (y := j) rfl ?_
    refine R_iload rfl rfl ?_
    refine R_i2l rfl ?_
    refine R_wL (j := ((14 + (6 * i)) + j)) rfl rfl rfl (by omega) (by decide) ?_
    have hn2 : nV (sL τ 121 ((14 + (6 * i)) + j) ((spv t).toInt64)) h w (up2 f i j (spv t).toInt64) v rh rl pn I := by
      have z := nV_put (x := (spv t).toInt64) hny i_h j_w (spv_20 (by omega))
      rw [up2_2] at z; exact z
    refine R_iload rfl rfl ?_
    refine R_aload_n rfl rfl ?_
    refine R_iconst (v := 0) rfl rfl ?_
    refine R_cV (as := [.int 0]) rfl rfl iv_M_rankAll (sp_rankAll (m := 0) hn2.toV hn2.2.1.2.1 (by omega)) (by omega) rfl rfl rfl (by decide) rfl rfl (Nat.le_of_ble_eq_true rfl) (fun σ9 hσ9 => ?_)
    refine R_iload_n rfl rfl ?_
    refine R_nicmp_eq (x := (rkO (up2 f i j (spv t).toInt64) 0 (2 ^ h - 1) (2 ^ w - 1) h w)) (y := (rkO f 0 (2 ^ h - 1) (2 ^ w - 1) h w)) rfl rfl (by omega) (by omega) (fun g2 => ?_) (fun g2 => ?_)
    · refine R_iconst (v := 0) rfl rfl ?_
      refine R_iaddN (x := (csN f h w i j t)) (y := 0) rfl ?_
      refine R_istore rfl (by decide) ?_
      refine R_iinc rfl rfl (by decide) ?_
      refine R_goto rfl rfl ?_
      rw [spv_s]
      have e := ih (t + 1) (spv t).toInt64 σ9 (by omega) (hn2.fr hσ9 (fun b => by unfold pW; omega) (by unfold pW; omega)) ⟨((hI.1.trans (smP_sL (p := pSp (14 + 6 * i + j)) (Or.inr ⟨rfl, rfl⟩))).trans (hσ9.mono (fun a b q => Or.inl (pQ_W a b q)))), (hσ9.i (by unfold pW; omega)).trans hI.2.1, (hσ9.i (by unfold pW; omega)).trans hI.2.2⟩
      rw [show csN f h w i j (t + 1) = csN f h w i j t + 0 from by simp only [csN]; exact if_pos g2] at e
      exact e.weak ⟨rfl, rfl, rfl, rfl, rfl, rfl, rfl, trivial⟩
    · refine R_iconst (v := 1) rfl rfl ?_
      refine R_goto rfl rfl ?_
      refine R_iaddN (x := (csN f h w i j t)) (y := 1) rfl ?_
      refine R_istore rfl (by decide) ?_
      refine R_iinc rfl rfl (by decide) ?_
      refine R_goto rfl rfl ?_
      rw [spv_s]
      have e := ih (t + 1) (spv t).toInt64 σ9 (by omega) (hn2.fr hσ9 (fun b => by unfold pW; omega) (by unfold pW; omega)) ⟨((hI.1.trans (smP_sL (p := pSp (14 + 6 * i + j)) (Or.inr ⟨rfl, rfl⟩))).trans (hσ9.mono (fun a b q => Or.inl (pQ_W a b q)))), (hσ9.i (by unfold pW; omega)).trans hI.2.1, (hσ9.i (by unfold pW; omega)).trans hI.2.2⟩
      rw [show csN f h w i j (t + 1) = csN f h w i j t + 1 from by simp only [csN]; exact if_neg g2] at e
      exact e.weak ⟨rfl, rfl, rfl, rfl, rfl, rfl, rfl, trivial⟩
set_option maxRecDepth 100000 in
set_option maxHeartbeats 4000000 in
theorem sp_M_spoils {σ : am_G} {h w rh pn : Nat} {f v rl : am_Gr} {I : Nat → Int32} {i : Nat} {j : Nat} (hn : nV σ h w f v rh rl pn I) (i_h : i < h) (j_w : j < w) : am_Call am_TX 14 0 c_M_spoils [.ref 120, .int (nI i), .int (nI j)] (mm σ) (am_Ok (some (.int (nI (csN f h w i j 41)))) (fun σ1 => smP pQ σ σ1 ∧ σ1.1 120 0 = 0)) := by
  have hv := hn.toV
  have hs := hn.2.1.2.1
  have hh1 := hv.1.1.1
  have hh6 := hv.1.1.2
  have hw1 := hv.1.2.1
  have hw6 := hv.1.2.2
  have hp6 := hn.2.1.2.2.2.1.1
  have hr6 := hn.2.1.2.2.2.2.2.2.1
  have hs7 := lw_lt hh6
  have ws7 := lw_lt hw6
  refine ⟨mf_M_spoils, Nat.le_of_ble_eq_true rfl, ?_⟩
  refine R_aload_n rfl rfl ?_
  refine R_aload_n rfl rfl ?_
  refine R_iload_n rfl rfl ?_
  refine R_cV (as := [.int (nI i)]) rfl rfl iv_M_isRow (isRow_1 (n := i) hv (by omega)) (by omega) rfl rfl rfl (by decide) rfl rfl (Nat.le_of_ble_eq_true rfl) (fun _ q => ?_)
  obtain rfl := q.symm
  refine R_if_eq rfl rfl (fun z => absurd z (by decide)) (fun _ => ?_)
  refine R_aload_n rfl rfl ?_
  refine R_iload_n rfl rfl ?_
  refine R_cV (as := [.int (nI j)]) rfl rfl iv_M_isColumn (isColumn_1 (n := j) hv (by omega)) (by omega) rfl rfl rfl (by decide) rfl rfl (Nat.le_of_ble_eq_true rfl) (fun _ q => ?_)
  obtain rfl := q.symm
  refine R_if_eq rfl rfl (fun z => absurd z (by decide)) (fun _ => ?_)
  refine R_iconst (v := 1) rfl rfl ?_
  refine R_goto rfl rfl ?_
  refine R_cV (as := [.int 1]) rfl rfl iv_M_passes (pass_1) (by omega) rfl rfl rfl (by decide) rfl rfl (Nat.le_of_ble_eq_true rfl) (fun _ q => ?_)
  obtain rfl := q.symm
  refine R_if_ne rfl rfl (fun _ => ?_) (fun z => absurd z (by decide))
  refine R_aload_n rfl rfl ?_
  refine R_iconst (v := 0) rfl rfl ?_
  refine R_cV (as := [.int 0]) rfl rfl iv_M_rankAll (sp_rankAll (m := 0) ((smP_sI (p := pQ) (k := 120) (j := 0) (x := 0) (by unfold pQ; omega)).mV hv (fun b => by unfold pQ; omega) (fun b => by unfold pQ; omega) (by unfold pQ; omega)) hs (by omega)) (by omega) rfl rfl rfl (by decide) rfl rfl (Nat.le_of_ble_eq_true rfl) (fun σ4 hσ4 => ?_)
  refine R_istore_n rfl (by decide) ?_
  refine R_aload_n rfl rfl ?_
  refine R_iload_n rfl rfl ?_
  refine R_iload_n rfl rfl ?_
  refine R_cV (as := [.int (nI i), .int (nI j)]) rfl rfl iv_M_at (sp_at (i := i) (j := j) (((smP_sI (p := pQ) (k := 120) (j := 0) (x := 0) (by unfold pQ; omega)).trans (hσ4.mono (q := pQ) pQ_W)).mV hv (fun b => by unfold pQ; omega) (fun b => by unfold pQ; omega) (by unfold pQ; omega)) (by omega) (by omega)) (by omega) rfl rfl rfl (by decide) rfl rfl (Nat.le_of_ble_eq_true rfl) (fun _ q => ?_)
  obtain rfl := q.symm
  refine R_istore rfl (by decide) ?_
  refine R_iconst (v := 0) rfl rfl ?_
  refine R_istore rfl (by decide) ?_
  refine R_bipush (v := -20) rfl (by decide) ?_
  refine R_istore rfl (by decide) ?_
  exact (lp_msp hn i_h j_w (by omega) 41 0 (f i j) _ (by omega) (by rw [up2_own]; exact (hn.fr ((smP_sI (p := pQ) (k := 120) (j := 0) (x := 0) (by unfold pQ; omega)).trans (hσ4.mono (q := pQ) pQ_W)) (fun b => by unfold pQ; omega) (by unfold pQ; omega))) ⟨((smP_sI (p := pQ) (k := 120) (j := 0) (x := 0) (by unfold pQ; omega)).trans (hσ4.mono (q := pQ) pQ_W)).mono (fun a b q => Or.inl q), ((hσ4.i (by unfold pW; omega)).trans sI_s), ((smP_sI (p := pQ) (k := 120) (j := 0) (x := 0) (by unfold pQ; omega)).trans (hσ4.mono (q := pQ) pQ_W)).i (by unfold pQ; omega)⟩).weak ⟨rfl, rfl, rfl, rfl, rfl, rfl, rfl, trivial⟩
set_option maxRecDepth 100000 in
set_option maxHeartbeats 4000000 in
theorem sp_M_spoils_x0x {σ : am_G} {h w rh pn : Nat} {f v rl : am_Gr} {I : Nat → Int32} {j_ : Int32} {x : Int32} (hn : nV σ h w f v rh rl pn I) (hb : ¬ (0 ≤ x ∧ x < nI h)) : am_Call am_TX 14 0 c_M_spoils [.ref 120, .int x, .int j_] (mm σ) (am_Ok (some (.int 0)) (fun σ1 => smP pQ σ σ1 ∧ σ1.1 120 0 = 1)) := by
  have hv := hn.toV
  have hs := hn.2.1.2.1
  have hh1 := hv.1.1.1
  have hh6 := hv.1.1.2
  have hw1 := hv.1.2.1
  have hw6 := hv.1.2.2
  have hp6 := hn.2.1.2.2.2.1.1
  have hr6 := hn.2.1.2.2.2.2.2.2.1
  have hs7 := lw_lt hh6
  have ws7 := lw_lt hw6
  refine ⟨mf_M_spoils, Nat.le_of_ble_eq_true rfl, ?_⟩
  refine R_aload_n rfl rfl ?_
  refine R_aload_n rfl rfl ?_
  refine R_iload_n rfl rfl ?_
  refine R_cV (as := [.int x]) rfl rfl iv_M_isRow (isRow_0 hv hb) (by omega) rfl rfl rfl (by decide) rfl rfl (Nat.le_of_ble_eq_true rfl) (fun _ q => ?_)
  obtain rfl := q.symm
  refine R_if_eq rfl rfl (fun _ => ?_) (fun z => absurd z (by decide))
  refine R_iconst (v := 0) rfl rfl ?_
  refine R_cV (as := [.int 0]) rfl rfl iv_M_passes (pass_0) (by omega) rfl rfl rfl (by decide) rfl rfl (Nat.le_of_ble_eq_true rfl) (fun _ q => ?_)
  obtain rfl := q.symm
  refine R_if_ne rfl rfl (fun z => absurd z (by decide)) (fun _ => ?_)
  refine R_iconst (v := 0) rfl rfl ?_
  exact T_ireturn rfl rfl (am_oki rfl ⟨(smP_sI (p := pQ) (k := 120) (j := 0) (x := 1) (by unfold pQ; omega)), sI_s⟩)
set_option maxRecDepth 100000 in
set_option maxHeartbeats 4000000 in
theorem sp_M_spoils_x0y {σ : am_G} {h w rh pn : Nat} {f v rl : am_Gr} {I : Nat → Int32} {i : Nat} {x : Int32} (hn : nV σ h w f v rh rl pn I) (i_h : i < h) (hb : ¬ (0 ≤ x ∧ x < nI w)) : am_Call am_TX 14 0 c_M_spoils [.ref 120, .int (nI i), .int x] (mm σ) (am_Ok (some (.int 0)) (fun σ1 => smP pQ σ σ1 ∧ σ1.1 120 0 = 1)) := by
  have hv := hn.toV
  have hs := hn.2.1.2.1
  have hh1 := hv.1.1.1
  have hh6 := hv.1.1.2
  have hw1 := hv.1.2.1
  have hw6 := hv.1.2.2
  have hp6 := hn.2.1.2.2.2.1.1
  have hr6 := hn.2.1.2.2.2.2.2.2.1
  have hs7 := lw_lt hh6
  have ws7 := lw_lt hw6
  refine ⟨mf_M_spoils, Nat.le_of_ble_eq_true rfl, ?_⟩
  refine R_aload_n rfl rfl ?_
  refine R_aload_n rfl rfl ?_
  refine R_iload_n rfl rfl ?_
  refine R_cV (as := [.int (nI i)]) rfl rfl iv_M_isRow (isRow_1 (n := i) hv (by omega)) (by omega) rfl rfl rfl (by decide) rfl rfl (Nat.le_of_ble_eq_true rfl) (fun _ q => ?_)
  obtain rfl := q.symm
  refine R_if_eq rfl rfl (fun z => absurd z (by decide)) (fun _ => ?_)
  refine R_aload_n rfl rfl ?_
  refine R_iload_n rfl rfl ?_
  refine R_cV (as := [.int x]) rfl rfl iv_M_isColumn (isColumn_0 hv hb) (by omega) rfl rfl rfl (by decide) rfl rfl (Nat.le_of_ble_eq_true rfl) (fun _ q => ?_)
  obtain rfl := q.symm
  refine R_if_eq rfl rfl (fun _ => ?_) (fun z => absurd z (by decide))
  refine R_iconst (v := 0) rfl rfl ?_
  refine R_cV (as := [.int 0]) rfl rfl iv_M_passes (pass_0) (by omega) rfl rfl rfl (by decide) rfl rfl (Nat.le_of_ble_eq_true rfl) (fun _ q => ?_)
  obtain rfl := q.symm
  refine R_if_ne rfl rfl (fun z => absurd z (by decide)) (fun _ => ?_)
  refine R_iconst (v := 0) rfl rfl ?_
  exact T_ireturn rfl rfl (am_oki rfl ⟨(smP_sI (p := pQ) (k := 120) (j := 0) (x := 1) (by unfold pQ; omega)), sI_s⟩)
