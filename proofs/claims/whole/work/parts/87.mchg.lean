/-! ===== the model: changes of its matrix ===== -/
def pN (a b : Nat) : Prop := pQ a b ∨ a = 121 ∨ a = 127
def pC (a b : Nat) : Prop := pQ a b ∨ (a = 120 ∧ b = 25) ∨ a = 121 ∨ a = 130 ∨ a = 127
theorem pN_W : ∀ a b, pW a b → pN a b := fun a b h => Or.inl (pQ_W a b h)
theorem pN_K : ∀ a b, pK a b → pN a b := fun a b h => Or.inl (pQ_K a b h)
theorem pN_L : ∀ a b, pL a b → pN a b := fun a b h => Or.inl (pQ_L a b h)
theorem pN_1 : ∀ a b, p121 a b → pN a b := fun _ _ h => Or.inr (Or.inl h)
theorem ch_end {σ σp ρ τ : am_G} {n : Nat} {Hs : Nat → am_Sn} (q0 : smP pQ σ σp) (q1 : smP pR σp ρ) (hm : mH ρ n Hs) (e : smP pN ρ τ) : smP pC σ τ ∧ mH τ n Hs :=
  ⟨((q0.mono (q := pC) (fun a b z => Or.inl z)).trans (q1.mono (q := pC) (fun a b z => z.elim (fun y => Or.inr (Or.inl y)) (fun y => Or.inr (Or.inr (Or.inr (Or.inl y))))))).trans (e.mono (q := pC) (fun a b z => z.elim (fun y => Or.inl y) (fun y => y.elim (fun y => Or.inr (Or.inr (Or.inl y))) (fun y => Or.inr (Or.inr (Or.inr (Or.inr y))))))), hm.fr e (by unfold pN pQ; omega) (fun b => by unfold pN pQ; omega)⟩
theorem nV_W {σ σ1 : am_G} (q : smP pW σ σ1) {h w rh pn : Nat} {f v rl : am_Gr} {I : Nat → Int32} (hn : nV σ h w f v rh rl pn I) : nV σ1 h w f v rh rl pn I := hn.fr q (fun b => by unfold pW; omega) (by unfold pW; omega)
theorem ch_rk {σ τ τ2 : am_G} {h w rh pn : Nat} {f v rl : am_Gr} {I : Nat → Int32} (q : smP pN σ τ) (t : τ.1 120 0 = 0) (hn : nV τ h w f v rh rl pn I) (e : smP pW τ τ2) : smP pN σ τ2 ∧ τ2.1 120 0 = 0 ∧ nV τ2 h w f v rh rl pn I :=
  ⟨q.trans (e.mono pN_W), (e.i (by unfold pW; omega)).trans t, nV_W e hn⟩
theorem r32 {x a : Int32} {k : Nat} (h : -a ≤ x ∧ x ≤ a) (e : a.toInt = k) (hk : (-a).toInt = -k) : x.toInt64.toInt.natAbs ≤ k := by
  rw [Int32.le_iff_toInt_le, Int32.le_iff_toInt_le, e, hk] at h
  rw [Int32.toInt_toInt64]; omega
theorem nL_sL {τ : am_G} {k : Nat} {x : Int64} : (sL τ 121 k x).2.1 121 = fun j => if j = k then x else τ.2.1 121 j := by
  funext j
  show (sL τ 121 k x).2.1 121 j = _
  by_cases e : j = k
  · rw [e, sL_s, if_pos rfl]
  · rw [sL_o (Or.inr e), if_neg e]
theorem nL_put6 {L : Nat → Int64} {h w rh pn i j : Nat} {f v rl : am_Gr} {I : Nat → Int32} {x : Int64} (hL : nL L h w f v rh rl pn I) (hi : i < 6) (hj : j < 6) : nL (fun k => if k = 14 + 6 * i + j then x else L k) h w (up2 f i j x) v rh rl pn I := by
  obtain ⟨⟨a1, a2, a3⟩, ⟨b1, b2⟩, c1, ⟨d1, d2⟩, e1, f1, g1, i1⟩ := hL
  have o : ∀ k, (k < 14 ∨ 50 ≤ k) → (if k = 14 + 6 * i + j then x else L k) = L k := fun k hk => if_neg (by omega)
  refine ⟨⟨(o 0 (by omega)).trans a1, (o 1 (by omega)).trans a2, fun a b ha hb => ?_⟩, ⟨(o 2 (by omega)).trans b1, fun j hj => (o _ (by omega)).trans (b2 j hj)⟩, ?_, ⟨by show (if (8 : Nat) = _ then x else L 8).toInt32 = _; rw [o 8 (by omega)]; exact d1, by show (if (9 : Nat) = _ then x else L 9).toInt32 = _; rw [o 9 (by omega)]; exact d2⟩, ?_, (o 13 (by omega)).trans f1, fun j hj => (o _ (by omega)).trans (g1 j hj), fun k j hk hj => (o _ (by omega)).trans (i1 k j hk hj)⟩
  · show (if 14 + 6 * a + b = 14 + 6 * i + j then x else L (14 + 6 * a + b)) = up2 f i j x a b
    unfold up2
    by_cases e : a = i ∧ b = j
    · rw [if_pos e, if_pos (by omega)]
    · rw [if_neg e, if_neg (by omega)]; exact a3 a b ha hb
  · rcases c1 with ⟨y, z⟩ | ⟨y, z, t⟩
    · exact Or.inl ⟨y, (o 3 (by omega)).trans z⟩
    · exact Or.inr ⟨y, (o 3 (by omega)).trans z, fun j hj => (o _ (by omega)).trans (t j hj)⟩
  · rcases e1 with ⟨y, z⟩ | ⟨y, z, t, u⟩
    · exact Or.inl ⟨y, (o 10 (by omega)).trans z⟩
    · exact Or.inr ⟨y, (o 10 (by omega)).trans z, (o 11 (by omega)).trans t, (o 12 (by omega)).trans u⟩
theorem nL_fc {L : Nat → Int64} {h w rh pn : Nat} {f g v rl : am_Gr} {I : Nat → Int32} (hL : nL L h w f v rh rl pn I) (e : ∀ i j, i < 6 → j < 6 → f i j = g i j) : nL L h w g v rh rl pn I := by
  obtain ⟨⟨a1, a2, a3⟩, r⟩ := hL
  exact ⟨⟨a1, a2, fun i j hi hj => (a3 i j hi hj).trans (e i j hi hj)⟩, r⟩
theorem nL_ex {τ : am_G} {h w rh pn i j a b : Nat} {f v rl : am_Gr} {I : Nat → Int32} (hL : nL (τ.2.1 121) h w f v rh rl pn I) (hi : i < 6) (hj : j < 6) (ha : a < 6) (hb : b < 6) : nL ((sL (sL τ 121 (14 + 6 * i + j) (τ.2.1 121 (14 + 6 * a + b))) 121 (14 + 6 * a + b) (τ.2.1 121 (14 + 6 * i + j))).2.1 121) h w (up2 (up2 f i j (f a b)) a b (f i j)) v rh rl pn I := by
  rw [nL_sL, nL_sL, hL.1.2.2 i j hi hj, hL.1.2.2 a b ha hb]
  exact nL_put6 (nL_put6 hL hi hj) ha hb
theorem okV_f {h w rh pn : Nat} {f g v rl : am_Gr} {I : Nat → Int32} (hk : okV h w f v rh rl pn I) (h1 : fSm g h w) (h2 : ∀ i j, i < 6 → j < 6 → (h ≤ i ∨ w ≤ j) → g i j = 0) : okV h w g v rh rl pn I := ⟨hk.1, h1, h2, hk.2.2.2⟩
theorem exR_ok {h w rh pn a b : Nat} {f v rl : am_Gr} {I : Nat → Int32} (hk : okV h w f v rh rl pn I) (ha : a < h) (hb : b < h) : okV h w (exR f a b w) v rh rl pn I := by
  refine okV_f hk (fun i j hi hj => ?_) (fun i j hi hj ho => ?_)
  · unfold exR
    rw [if_pos hj]
    split
    · exact hk.2.1 a j ha hj
    · split
      · exact hk.2.1 b j hb hj
      · exact hk.2.1 i j hi hj
  · unfold exR
    split
    · rw [if_neg (by omega), if_neg (by omega)]; exact hk.2.2.1 i j hi hj ho
    · exact hk.2.2.1 i j hi hj ho
theorem exC_ok {h w rh pn a b : Nat} {f v rl : am_Gr} {I : Nat → Int32} (hk : okV h w f v rh rl pn I) (ha : a < w) (hb : b < w) : okV h w (exC f a b h) v rh rl pn I := by
  refine okV_f hk (fun i j hi hj => ?_) (fun i j hi hj ho => ?_)
  · unfold exC
    rw [if_pos hi]
    split
    · exact hk.2.1 i a hi ha
    · split
      · exact hk.2.1 i b hi hb
      · exact hk.2.1 i j hi hj
  · unfold exC
    split
    · rw [if_neg (by omega), if_neg (by omega)]; exact hk.2.2.1 i j hi hj ho
    · exact hk.2.2.1 i j hi hj ho
theorem exR_6 {h w rh pn a b : Nat} {f v rl : am_Gr} {I : Nat → Int32} (hk : okV h w f v rh rl pn I) (ha : a < 6) (hb : b < 6) : ∀ i j, i < 6 → j < 6 → exR f a b 6 i j = exR f a b w i j := fun i j hi hj => by
  unfold exR
  rw [if_pos hj]
  by_cases c : j < w
  · rw [if_pos c]
  · rw [if_neg c, hk.2.2.1 a j ha hj (by omega), hk.2.2.1 b j hb hj (by omega), hk.2.2.1 i j hi hj (by omega)]
    split
    · rfl
    · split <;> rfl
theorem exC_6 {h w rh pn a b : Nat} {f v rl : am_Gr} {I : Nat → Int32} (hk : okV h w f v rh rl pn I) (ha : a < 6) (hb : b < 6) : ∀ i j, i < 6 → j < 6 → exC f a b 6 i j = exC f a b h i j := fun i j hi hj => by
  unfold exC
  rw [if_pos hi]
  by_cases c : i < h
  · rw [if_pos c]
  · rw [if_neg c, hk.2.2.1 i a hi ha (by omega), hk.2.2.1 i b hi hb (by omega), hk.2.2.1 i j hi hj (by omega)]
    split
    · rfl
    · split <;> rfl
theorem exR_now {f : am_Gr} {a b n : Nat} {k : Nat} : exR f a b n k n = f k n := by unfold exR; rw [if_neg (by omega)]
theorem exC_now {f : am_Gr} {a b n : Nat} {k : Nat} : exC f a b n n k = f n k := by unfold exC; rw [if_neg (by omega)]
theorem adM_now {f : am_Gr} {a b n k : Nat} {F : Int32} : adM f a b F n k n = f k n := by unfold adM; rw [if_neg (by omega)]
theorem neg_i {y : Int64} (h : y.toInt.natAbs ≤ 20) : (-(y.toInt32)).toInt64 = y + (-2 : Int32).toInt64 * y ∧ ((-(y.toInt32)).toInt64).toInt.natAbs ≤ 20 := by
  have e := sm3264 h
  have e1 : y.toInt32.toInt = y.toInt := by rw [← Int32.toInt_toInt64, e]
  have e2 : (-(y.toInt32)).toInt = - y.toInt := by rw [Int32.toInt_neg, e1]; exact Int.bmod_eq_of_le (by omega) (by omega)
  refine ⟨?_, by rw [Int32.toInt_toInt64, e2]; omega⟩
  rw [← Int64.toInt_inj, Int32.toInt_toInt64, e2, Int64.toInt_add, Int64.toInt_mul, Int32.toInt_toInt64, show ((-2 : Int32).toInt) = -2 from rfl]
  rw [Int.bmod_eq_of_le (n := -2 * y.toInt) (by omega) (by omega), Int.bmod_eq_of_le (by omega) (by omega)]
  omega
theorem mul_i {x : Int32} {y : Int64} (hx : -9 ≤ x ∧ x ≤ 9) (h : y.toInt.natAbs ≤ 20) : (x * y.toInt32).toInt64 = x.toInt64 * y ∧ (x * y.toInt32).toInt.natAbs ≤ 180 := by
  have e := sm3264 h
  have e1 : y.toInt32.toInt = y.toInt := by rw [← Int32.toInt_toInt64, e]
  rw [Int32.le_iff_toInt_le, Int32.le_iff_toInt_le, show ((-9 : Int32).toInt) = -9 from rfl, show ((9 : Int32).toInt) = 9 from rfl] at hx
  have hb : (x.toInt * y.toInt).natAbs ≤ 180 := by
    rw [Int.natAbs_mul]
    exact Nat.le_trans (Nat.mul_le_mul (show x.toInt.natAbs ≤ 9 by omega) h) (by decide)
  have e2 : (x * y.toInt32).toInt = x.toInt * y.toInt := by
    rw [Int32.toInt_mul, e1]
    generalize x.toInt * y.toInt = z at *
    exact Int.bmod_eq_of_le (by omega) (by omega)
  refine ⟨?_, by rw [e2]; exact hb⟩
  rw [← Int64.toInt_inj, Int32.toInt_toInt64, e2, Int64.toInt_mul, Int32.toInt_toInt64]
  generalize x.toInt * y.toInt = z at *
  exact (Int.bmod_eq_of_le (by omega) (by omega)).symm
set_option maxRecDepth 100000 in
set_option maxHeartbeats 4000000 in
theorem sp_exchange {σ : am_G} {a b : Nat} (ha : a < 98) (hb : b < 98) : am_Call am_TX 0 0 c_M_exchange [.ref 120, .int (nI a), .int (nI b)] (mm σ) (am_Ok none (fun σ1 => σ1 = sL (sL σ 121 a (σ.2.1 121 b)) 121 b (σ.2.1 121 a))) := by
  refine ⟨mf_M_exchange, Nat.le_of_ble_eq_true rfl, ?_⟩
  refine R_aload_n rfl rfl ?_
  refine R_gP (x := 121) rfl rfl fp_11_1 rfl ?_
  refine R_iload_n rfl rfl ?_
  refine R_xL (j := a) rfl rfl rfl (by omega) (by decide) ?_
  refine R_lstore_n rfl (by decide) ?_
  refine R_aload_n rfl rfl ?_
  refine R_gP (x := 121) rfl rfl fp_11_1 rfl ?_
  refine R_iload_n rfl rfl ?_
  refine R_aload_n rfl rfl ?_
  refine R_gP (x := 121) rfl rfl fp_11_1 rfl ?_
  refine R_iload_n rfl rfl ?_
  refine R_xL (j := b) rfl rfl rfl (by omega) (by decide) ?_
  refine R_wL (j := a) rfl rfl rfl (by omega) (by decide) ?_
  refine R_aload_n rfl rfl ?_
  refine R_gP (x := 121) rfl rfl fp_11_1 rfl ?_
  refine R_iload_n rfl rfl ?_
  refine R_lload_n rfl rfl ?_
  refine R_wL (j := b) rfl rfl rfl (by omega) (by decide) ?_
  exact T_return rfl rfl (am_okv0 rfl)
set_option maxRecDepth 100000 in
set_option maxHeartbeats 4000000 in
theorem ch_setEntry {σ : am_G} {h w rh pn : Nat} {f v rl : am_Gr} {I : Nat → Int32} {i : Nat} {j : Nat} {x : Int32} {d k0 : Nat} (hn : nV σ h w f v rh rl pn I) (i_h : i < h) (j_w : j < w) (hrg : -20 ≤ x ∧ x ≤ 20) (t0 : σ.1 120 0 = 0) (hd : 15 ≤ d) : am_R am_TX d k0 c_M_setEntry 45 [some (.ref 120), some (.int (nI i)), some (.int (nI j)), some (.int x), none] [] (mm σ) (am_Ok (some (.int (f i j).toInt32)) (fun σ1 => smP pN σ σ1 ∧ σ1.1 120 0 = 0 ∧ nVD σ1 (h, w, (up2 f i j x.toInt64), v, rh, rl, pn, I))) := by
  have hv := hn.toV
  have hs := hn.2.1.2.1
  have hh1 := hv.1.1.1
  have hh6 := hv.1.1.2
  have hw1 := hv.1.2.1
  have hw6 := hv.1.2.2
  have hp6 := hn.2.1.2.2.2.1.1
  have hr6 := hn.2.1.2.2.2.2.2.2.1
  have hs7 := lw_lt hh6
  have ws7 := lw_lt hw6
  refine R_aload_n rfl rfl ?_
  refine R_iload_n rfl rfl ?_
  refine R_iload_n rfl rfl ?_
  refine R_cV (as := [.int (nI i), .int (nI j)]) rfl rfl iv_M_at (sp_at (i := i) (j := j) hv (by omega) (by omega)) (by omega) rfl rfl rfl (by decide) rfl rfl (Nat.le_of_ble_eq_true rfl) (fun _ q => ?_)
  obtain rfl := q.symm
  refine R_istore rfl (by decide) ?_
  refine R_aload_n rfl rfl ?_
  refine R_gP (x := 121) rfl rfl fp_11_1 rfl ?_
  refine R_bipush (v := 14) rfl (by decide) ?_
  refine R_bipush (v := 6) rfl (by decide) ?_
  refine R_iload_n rfl rfl ?_
  refine R_imulN (x := 6) (y := i) rfl ?_
  refine R_iaddN (x := 14) (y := (6 * i)) rfl ?_
  refine R_iload_n rfl rfl ?_
  refine R_iaddN (x := (14 + (6 * i))) (y := j) rfl ?_
  refine R_iload_n rfl rfl ?_
  refine R_i2l rfl ?_
  refine R_wL (j := ((14 + (6 * i)) + j)) rfl rfl rfl (by omega) (by decide) ?_
  refine R_iload rfl rfl ?_
  exact T_ireturn rfl rfl (am_oki rfl ⟨smP_sL (p := pN) (Or.inr (Or.inl rfl)), t0, nV_put hn i_h j_w (r32 (k := 20) hrg rfl rfl)⟩)
set_option maxRecDepth 100000 in
set_option maxHeartbeats 4000000 in
theorem sp_M_setEntry {σ : am_G} {h w rh pn : Nat} {f v rl : am_Gr} {I : Nat → Int32} {n : Nat} {Hs : Nat → am_Sn} {i : Nat} {j : Nat} {x : Int32} (hn : nV σ h w f v rh rl pn I) (hH : mH σ n Hs) (i_h : i < h) (j_w : j < w) (hrg : -20 ≤ x ∧ x ≤ 20) : am_Call am_TX 16 0 c_M_setEntry [.ref 120, .int (nI i), .int (nI j), .int x] (mm σ) (am_Ok (some (.int (f i j).toInt32)) (fun σ1 => smP pC σ σ1 ∧ σ1.1 120 0 = 0 ∧ nVD σ1 (h, w, (up2 f i j x.toInt64), v, rh, rl, pn, I) ∧ mH σ1 (nxZ n) (hC (h, w, f, v, rh, rl, pn, I) Hs))) := by
  have hv := hn.toV
  have hs := hn.2.1.2.1
  have hh1 := hv.1.1.1
  have hh6 := hv.1.1.2
  have hw1 := hv.1.2.1
  have hw6 := hv.1.2.2
  have hp6 := hn.2.1.2.2.2.1.1
  have hr6 := hn.2.1.2.2.2.2.2.2.1
  have hs7 := lw_lt hh6
  have ws7 := lw_lt hw6
  refine ⟨mf_M_setEntry, Nat.le_of_ble_eq_true rfl, ?_⟩
  refine R_aload_n rfl rfl ?_
  refine R_aload_n rfl rfl ?_
  refine R_iload_n rfl rfl ?_
  refine R_cV (as := [.int (nI i)]) rfl rfl iv_M_isRow (isRow_1 (n := i) hv (by omega)) (by omega) rfl rfl rfl (by decide) rfl rfl (Nat.le_of_ble_eq_true rfl) (fun _ q => ?_)
  obtain rfl := q.symm
  refine R_if_eq rfl rfl (fun z => absurd z (by decide)) (fun _ => ?_)
  refine R_aload_n rfl rfl ?_
  refine R_iload_n rfl rfl ?_
  refine R_cV (as := [.int (nI j)]) rfl rfl iv_M_isColumn (isColumn_1 (n := j) hv (by omega)) (by omega) rfl rfl rfl (by decide) rfl rfl (Nat.le_of_ble_eq_true rfl) (fun _ q => ?_)
  obtain rfl := q.symm
  refine R_if_eq rfl rfl (fun z => absurd z (by decide)) (fun _ => ?_)
  refine R_iconst (v := 1) rfl rfl ?_
  refine R_goto rfl rfl ?_
  refine R_iload_n rfl rfl ?_
  refine R_i2l rfl ?_
  refine R_ldc2 (v := -20) rfl (by decide) ?_
  refine R_ldc2 (v := 20) rfl (by decide) ?_
  refine R_cS (as := [.long x.toInt64, .long (-20), .long 20]) rfl rfl iv_M_in (in_1 (x := x) (a := -20) (b := 20) hrg rfl rfl) (by omega) rfl rfl rfl rfl (Nat.le_of_ble_eq_true rfl) (fun _ q => ?_)
  obtain rfl := q.symm
  refine R_cV (as := [.int 1, .int 1]) rfl rfl iv_M_passes2 (pass2_11) (by omega) rfl rfl rfl (by decide) rfl rfl (Nat.le_of_ble_eq_true rfl) (fun _ q => ?_)
  obtain rfl := q.symm
  refine R_if_ne rfl rfl (fun _ => ?_) (fun z => absurd z (by decide))
  refine R_aload_n rfl rfl ?_
  refine R_cV (as := []) rfl rfl iv_M_remember (sp_remember (hn.fr (smP_sI (p := pQ) (k := 120) (j := 0) (x := 0) (by unfold pQ; omega)) (fun b => by unfold pQ; omega) (by unfold pQ; omega)) (hH.fr (smP_sI (p := pQ) (k := 120) (j := 0) (x := 0) (by unfold pQ; omega)) (by unfold pQ; omega) (fun b => by unfold pQ; omega))) (by omega) rfl rfl rfl (by decide) rfl rfl (Nat.le_of_ble_eq_true rfl) (fun ρ hρ => ?_)
  obtain ⟨hρ, hρH⟩ := hρ
  exact ((ch_setEntry (pR_f hρ (hn.fr (smP_sI (p := pQ) (k := 120) (j := 0) (x := 0) (by unfold pQ; omega)) (fun b => by unfold pQ; omega) (by unfold pQ; omega))) i_h j_w hrg ((hρ.i (by unfold pR; omega)).trans sI_s) (by omega)).mono (am_Ok.mono (fun τ e => ⟨(ch_end (smP_sI (p := pQ) (k := 120) (j := 0) (x := 0) (by unfold pQ; omega)) hρ hρH e.1).1, e.2.1, e.2.2, (ch_end (smP_sI (p := pQ) (k := 120) (j := 0) (x := 0) (by unfold pQ; omega)) hρ hρH e.1).2⟩))).weak ⟨rfl, rfl, rfl, rfl, trivial⟩
set_option maxRecDepth 100000 in
set_option maxHeartbeats 4000000 in
theorem sp_M_setEntry_x0x {σ : am_G} {h w rh pn : Nat} {f v rl : am_Gr} {I : Nat → Int32} {j_ : Int32} {x_ : Int32} {x : Int32} (hn : nV σ h w f v rh rl pn I) (hb : ¬ (0 ≤ x ∧ x < nI h)) : am_Call am_TX 14 0 c_M_setEntry [.ref 120, .int x, .int j_, .int x_] (mm σ) (am_Ok (some (.int 0)) (fun σ1 => smP pQ σ σ1 ∧ σ1.1 120 0 = 1)) := by
  have hv := hn.toV
  have hs := hn.2.1.2.1
  have hh1 := hv.1.1.1
  have hh6 := hv.1.1.2
  have hw1 := hv.1.2.1
  have hw6 := hv.1.2.2
  have hp6 := hn.2.1.2.2.2.1.1
  have hr6 := hn.2.1.2.2.2.2.2.2.1
  have hs7 := lw_lt hh6
  have ws7 := lw_lt hw6
  refine ⟨mf_M_setEntry, Nat.le_of_ble_eq_true rfl, ?_⟩
  refine R_aload_n rfl rfl ?_
  refine R_aload_n rfl rfl ?_
  refine R_iload_n rfl rfl ?_
  refine R_cV (as := [.int x]) rfl rfl iv_M_isRow (isRow_0 hv hb) (by omega) rfl rfl rfl (by decide) rfl rfl (Nat.le_of_ble_eq_true rfl) (fun _ q => ?_)
  obtain rfl := q.symm
  refine R_if_eq rfl rfl (fun _ => ?_) (fun z => absurd z (by decide))
  refine R_iconst (v := 0) rfl rfl ?_
  refine R_iload_n rfl rfl ?_
  refine R_i2l rfl ?_
  refine R_ldc2 (v := -20) rfl (by decide) ?_
  refine R_ldc2 (v := 20) rfl (by decide) ?_
  refine R_cS (as := [.long x_.toInt64, .long (-20), .long 20]) rfl rfl iv_M_in (sp_in (v := x_.toInt64) (lo := (-20)) (hi := 20)) (by omega) rfl rfl rfl rfl (Nat.le_of_ble_eq_true rfl) (fun _ q => ?_)
  obtain rfl := q.symm
  refine R_cV (as := [.int 0, .int (zP ((-20) ≤ x_.toInt64 ∧ x_.toInt64 ≤ 20))]) rfl rfl iv_M_passes2 (pass2_0u (P := (-20) ≤ x_.toInt64 ∧ x_.toInt64 ≤ 20)) (by omega) rfl rfl rfl (by decide) rfl rfl (Nat.le_of_ble_eq_true rfl) (fun _ q => ?_)
  obtain rfl := q.symm
  refine R_if_ne rfl rfl (fun z => absurd z (by decide)) (fun _ => ?_)
  refine R_iconst (v := 0) rfl rfl ?_
  exact T_ireturn rfl rfl (am_oki rfl ⟨(smP_sI (p := pQ) (k := 120) (j := 0) (x := 1) (by unfold pQ; omega)), sI_s⟩)
set_option maxRecDepth 100000 in
set_option maxHeartbeats 4000000 in
theorem sp_M_setEntry_x0y {σ : am_G} {h w rh pn : Nat} {f v rl : am_Gr} {I : Nat → Int32} {i : Nat} {x_ : Int32} {x : Int32} (hn : nV σ h w f v rh rl pn I) (i_h : i < h) (hb : ¬ (0 ≤ x ∧ x < nI w)) : am_Call am_TX 14 0 c_M_setEntry [.ref 120, .int (nI i), .int x, .int x_] (mm σ) (am_Ok (some (.int 0)) (fun σ1 => smP pQ σ σ1 ∧ σ1.1 120 0 = 1)) := by
  have hv := hn.toV
  have hs := hn.2.1.2.1
  have hh1 := hv.1.1.1
  have hh6 := hv.1.1.2
  have hw1 := hv.1.2.1
  have hw6 := hv.1.2.2
  have hp6 := hn.2.1.2.2.2.1.1
  have hr6 := hn.2.1.2.2.2.2.2.2.1
  have hs7 := lw_lt hh6
  have ws7 := lw_lt hw6
  refine ⟨mf_M_setEntry, Nat.le_of_ble_eq_true rfl, ?_⟩
  refine R_aload_n rfl rfl ?_
  refine R_aload_n rfl rfl ?_
  refine R_iload_n rfl rfl ?_
  refine R_cV (as := [.int (nI i)]) rfl rfl iv_M_isRow (isRow_1 (n := i) hv (by omega)) (by omega) rfl rfl rfl (by decide) rfl rfl (Nat.le_of_ble_eq_true rfl) (fun _ q => ?_)
  obtain rfl := q.symm
  refine R_if_eq rfl rfl (fun z => absurd z (by decide)) (fun _ => ?_)
  refine R_aload_n rfl rfl ?_
  refine R_iload_n rfl rfl ?_
  refine R_cV (as := [.int x]) rfl rfl iv_M_isColumn (isColumn_0 hv hb) (by omega) rfl rfl rfl (by decide) rfl rfl (Nat.le_of_ble_eq_true rfl) (fun _ q => ?_)
  obtain rfl := q.symm
  refine R_if_eq rfl rfl (fun _ => ?_) (fun z => absurd z (by decide))
  refine R_iconst (v := 0) rfl rfl ?_
  refine R_iload_n rfl rfl ?_
  refine R_i2l rfl ?_
  refine R_ldc2 (v := -20) rfl (by decide) ?_
  refine R_ldc2 (v := 20) rfl (by decide) ?_
  refine R_cS (as := [.long x_.toInt64, .long (-20), .long 20]) rfl rfl iv_M_in (sp_in (v := x_.toInt64) (lo := (-20)) (hi := 20)) (by omega) rfl rfl rfl rfl (Nat.le_of_ble_eq_true rfl) (fun _ q => ?_)
  obtain rfl := q.symm
  refine R_cV (as := [.int 0, .int (zP ((-20) ≤ x_.toInt64 ∧ x_.toInt64 ≤ 20))]) rfl rfl iv_M_passes2 (pass2_0u (P := (-20) ≤ x_.toInt64 ∧ x_.toInt64 ≤ 20)) (by omega) rfl rfl rfl (by decide) rfl rfl (Nat.le_of_ble_eq_true rfl) (fun _ q => ?_)
  obtain rfl := q.symm
  refine R_if_ne rfl rfl (fun z => absurd z (by decide)) (fun _ => ?_)
  refine R_iconst (v := 0) rfl rfl ?_
  exact T_ireturn rfl rfl (am_oki rfl ⟨(smP_sI (p := pQ) (k := 120) (j := 0) (x := 1) (by unfold pQ; omega)), sI_s⟩)
set_option maxRecDepth 100000 in
set_option maxHeartbeats 4000000 in
theorem sp_M_setEntry_x1 {σ : am_G} {h w rh pn : Nat} {f v rl : am_Gr} {I : Nat → Int32} {i : Nat} {j : Nat} {x : Int32} (hn : nV σ h w f v rh rl pn I) (i_h : i < h) (j_w : j < w) (hb : ¬ (-20 ≤ x ∧ x ≤ 20)) : am_Call am_TX 14 0 c_M_setEntry [.ref 120, .int (nI i), .int (nI j), .int x] (mm σ) (am_Ok (some (.int 0)) (fun σ1 => smP pQ σ σ1 ∧ σ1.1 120 0 = 2)) := by
  have hv := hn.toV
  have hs := hn.2.1.2.1
  have hh1 := hv.1.1.1
  have hh6 := hv.1.1.2
  have hw1 := hv.1.2.1
  have hw6 := hv.1.2.2
  have hp6 := hn.2.1.2.2.2.1.1
  have hr6 := hn.2.1.2.2.2.2.2.2.1
  have hs7 := lw_lt hh6
  have ws7 := lw_lt hw6
  refine ⟨mf_M_setEntry, Nat.le_of_ble_eq_true rfl, ?_⟩
  refine R_aload_n rfl rfl ?_
  refine R_aload_n rfl rfl ?_
  refine R_iload_n rfl rfl ?_
  refine R_cV (as := [.int (nI i)]) rfl rfl iv_M_isRow (isRow_1 (n := i) hv (by omega)) (by omega) rfl rfl rfl (by decide) rfl rfl (Nat.le_of_ble_eq_true rfl) (fun _ q => ?_)
  obtain rfl := q.symm
  refine R_if_eq rfl rfl (fun z => absurd z (by decide)) (fun _ => ?_)
  refine R_aload_n rfl rfl ?_
  refine R_iload_n rfl rfl ?_
  refine R_cV (as := [.int (nI j)]) rfl rfl iv_M_isColumn (isColumn_1 (n := j) hv (by omega)) (by omega) rfl rfl rfl (by decide) rfl rfl (Nat.le_of_ble_eq_true rfl) (fun _ q => ?_)
  obtain rfl := q.symm
  refine R_if_eq rfl rfl (fun z => absurd z (by decide)) (fun _ => ?_)
  refine R_iconst (v := 1) rfl rfl ?_
  refine R_goto rfl rfl ?_
  refine R_iload_n rfl rfl ?_
  refine R_i2l rfl ?_
  refine R_ldc2 (v := -20) rfl (by decide) ?_
  refine R_ldc2 (v := 20) rfl (by decide) ?_
  refine R_cS (as := [.long x.toInt64, .long (-20), .long 20]) rfl rfl iv_M_in (in_0 (x := x) (a := -20) (b := 20) hb rfl rfl) (by omega) rfl rfl rfl rfl (Nat.le_of_ble_eq_true rfl) (fun _ q => ?_)
  obtain rfl := q.symm
  refine R_cV (as := [.int 1, .int 0]) rfl rfl iv_M_passes2 (pass2_10) (by omega) rfl rfl rfl (by decide) rfl rfl (Nat.le_of_ble_eq_true rfl) (fun _ q => ?_)
  obtain rfl := q.symm
  refine R_if_ne rfl rfl (fun z => absurd z (by decide)) (fun _ => ?_)
  refine R_iconst (v := 0) rfl rfl ?_
  exact T_ireturn rfl rfl (am_oki rfl ⟨(smP_sI (p := pQ) (k := 120) (j := 0) (x := 2) (by unfold pQ; omega)), sI_s⟩)
theorem nV_vput {σ : am_G} {h w rh pn r : Nat} {f v rl : am_Gr} {I : Nat → Int32} {x : Int32} (hn : nV σ h w f v rh rl pn I) (hr : r < h) : nV (sL σ 121 (56 + r) x.toInt64) h w f (up2 v 0 r x.toInt64) rh rl pn I := by
  obtain ⟨hL, ⟨k1, k2, k3, k4, k5, k6, k7, k8, k9⟩, hq⟩ := hn
  have h6 := k1.1.2
  refine ⟨?_, ⟨k1, k2, k3, k4, k5, k6, k7, fun j hj => ?_, k9⟩, hq⟩
  · rw [nL_sL]
    obtain ⟨⟨a1, a2, a3⟩, ⟨b1, b2⟩, c1, ⟨d1, d2⟩, e1, f1, g1, i1⟩ := hL
    have o : ∀ k, ¬ k = 56 + r → (if k = 56 + r then x.toInt64 else σ.2.1 121 k) = σ.2.1 121 k := fun k hk => if_neg hk
    have p6 := k4.1
    refine ⟨⟨(o 0 (by omega)).trans a1, (o 1 (by omega)).trans a2, fun a b ha hb => (o _ (by omega)).trans (a3 a b ha hb)⟩, ⟨(o 2 (by omega)).trans b1, fun j hj => (o _ (by omega)).trans (b2 j hj)⟩, ?_, ⟨by show (if (8 : Nat) = _ then _ else σ.2.1 121 8).toInt32 = _; rw [o 8 (by omega)]; exact d1, by show (if (9 : Nat) = _ then _ else σ.2.1 121 9).toInt32 = _; rw [o 9 (by omega)]; exact d2⟩, ?_, (o 13 (by omega)).trans f1, fun j hj => ?_, fun k j hk hj => (o _ (by omega)).trans (i1 k j hk hj)⟩
    · rcases c1 with ⟨y, z⟩ | ⟨y, z, t⟩
      · exact Or.inl ⟨y, (o 3 (by omega)).trans z⟩
      · exact Or.inr ⟨y, (o 3 (by omega)).trans z, fun j hj => (o _ (by omega)).trans (t j hj)⟩
    · rcases e1 with ⟨y, z⟩ | ⟨y, z, t, u⟩
      · exact Or.inl ⟨y, (o 10 (by omega)).trans z⟩
      · exact Or.inr ⟨y, (o 10 (by omega)).trans z, (o 11 (by omega)).trans t, (o 12 (by omega)).trans u⟩
    · show (if 56 + j = 56 + r then x.toInt64 else σ.2.1 121 (56 + j)) = up2 v 0 r x.toInt64 0 j
      unfold up2
      by_cases e : j = r
      · rw [if_pos (by omega), if_pos ⟨rfl, e⟩]
      · rw [if_neg (by omega), if_neg (fun z => e z.2)]; exact g1 j hj
  · show up2 v 0 r x.toInt64 0 j = (up2 v 0 r x.toInt64 0 j).toInt32.toInt64
    unfold up2
    by_cases e : j = r
    · rw [if_pos ⟨rfl, e⟩, i3264]
    · rw [if_neg (fun z => e z.2)]; exact k8 j hj
set_option maxRecDepth 100000 in
set_option maxHeartbeats 4000000 in
theorem ch_setVector {σ : am_G} {h w rh pn : Nat} {f v rl : am_Gr} {I : Nat → Int32} {r : Nat} {x : Int32} {d k0 : Nat} (hn : nV σ h w f v rh rl pn I) (r_h : r < h) (hrg : -9999 ≤ x ∧ x ≤ 9999) (t0 : σ.1 120 0 = 0) (hd : 15 ≤ d) : am_R am_TX d k0 c_M_setVector 29 [some (.ref 120), some (.int (nI r)), some (.int x), none] [] (mm σ) (am_Ok (some (.int (v 0 r).toInt32)) (fun σ1 => smP pN σ σ1 ∧ σ1.1 120 0 = 0 ∧ nVD σ1 (h, w, f, (up2 v 0 r x.toInt64), rh, rl, pn, I))) := by
  have hv := hn.toV
  have hs := hn.2.1.2.1
  have hh1 := hv.1.1.1
  have hh6 := hv.1.1.2
  have hw1 := hv.1.2.1
  have hw6 := hv.1.2.2
  have hp6 := hn.2.1.2.2.2.1.1
  have hr6 := hn.2.1.2.2.2.2.2.2.1
  have hs7 := lw_lt hh6
  have ws7 := lw_lt hw6
  refine R_aload_n rfl rfl ?_
  refine R_bipush (v := 56) rfl (by decide) ?_
  refine R_iload_n rfl rfl ?_
  refine R_iaddN (x := 56) (y := r) rfl ?_
  refine R_cV (as := [.int (nI (56 + r))]) rfl rfl iv_M_get (mget_n hn (j := (56 + r)) (by omega) (hn.1.2.2.2.2.2.2.1 _ (by omega))) (by omega) rfl rfl rfl (by decide) rfl rfl (Nat.le_of_ble_eq_true rfl) (fun _ q => ?_)
  obtain rfl := q.symm
  refine R_istore_n rfl (by decide) ?_
  refine R_aload_n rfl rfl ?_
  refine R_gP (x := 121) rfl rfl fp_11_1 rfl ?_
  refine R_bipush (v := 56) rfl (by decide) ?_
  refine R_iload_n rfl rfl ?_
  refine R_iaddN (x := 56) (y := r) rfl ?_
  refine R_iload_n rfl rfl ?_
  refine R_i2l rfl ?_
  refine R_wL (j := (56 + r)) rfl rfl rfl (by omega) (by decide) ?_
  refine R_iload_n rfl rfl ?_
  exact T_ireturn rfl rfl (am_oki rfl ⟨smP_sL (p := pN) (Or.inr (Or.inl rfl)), t0, nV_vput hn r_h⟩)
set_option maxRecDepth 100000 in
set_option maxHeartbeats 4000000 in
theorem sp_M_setVector {σ : am_G} {h w rh pn : Nat} {f v rl : am_Gr} {I : Nat → Int32} {n : Nat} {Hs : Nat → am_Sn} {r : Nat} {x : Int32} (hn : nV σ h w f v rh rl pn I) (hH : mH σ n Hs) (r_h : r < h) (hrg : -9999 ≤ x ∧ x ≤ 9999) : am_Call am_TX 16 0 c_M_setVector [.ref 120, .int (nI r), .int x] (mm σ) (am_Ok (some (.int (v 0 r).toInt32)) (fun σ1 => smP pC σ σ1 ∧ σ1.1 120 0 = 0 ∧ nVD σ1 (h, w, f, (up2 v 0 r x.toInt64), rh, rl, pn, I) ∧ mH σ1 (nxZ n) (hC (h, w, f, v, rh, rl, pn, I) Hs))) := by
  have hv := hn.toV
  have hs := hn.2.1.2.1
  have hh1 := hv.1.1.1
  have hh6 := hv.1.1.2
  have hw1 := hv.1.2.1
  have hw6 := hv.1.2.2
  have hp6 := hn.2.1.2.2.2.1.1
  have hr6 := hn.2.1.2.2.2.2.2.2.1
  have hs7 := lw_lt hh6
  have ws7 := lw_lt hw6
  refine ⟨mf_M_setVector, Nat.le_of_ble_eq_true rfl, ?_⟩
  refine R_aload_n rfl rfl ?_
  refine R_aload_n rfl rfl ?_
  refine R_iload_n rfl rfl ?_
  refine R_cV (as := [.int (nI r)]) rfl rfl iv_M_isRow (isRow_1 (n := r) hv (by omega)) (by omega) rfl rfl rfl (by decide) rfl rfl (Nat.le_of_ble_eq_true rfl) (fun _ q => ?_)
  obtain rfl := q.symm
  refine R_iload_n rfl rfl ?_
  refine R_i2l rfl ?_
  refine R_ldc2 (v := -9999) rfl (by decide) ?_
  refine R_ldc2 (v := 9999) rfl (by decide) ?_
  refine R_cS (as := [.long x.toInt64, .long (-9999), .long 9999]) rfl rfl iv_M_in (in_1 (x := x) (a := -9999) (b := 9999) hrg rfl rfl) (by omega) rfl rfl rfl rfl (Nat.le_of_ble_eq_true rfl) (fun _ q => ?_)
  obtain rfl := q.symm
  refine R_cV (as := [.int 1, .int 1]) rfl rfl iv_M_passes2 (pass2_11) (by omega) rfl rfl rfl (by decide) rfl rfl (Nat.le_of_ble_eq_true rfl) (fun _ q => ?_)
  obtain rfl := q.symm
  refine R_if_ne rfl rfl (fun _ => ?_) (fun z => absurd z (by decide))
  refine R_aload_n rfl rfl ?_
  refine R_cV (as := []) rfl rfl iv_M_remember (sp_remember (hn.fr (smP_sI (p := pQ) (k := 120) (j := 0) (x := 0) (by unfold pQ; omega)) (fun b => by unfold pQ; omega) (by unfold pQ; omega)) (hH.fr (smP_sI (p := pQ) (k := 120) (j := 0) (x := 0) (by unfold pQ; omega)) (by unfold pQ; omega) (fun b => by unfold pQ; omega))) (by omega) rfl rfl rfl (by decide) rfl rfl (Nat.le_of_ble_eq_true rfl) (fun ρ hρ => ?_)
  obtain ⟨hρ, hρH⟩ := hρ
  exact ((ch_setVector (pR_f hρ (hn.fr (smP_sI (p := pQ) (k := 120) (j := 0) (x := 0) (by unfold pQ; omega)) (fun b => by unfold pQ; omega) (by unfold pQ; omega))) r_h hrg ((hρ.i (by unfold pR; omega)).trans sI_s) (by omega)).mono (am_Ok.mono (fun τ e => ⟨(ch_end (smP_sI (p := pQ) (k := 120) (j := 0) (x := 0) (by unfold pQ; omega)) hρ hρH e.1).1, e.2.1, e.2.2, (ch_end (smP_sI (p := pQ) (k := 120) (j := 0) (x := 0) (by unfold pQ; omega)) hρ hρH e.1).2⟩))).weak ⟨rfl, rfl, rfl, trivial⟩
set_option maxRecDepth 100000 in
set_option maxHeartbeats 4000000 in
theorem sp_M_setVector_x0 {σ : am_G} {h w rh pn : Nat} {f v rl : am_Gr} {I : Nat → Int32} {x_ : Int32} {x : Int32} (hn : nV σ h w f v rh rl pn I) (hb : ¬ (0 ≤ x ∧ x < nI h)) : am_Call am_TX 14 0 c_M_setVector [.ref 120, .int x, .int x_] (mm σ) (am_Ok (some (.int 0)) (fun σ1 => smP pQ σ σ1 ∧ σ1.1 120 0 = 1)) := by
  have hv := hn.toV
  have hs := hn.2.1.2.1
  have hh1 := hv.1.1.1
  have hh6 := hv.1.1.2
  have hw1 := hv.1.2.1
  have hw6 := hv.1.2.2
  have hp6 := hn.2.1.2.2.2.1.1
  have hr6 := hn.2.1.2.2.2.2.2.2.1
  have hs7 := lw_lt hh6
  have ws7 := lw_lt hw6
  refine ⟨mf_M_setVector, Nat.le_of_ble_eq_true rfl, ?_⟩
  refine R_aload_n rfl rfl ?_
  refine R_aload_n rfl rfl ?_
  refine R_iload_n rfl rfl ?_
  refine R_cV (as := [.int x]) rfl rfl iv_M_isRow (isRow_0 hv hb) (by omega) rfl rfl rfl (by decide) rfl rfl (Nat.le_of_ble_eq_true rfl) (fun _ q => ?_)
  obtain rfl := q.symm
  refine R_iload_n rfl rfl ?_
  refine R_i2l rfl ?_
  refine R_ldc2 (v := -9999) rfl (by decide) ?_
  refine R_ldc2 (v := 9999) rfl (by decide) ?_
  refine R_cS (as := [.long x_.toInt64, .long (-9999), .long 9999]) rfl rfl iv_M_in (sp_in (v := x_.toInt64) (lo := (-9999)) (hi := 9999)) (by omega) rfl rfl rfl rfl (Nat.le_of_ble_eq_true rfl) (fun _ q => ?_)
  obtain rfl := q.symm
  refine R_cV (as := [.int 0, .int (zP ((-9999) ≤ x_.toInt64 ∧ x_.toInt64 ≤ 9999))]) rfl rfl iv_M_passes2 (pass2_0u (P := (-9999) ≤ x_.toInt64 ∧ x_.toInt64 ≤ 9999)) (by omega) rfl rfl rfl (by decide) rfl rfl (Nat.le_of_ble_eq_true rfl) (fun _ q => ?_)
  obtain rfl := q.symm
  refine R_if_ne rfl rfl (fun z => absurd z (by decide)) (fun _ => ?_)
  refine R_iconst (v := 0) rfl rfl ?_
  exact T_ireturn rfl rfl (am_oki rfl ⟨(smP_sI (p := pQ) (k := 120) (j := 0) (x := 1) (by unfold pQ; omega)), sI_s⟩)
set_option maxRecDepth 100000 in
set_option maxHeartbeats 4000000 in
theorem sp_M_setVector_x1 {σ : am_G} {h w rh pn : Nat} {f v rl : am_Gr} {I : Nat → Int32} {r : Nat} {x : Int32} (hn : nV σ h w f v rh rl pn I) (r_h : r < h) (hb : ¬ (-9999 ≤ x ∧ x ≤ 9999)) : am_Call am_TX 14 0 c_M_setVector [.ref 120, .int (nI r), .int x] (mm σ) (am_Ok (some (.int 0)) (fun σ1 => smP pQ σ σ1 ∧ σ1.1 120 0 = 2)) := by
  have hv := hn.toV
  have hs := hn.2.1.2.1
  have hh1 := hv.1.1.1
  have hh6 := hv.1.1.2
  have hw1 := hv.1.2.1
  have hw6 := hv.1.2.2
  have hp6 := hn.2.1.2.2.2.1.1
  have hr6 := hn.2.1.2.2.2.2.2.2.1
  have hs7 := lw_lt hh6
  have ws7 := lw_lt hw6
  refine ⟨mf_M_setVector, Nat.le_of_ble_eq_true rfl, ?_⟩
  refine R_aload_n rfl rfl ?_
  refine R_aload_n rfl rfl ?_
  refine R_iload_n rfl rfl ?_
  refine R_cV (as := [.int (nI r)]) rfl rfl iv_M_isRow (isRow_1 (n := r) hv (by omega)) (by omega) rfl rfl rfl (by decide) rfl rfl (Nat.le_of_ble_eq_true rfl) (fun _ q => ?_)
  obtain rfl := q.symm
  refine R_iload_n rfl rfl ?_
  refine R_i2l rfl ?_
  refine R_ldc2 (v := -9999) rfl (by decide) ?_
  refine R_ldc2 (v := 9999) rfl (by decide) ?_
  refine R_cS (as := [.long x.toInt64, .long (-9999), .long 9999]) rfl rfl iv_M_in (in_0 (x := x) (a := -9999) (b := 9999) hb rfl rfl) (by omega) rfl rfl rfl rfl (Nat.le_of_ble_eq_true rfl) (fun _ q => ?_)
  obtain rfl := q.symm
  refine R_cV (as := [.int 1, .int 0]) rfl rfl iv_M_passes2 (pass2_10) (by omega) rfl rfl rfl (by decide) rfl rfl (Nat.le_of_ble_eq_true rfl) (fun _ q => ?_)
  obtain rfl := q.symm
  refine R_if_ne rfl rfl (fun z => absurd z (by decide)) (fun _ => ?_)
  refine R_iconst (v := 0) rfl rfl ?_
  exact T_ireturn rfl rfl (am_oki rfl ⟨(smP_sI (p := pQ) (k := 120) (j := 0) (x := 2) (by unfold pQ; omega)), sI_s⟩)
set_option maxRecDepth 100000 in
set_option maxHeartbeats 4000000 in
theorem lp_mswapRows {σ : am_G} {h w rh pn : Nat} {f v rl : am_Gr} {I : Nat → Int32} {a b : Nat} {d k0 : Nat} {Q : am_Res → Prop} (hn : nV σ h w f v rh rl pn I) (ha : a < 6) (hb : b < 6) (hd : 1 ≤ d) (hx : ∀ (τ : am_G), (smP p121 σ τ ∧ nL (τ.2.1 121) h w (exR f a b 6) v rh rl pn I) → am_R am_TX d k0 c_M_swapRows 70 [some (.ref 120), some (.int (nI a)), some (.int (nI b)), some (.int (nI 6))] [] (mm τ) Q) : ∀ (uu i : Nat) (τ : am_G), i + uu = 6 → (smP p121 σ τ ∧ nL (τ.2.1 121) h w (exR f a b i) v rh rl pn I) → am_R am_TX d k0 c_M_swapRows 36 [some (.ref 120), some (.int (nI a)), some (.int (nI b)), some (.int (nI i))] [] (mm τ) Q := by
  intro uu
  induction uu with
  | zero =>
    intro i τ hi hI
    obtain rfl : 6 = i := by omega
    refine R_iload_n rfl rfl ?_
    refine R_bipush (v := 6) rfl (by decide) ?_
    refine R_nicmp_ge (x := 6) (y := 6) rfl rfl (by omega) (by omega) (fun g1 => ?_) (fun z => by omega)
    exact hx τ hI
  | succ uu ih =>
    intro i τ hi hI
    refine R_iload_n rfl rfl ?_
    refine R_bipush (v := 6) rfl (by decide) ?_
    refine R_nicmp_ge (x := i) (y := 6) rfl rfl (by omega) (by omega) (fun z => by omega) (fun g1 => ?_)
    refine R_aload_n rfl rfl ?_
    refine R_bipush (v := 14) rfl (by decide) ?_
    refine R_bipush (v := 6) rfl (by decide) ?_
    refine R_iload_n rfl rfl ?_
    refine R_imulN (x := 6) (y := a) rfl ?_
    refine R_iaddN (x := 14) (y := (6 * a)) rfl ?_
    refine R_iload_n rfl rfl ?_
    refine R_iaddN (x := (14 + (6 * a))) (y := i) rfl ?_
    refine R_bipush (v := 14) rfl (by decide) ?_
    refine R_bipush (v := 6) rfl (by decide) ?_
    refine R_iload_n rfl rfl ?_
    refine R_imulN (x := 6) (y := b) rfl ?_
    refine R_iaddN (x := 14) (y := (6 * b)) rfl ?_
    refine R_iload_n rfl rfl ?_
    refine R_iaddN (x := (14 + (6 * b))) (y := i) rfl ?_
    refine R_cV (as := [.int (nI ((14 + (6 * a)) + i)), .int (nI ((14 + (6 * b)) + i))]) rfl rfl iv_M_exchange (sp_exchange (a := ((14 + (6 * a)) + i)) (b := ((14 + (6 * b)) + i)) (by omega) (by omega)) (by omega) rfl rfl rfl (by decide) rfl rfl (Nat.le_of_ble_eq_true rfl) (fun _ q => ?_)
    obtain rfl := q.symm
    refine R_iincN (x := i) (m := 1) rfl rfl rfl (by decide) ?_
    refine R_goto rfl rfl ?_
    refine (ih (i + 1) (sL (sL τ 121 ((14 + (6 * a)) + i) (τ.2.1 121 ((14 + (6 * b)) + i))) 121 ((14 + (6 * b)) + i) (τ.2.1 121 ((14 + (6 * a)) + i))) (by omega) ⟨(hI.1.trans (smP_sL (p := p121) rfl)).trans (smP_sL (p := p121) rfl), ?_⟩).weak ⟨rfl, rfl, rfl, rfl, trivial⟩
    have z := nL_ex (i := a) (j := i) (a := b) (b := i) hI.2 (by omega) (by omega) (by omega) (by omega)
    rw [exR_now, exR_now, exR_step] at z
    exact z
set_option maxRecDepth 100000 in
set_option maxHeartbeats 4000000 in
theorem ch_swapRows {σ : am_G} {h w rh pn : Nat} {f v rl : am_Gr} {I : Nat → Int32} {a : Nat} {b : Nat} {d k0 : Nat} (hn : nV σ h w f v rh rl pn I) (a_h : a < h) (b_h : b < h) (t0 : σ.1 120 0 = 0) (hd : 15 ≤ d) : am_R am_TX d k0 c_M_swapRows 34 [some (.ref 120), some (.int (nI a)), some (.int (nI b)), none] [] (mm σ) (am_Ok (some (.int (nI (rkO (exR f a b w) 0 (2 ^ h - 1) (2 ^ w - 1) h w)))) (fun σ1 => smP pN σ σ1 ∧ σ1.1 120 0 = 0 ∧ nVD σ1 (h, w, (exR f a b w), v, rh, rl, pn, I))) := by
  have hv := hn.toV
  have hs := hn.2.1.2.1
  have hh1 := hv.1.1.1
  have hh6 := hv.1.1.2
  have hw1 := hv.1.2.1
  have hw6 := hv.1.2.2
  have hp6 := hn.2.1.2.2.2.1.1
  have hr6 := hn.2.1.2.2.2.2.2.2.1
  have hs7 := lw_lt hh6
  have ws7 := lw_lt hw6
  refine R_iconst (v := 0) rfl rfl ?_
  refine R_istore_n rfl (by decide) ?_
  refine (lp_mswapRows hn (by omega) (by omega) (by omega) (fun τ hτ => ?_) 6 0 σ (by omega) ⟨smP.refl, by rw [exR_0]; exact hn.1⟩).weak ⟨rfl, rfl, rfl, rfl, trivial⟩
  have hn2 : nV τ h w (exR f a b w) v rh rl pn I := ⟨nL_fc hτ.2 (exR_6 hn.2.1 (by omega) (by omega)), exR_ok hn.2.1 (by omega) (by omega), hτ.1.2.trans hn.2.2.1, (hτ.1.i (by unfold p121; omega)).trans hn.2.2.2⟩
  refine R_aload_n rfl rfl ?_
  refine R_iconst (v := 0) rfl rfl ?_
  refine R_cV (as := [.int 0]) rfl rfl iv_M_rankAll (sp_rankAll (m := 0) hn2.toV hn2.2.1.2.1 (by omega)) (by omega) rfl rfl rfl (by decide) rfl rfl (Nat.le_of_ble_eq_true rfl) (fun ρ9 hρ9 => ?_)
  exact T_ireturn rfl rfl (am_oki rfl (ch_rk (hτ.1.mono pN_1) ((hτ.1.i (by unfold p121; omega)).trans t0) hn2 hρ9))
set_option maxRecDepth 100000 in
set_option maxHeartbeats 4000000 in
theorem sp_M_swapRows {σ : am_G} {h w rh pn : Nat} {f v rl : am_Gr} {I : Nat → Int32} {n : Nat} {Hs : Nat → am_Sn} {a : Nat} {b : Nat} (hn : nV σ h w f v rh rl pn I) (hH : mH σ n Hs) (a_h : a < h) (b_h : b < h) : am_Call am_TX 16 0 c_M_swapRows [.ref 120, .int (nI a), .int (nI b)] (mm σ) (am_Ok (some (.int (nI (rkO (exR f a b w) 0 (2 ^ h - 1) (2 ^ w - 1) h w)))) (fun σ1 => smP pC σ σ1 ∧ σ1.1 120 0 = 0 ∧ nVD σ1 (h, w, (exR f a b w), v, rh, rl, pn, I) ∧ mH σ1 (nxZ n) (hC (h, w, f, v, rh, rl, pn, I) Hs))) := by
  have hv := hn.toV
  have hs := hn.2.1.2.1
  have hh1 := hv.1.1.1
  have hh6 := hv.1.1.2
  have hw1 := hv.1.2.1
  have hw6 := hv.1.2.2
  have hp6 := hn.2.1.2.2.2.1.1
  have hr6 := hn.2.1.2.2.2.2.2.2.1
  have hs7 := lw_lt hh6
  have ws7 := lw_lt hw6
  refine ⟨mf_M_swapRows, Nat.le_of_ble_eq_true rfl, ?_⟩
  refine R_aload_n rfl rfl ?_
  refine R_aload_n rfl rfl ?_
  refine R_iload_n rfl rfl ?_
  refine R_cV (as := [.int (nI a)]) rfl rfl iv_M_isRow (isRow_1 (n := a) hv (by omega)) (by omega) rfl rfl rfl (by decide) rfl rfl (Nat.le_of_ble_eq_true rfl) (fun _ q => ?_)
  obtain rfl := q.symm
  refine R_if_eq rfl rfl (fun z => absurd z (by decide)) (fun _ => ?_)
  refine R_aload_n rfl rfl ?_
  refine R_iload_n rfl rfl ?_
  refine R_cV (as := [.int (nI b)]) rfl rfl iv_M_isRow (isRow_1 (n := b) hv (by omega)) (by omega) rfl rfl rfl (by decide) rfl rfl (Nat.le_of_ble_eq_true rfl) (fun _ q => ?_)
  obtain rfl := q.symm
  refine R_if_eq rfl rfl (fun z => absurd z (by decide)) (fun _ => ?_)
  refine R_iconst (v := 1) rfl rfl ?_
  refine R_goto rfl rfl ?_
  refine R_cV (as := [.int 1]) rfl rfl iv_M_passes (pass_1) (by omega) rfl rfl rfl (by decide) rfl rfl (Nat.le_of_ble_eq_true rfl) (fun _ q => ?_)
  obtain rfl := q.symm
  refine R_if_ne rfl rfl (fun _ => ?_) (fun z => absurd z (by decide))
  refine R_aload_n rfl rfl ?_
  refine R_cV (as := []) rfl rfl iv_M_remember (sp_remember (hn.fr (smP_sI (p := pQ) (k := 120) (j := 0) (x := 0) (by unfold pQ; omega)) (fun b => by unfold pQ; omega) (by unfold pQ; omega)) (hH.fr (smP_sI (p := pQ) (k := 120) (j := 0) (x := 0) (by unfold pQ; omega)) (by unfold pQ; omega) (fun b => by unfold pQ; omega))) (by omega) rfl rfl rfl (by decide) rfl rfl (Nat.le_of_ble_eq_true rfl) (fun ρ hρ => ?_)
  obtain ⟨hρ, hρH⟩ := hρ
  exact ((ch_swapRows (pR_f hρ (hn.fr (smP_sI (p := pQ) (k := 120) (j := 0) (x := 0) (by unfold pQ; omega)) (fun b => by unfold pQ; omega) (by unfold pQ; omega))) a_h b_h ((hρ.i (by unfold pR; omega)).trans sI_s) (by omega)).mono (am_Ok.mono (fun τ e => ⟨(ch_end (smP_sI (p := pQ) (k := 120) (j := 0) (x := 0) (by unfold pQ; omega)) hρ hρH e.1).1, e.2.1, e.2.2, (ch_end (smP_sI (p := pQ) (k := 120) (j := 0) (x := 0) (by unfold pQ; omega)) hρ hρH e.1).2⟩))).weak ⟨rfl, rfl, rfl, trivial⟩
set_option maxRecDepth 100000 in
set_option maxHeartbeats 4000000 in
theorem sp_M_swapRows_x0 {σ : am_G} {h w rh pn : Nat} {f v rl : am_Gr} {I : Nat → Int32} {b_ : Int32} {x : Int32} (hn : nV σ h w f v rh rl pn I) (hb : ¬ (0 ≤ x ∧ x < nI h)) : am_Call am_TX 14 0 c_M_swapRows [.ref 120, .int x, .int b_] (mm σ) (am_Ok (some (.int 0)) (fun σ1 => smP pQ σ σ1 ∧ σ1.1 120 0 = 1)) := by
  have hv := hn.toV
  have hs := hn.2.1.2.1
  have hh1 := hv.1.1.1
  have hh6 := hv.1.1.2
  have hw1 := hv.1.2.1
  have hw6 := hv.1.2.2
  have hp6 := hn.2.1.2.2.2.1.1
  have hr6 := hn.2.1.2.2.2.2.2.2.1
  have hs7 := lw_lt hh6
  have ws7 := lw_lt hw6
  refine ⟨mf_M_swapRows, Nat.le_of_ble_eq_true rfl, ?_⟩
  refine R_aload_n rfl rfl ?_
  refine R_aload_n rfl rfl ?_
  refine R_iload_n rfl rfl ?_
  refine R_cV (as := [.int x]) rfl rfl iv_M_isRow (isRow_0 hv hb) (by omega) rfl rfl rfl (by decide) rfl rfl (Nat.le_of_ble_eq_true rfl) (fun _ q => ?_)
  obtain rfl := q.symm
  refine R_if_eq rfl rfl (fun _ => ?_) (fun z => absurd z (by decide))
  refine R_iconst (v := 0) rfl rfl ?_
  refine R_cV (as := [.int 0]) rfl rfl iv_M_passes (pass_0) (by omega) rfl rfl rfl (by decide) rfl rfl (Nat.le_of_ble_eq_true rfl) (fun _ q => ?_)
  obtain rfl := q.symm
  refine R_if_ne rfl rfl (fun z => absurd z (by decide)) (fun _ => ?_)
  refine R_iconst (v := 0) rfl rfl ?_
  exact T_ireturn rfl rfl (am_oki rfl ⟨(smP_sI (p := pQ) (k := 120) (j := 0) (x := 1) (by unfold pQ; omega)), sI_s⟩)
set_option maxRecDepth 100000 in
set_option maxHeartbeats 4000000 in
theorem sp_M_swapRows_x1 {σ : am_G} {h w rh pn : Nat} {f v rl : am_Gr} {I : Nat → Int32} {a : Nat} {x : Int32} (hn : nV σ h w f v rh rl pn I) (a_h : a < h) (hb : ¬ (0 ≤ x ∧ x < nI h)) : am_Call am_TX 14 0 c_M_swapRows [.ref 120, .int (nI a), .int x] (mm σ) (am_Ok (some (.int 0)) (fun σ1 => smP pQ σ σ1 ∧ σ1.1 120 0 = 1)) := by
  have hv := hn.toV
  have hs := hn.2.1.2.1
  have hh1 := hv.1.1.1
  have hh6 := hv.1.1.2
  have hw1 := hv.1.2.1
  have hw6 := hv.1.2.2
  have hp6 := hn.2.1.2.2.2.1.1
  have hr6 := hn.2.1.2.2.2.2.2.2.1
  have hs7 := lw_lt hh6
  have ws7 := lw_lt hw6
  refine ⟨mf_M_swapRows, Nat.le_of_ble_eq_true rfl, ?_⟩
  refine R_aload_n rfl rfl ?_
  refine R_aload_n rfl rfl ?_
  refine R_iload_n rfl rfl ?_
  refine R_cV (as := [.int (nI a)]) rfl rfl iv_M_isRow (isRow_1 (n := a) hv (by omega)) (by omega) rfl rfl rfl (by decide) rfl rfl (Nat.le_of_ble_eq_true rfl) (fun _ q => ?_)
  obtain rfl := q.symm
  refine R_if_eq rfl rfl (fun z => absurd z (by decide)) (fun _ => ?_)
  refine R_aload_n rfl rfl ?_
  refine R_iload_n rfl rfl ?_
  refine R_cV (as := [.int x]) rfl rfl iv_M_isRow (isRow_0 hv hb) (by omega) rfl rfl rfl (by decide) rfl rfl (Nat.le_of_ble_eq_true rfl) (fun _ q => ?_)
  obtain rfl := q.symm
  refine R_if_eq rfl rfl (fun _ => ?_) (fun z => absurd z (by decide))
  refine R_iconst (v := 0) rfl rfl ?_
  refine R_cV (as := [.int 0]) rfl rfl iv_M_passes (pass_0) (by omega) rfl rfl rfl (by decide) rfl rfl (Nat.le_of_ble_eq_true rfl) (fun _ q => ?_)
  obtain rfl := q.symm
  refine R_if_ne rfl rfl (fun z => absurd z (by decide)) (fun _ => ?_)
  refine R_iconst (v := 0) rfl rfl ?_
  exact T_ireturn rfl rfl (am_oki rfl ⟨(smP_sI (p := pQ) (k := 120) (j := 0) (x := 1) (by unfold pQ; omega)), sI_s⟩)
set_option maxRecDepth 100000 in
set_option maxHeartbeats 4000000 in
theorem lp_mswapColumns {σ : am_G} {h w rh pn : Nat} {f v rl : am_Gr} {I : Nat → Int32} {a b : Nat} {d k0 : Nat} {Q : am_Res → Prop} (hn : nV σ h w f v rh rl pn I) (ha : a < 6) (hb : b < 6) (hd : 1 ≤ d) (hx : ∀ (τ : am_G), (smP p121 σ τ ∧ nL (τ.2.1 121) h w (exC f a b 6) v rh rl pn I) → am_R am_TX d k0 c_M_swapColumns 70 [some (.ref 120), some (.int (nI a)), some (.int (nI b)), some (.int (nI 6))] [] (mm τ) Q) : ∀ (uu i : Nat) (τ : am_G), i + uu = 6 → (smP p121 σ τ ∧ nL (τ.2.1 121) h w (exC f a b i) v rh rl pn I) → am_R am_TX d k0 c_M_swapColumns 36 [some (.ref 120), some (.int (nI a)), some (.int (nI b)), some (.int (nI i))] [] (mm τ) Q := by
  intro uu
  induction uu with
  | zero =>
    intro i τ hi hI
    obtain rfl : 6 = i := by omega
    refine R_iload_n rfl rfl ?_
    refine R_bipush (v := 6) rfl (by decide) ?_
    refine R_nicmp_ge (x := 6) (y := 6) rfl rfl (by omega) (by omega) (fun g1 => ?_) (fun z => by omega)
    exact hx τ hI
  | succ uu ih =>
    intro i τ hi hI
    refine R_iload_n rfl rfl ?_
    refine R_bipush (v := 6) rfl (by decide) ?_
    refine R_nicmp_ge (x := i) (y := 6) rfl rfl (by omega) (by omega) (fun z => by omega) (fun g1 => ?_)
    refine R_aload_n rfl rfl ?_
    refine R_bipush (v := 14) rfl (by decide) ?_
    refine R_bipush (v := 6) rfl (by decide) ?_
    refine R_iload_n rfl rfl ?_
    refine R_imulN (x := 6) (y := i) rfl ?_
    refine R_iaddN (x := 14) (y := (6 * i)) rfl ?_
    refine R_iload_n rfl rfl ?_
    refine R_iaddN (x := (14 + (6 * i))) (y := a) rfl ?_
    refine R_bipush (v := 14) rfl (by decide) ?_
    refine R_bipush (v := 6) rfl (by decide) ?_
    refine R_iload_n rfl rfl ?_
    refine R_imulN (x := 6) (y := i) rfl ?_
    refine R_iaddN (x := 14) (y := (6 * i)) rfl ?_
    refine R_iload_n rfl rfl ?_
    refine R_iaddN (x := (14 + (6 * i))) (y := b) rfl ?_
    refine R_cV (as := [.int (nI ((14 + (6 * i)) + a)), .int (nI ((14 + (6 * i)) + b))]) rfl rfl iv_M_exchange (sp_exchange (a := ((14 + (6 * i)) + a)) (b := ((14 + (6 * i)) + b)) (by omega) (by omega)) (by omega) rfl rfl rfl (by decide) rfl rfl (Nat.le_of_ble_eq_true rfl) (fun _ q => ?_)
    obtain rfl := q.symm
    refine R_iincN (x := i) (m := 1) rfl rfl rfl (by decide) ?_
    refine R_goto rfl rfl ?_
    refine (ih (i + 1) (sL (sL τ 121 ((14 + (6 * i)) + a) (τ.2.1 121 ((14 + (6 * i)) + b))) 121 ((14 + (6 * i)) + b) (τ.2.1 121 ((14 + (6 * i)) + a))) (by omega) ⟨(hI.1.trans (smP_sL (p := p121) rfl)).trans (smP_sL (p := p121) rfl), ?_⟩).weak ⟨rfl, rfl, rfl, rfl, trivial⟩
    have z := nL_ex (i := i) (j := a) (a := i) (b := b) hI.2 (by omega) (by omega) (by omega) (by omega)
    rw [exC_now, exC_now, exC_step] at z
    exact z
set_option maxRecDepth 100000 in
set_option maxHeartbeats 4000000 in
theorem ch_swapColumns {σ : am_G} {h w rh pn : Nat} {f v rl : am_Gr} {I : Nat → Int32} {a : Nat} {b : Nat} {d k0 : Nat} (hn : nV σ h w f v rh rl pn I) (a_w : a < w) (b_w : b < w) (t0 : σ.1 120 0 = 0) (hd : 15 ≤ d) : am_R am_TX d k0 c_M_swapColumns 34 [some (.ref 120), some (.int (nI a)), some (.int (nI b)), none] [] (mm σ) (am_Ok (some (.int (nI (rkO (exC f a b h) 0 (2 ^ h - 1) (2 ^ w - 1) h w)))) (fun σ1 => smP pN σ σ1 ∧ σ1.1 120 0 = 0 ∧ nVD σ1 (h, w, (exC f a b h), v, rh, rl, pn, I))) := by
  have hv := hn.toV
  have hs := hn.2.1.2.1
  have hh1 := hv.1.1.1
  have hh6 := hv.1.1.2
  have hw1 := hv.1.2.1
  have hw6 := hv.1.2.2
  have hp6 := hn.2.1.2.2.2.1.1
  have hr6 := hn.2.1.2.2.2.2.2.2.1
  have hs7 := lw_lt hh6
  have ws7 := lw_lt hw6
  refine R_iconst (v := 0) rfl rfl ?_
  refine R_istore_n rfl (by decide) ?_
  refine (lp_mswapColumns hn (by omega) (by omega) (by omega) (fun τ hτ => ?_) 6 0 σ (by omega) ⟨smP.refl, by rw [exC_0]; exact hn.1⟩).weak ⟨rfl, rfl, rfl, rfl, trivial⟩
  have hn2 : nV τ h w (exC f a b h) v rh rl pn I := ⟨nL_fc hτ.2 (exC_6 hn.2.1 (by omega) (by omega)), exC_ok hn.2.1 (by omega) (by omega), hτ.1.2.trans hn.2.2.1, (hτ.1.i (by unfold p121; omega)).trans hn.2.2.2⟩
  refine R_aload_n rfl rfl ?_
  refine R_iconst (v := 0) rfl rfl ?_
  refine R_cV (as := [.int 0]) rfl rfl iv_M_rankAll (sp_rankAll (m := 0) hn2.toV hn2.2.1.2.1 (by omega)) (by omega) rfl rfl rfl (by decide) rfl rfl (Nat.le_of_ble_eq_true rfl) (fun ρ9 hρ9 => ?_)
  exact T_ireturn rfl rfl (am_oki rfl (ch_rk (hτ.1.mono pN_1) ((hτ.1.i (by unfold p121; omega)).trans t0) hn2 hρ9))
set_option maxRecDepth 100000 in
set_option maxHeartbeats 4000000 in
theorem sp_M_swapColumns {σ : am_G} {h w rh pn : Nat} {f v rl : am_Gr} {I : Nat → Int32} {n : Nat} {Hs : Nat → am_Sn} {a : Nat} {b : Nat} (hn : nV σ h w f v rh rl pn I) (hH : mH σ n Hs) (a_w : a < w) (b_w : b < w) : am_Call am_TX 16 0 c_M_swapColumns [.ref 120, .int (nI a), .int (nI b)] (mm σ) (am_Ok (some (.int (nI (rkO (exC f a b h) 0 (2 ^ h - 1) (2 ^ w - 1) h w)))) (fun σ1 => smP pC σ σ1 ∧ σ1.1 120 0 = 0 ∧ nVD σ1 (h, w, (exC f a b h), v, rh, rl, pn, I) ∧ mH σ1 (nxZ n) (hC (h, w, f, v, rh, rl, pn, I) Hs))) := by
  have hv := hn.toV
  have hs := hn.2.1.2.1
  have hh1 := hv.1.1.1
  have hh6 := hv.1.1.2
  have hw1 := hv.1.2.1
  have hw6 := hv.1.2.2
  have hp6 := hn.2.1.2.2.2.1.1
  have hr6 := hn.2.1.2.2.2.2.2.2.1
  have hs7 := lw_lt hh6
  have ws7 := lw_lt hw6
  refine ⟨mf_M_swapColumns, Nat.le_of_ble_eq_true rfl, ?_⟩
  refine R_aload_n rfl rfl ?_
  refine R_aload_n rfl rfl ?_
  refine R_iload_n rfl rfl ?_
  refine R_cV (as := [.int (nI a)]) rfl rfl iv_M_isColumn (isColumn_1 (n := a) hv (by omega)) (by omega) rfl rfl rfl (by decide) rfl rfl (Nat.le_of_ble_eq_true rfl) (fun _ q => ?_)
  obtain rfl := q.symm
  refine R_if_eq rfl rfl (fun z => absurd z (by decide)) (fun _ => ?_)
  refine R_aload_n rfl rfl ?_
  refine R_iload_n rfl rfl ?_
  refine R_cV (as := [.int (nI b)]) rfl rfl iv_M_isColumn (isColumn_1 (n := b) hv (by omega)) (by omega) rfl rfl rfl (by decide) rfl rfl (Nat.le_of_ble_eq_true rfl) (fun _ q => ?_)
  obtain rfl := q.symm
  refine R_if_eq rfl rfl (fun z => absurd z (by decide)) (fun _ => ?_)
  refine R_iconst (v := 1) rfl rfl ?_
  refine R_goto rfl rfl ?_
  refine R_cV (as := [.int 1]) rfl rfl iv_M_passes (pass_1) (by omega) rfl rfl rfl (by decide) rfl rfl (Nat.le_of_ble_eq_true rfl) (fun _ q => ?_)
  obtain rfl := q.symm
  refine R_if_ne rfl rfl (fun _ => ?_) (fun z => absurd z (by decide))
  refine R_aload_n rfl rfl ?_
  refine R_cV (as := []) rfl rfl iv_M_remember (sp_remember (hn.fr (smP_sI (p := pQ) (k := 120) (j := 0) (x := 0) (by unfold pQ; omega)) (fun b => by unfold pQ; omega) (by unfold pQ; omega)) (hH.fr (smP_sI (p := pQ) (k := 120) (j := 0) (x := 0) (by unfold pQ; omega)) (by unfold pQ; omega) (fun b => by unfold pQ; omega))) (by omega) rfl rfl rfl (by decide) rfl rfl (Nat.le_of_ble_eq_true rfl) (fun ρ hρ => ?_)
  obtain ⟨hρ, hρH⟩ := hρ
  exact ((ch_swapColumns (pR_f hρ (hn.fr (smP_sI (p := pQ) (k := 120) (j := 0) (x := 0) (by unfold pQ; omega)) (fun b => by unfold pQ; omega) (by unfold pQ; omega))) a_w b_w ((hρ.i (by unfold pR; omega)).trans sI_s) (by omega)).mono (am_Ok.mono (fun τ e => ⟨(ch_end (smP_sI (p := pQ) (k := 120) (j := 0) (x := 0) (by unfold pQ; omega)) hρ hρH e.1).1, e.2.1, e.2.2, (ch_end (smP_sI (p := pQ) (k := 120) (j := 0) (x := 0) (by unfold pQ; omega)) hρ hρH e.1).2⟩))).weak ⟨rfl, rfl, rfl, trivial⟩
set_option maxRecDepth 100000 in
set_option maxHeartbeats 4000000 in
theorem sp_M_swapColumns_x0 {σ : am_G} {h w rh pn : Nat} {f v rl : am_Gr} {I : Nat → Int32} {b_ : Int32} {x : Int32} (hn : nV σ h w f v rh rl pn I) (hb : ¬ (0 ≤ x ∧ x < nI w)) : am_Call am_TX 14 0 c_M_swapColumns [.ref 120, .int x, .int b_] (mm σ) (am_Ok (some (.int 0)) (fun σ1 => smP pQ σ σ1 ∧ σ1.1 120 0 = 1)) := by
  have hv := hn.toV
  have hs := hn.2.1.2.1
  have hh1 := hv.1.1.1
  have hh6 := hv.1.1.2
  have hw1 := hv.1.2.1
  have hw6 := hv.1.2.2
  have hp6 := hn.2.1.2.2.2.1.1
  have hr6 := hn.2.1.2.2.2.2.2.2.1
  have hs7 := lw_lt hh6
  have ws7 := lw_lt hw6
  refine ⟨mf_M_swapColumns, Nat.le_of_ble_eq_true rfl, ?_⟩
  refine R_aload_n rfl rfl ?_
  refine R_aload_n rfl rfl ?_
  refine R_iload_n rfl rfl ?_
  refine R_cV (as := [.int x]) rfl rfl iv_M_isColumn (isColumn_0 hv hb) (by omega) rfl rfl rfl (by decide) rfl rfl (Nat.le_of_ble_eq_true rfl) (fun _ q => ?_)
  obtain rfl := q.symm
  refine R_if_eq rfl rfl (fun _ => ?_) (fun z => absurd z (by decide))
  refine R_iconst (v := 0) rfl rfl ?_
  refine R_cV (as := [.int 0]) rfl rfl iv_M_passes (pass_0) (by omega) rfl rfl rfl (by decide) rfl rfl (Nat.le_of_ble_eq_true rfl) (fun _ q => ?_)
  obtain rfl := q.symm
  refine R_if_ne rfl rfl (fun z => absurd z (by decide)) (fun _ => ?_)
  refine R_iconst (v := 0) rfl rfl ?_
  exact T_ireturn rfl rfl (am_oki rfl ⟨(smP_sI (p := pQ) (k := 120) (j := 0) (x := 1) (by unfold pQ; omega)), sI_s⟩)
set_option maxRecDepth 100000 in
set_option maxHeartbeats 4000000 in
theorem sp_M_swapColumns_x1 {σ : am_G} {h w rh pn : Nat} {f v rl : am_Gr} {I : Nat → Int32} {a : Nat} {x : Int32} (hn : nV σ h w f v rh rl pn I) (a_w : a < w) (hb : ¬ (0 ≤ x ∧ x < nI w)) : am_Call am_TX 14 0 c_M_swapColumns [.ref 120, .int (nI a), .int x] (mm σ) (am_Ok (some (.int 0)) (fun σ1 => smP pQ σ σ1 ∧ σ1.1 120 0 = 1)) := by
  have hv := hn.toV
  have hs := hn.2.1.2.1
  have hh1 := hv.1.1.1
  have hh6 := hv.1.1.2
  have hw1 := hv.1.2.1
  have hw6 := hv.1.2.2
  have hp6 := hn.2.1.2.2.2.1.1
  have hr6 := hn.2.1.2.2.2.2.2.2.1
  have hs7 := lw_lt hh6
  have ws7 := lw_lt hw6
  refine ⟨mf_M_swapColumns, Nat.le_of_ble_eq_true rfl, ?_⟩
  refine R_aload_n rfl rfl ?_
  refine R_aload_n rfl rfl ?_
  refine R_iload_n rfl rfl ?_
  refine R_cV (as := [.int (nI a)]) rfl rfl iv_M_isColumn (isColumn_1 (n := a) hv (by omega)) (by omega) rfl rfl rfl (by decide) rfl rfl (Nat.le_of_ble_eq_true rfl) (fun _ q => ?_)
  obtain rfl := q.symm
  refine R_if_eq rfl rfl (fun z => absurd z (by decide)) (fun _ => ?_)
  refine R_aload_n rfl rfl ?_
  refine R_iload_n rfl rfl ?_
  refine R_cV (as := [.int x]) rfl rfl iv_M_isColumn (isColumn_0 hv hb) (by omega) rfl rfl rfl (by decide) rfl rfl (Nat.le_of_ble_eq_true rfl) (fun _ q => ?_)
  obtain rfl := q.symm
  refine R_if_eq rfl rfl (fun _ => ?_) (fun z => absurd z (by decide))
  refine R_iconst (v := 0) rfl rfl ?_
  refine R_cV (as := [.int 0]) rfl rfl iv_M_passes (pass_0) (by omega) rfl rfl rfl (by decide) rfl rfl (Nat.le_of_ble_eq_true rfl) (fun _ q => ?_)
  obtain rfl := q.symm
  refine R_if_ne rfl rfl (fun z => absurd z (by decide)) (fun _ => ?_)
  refine R_iconst (v := 0) rfl rfl ?_
  exact T_ireturn rfl rfl (am_oki rfl ⟨(smP_sI (p := pQ) (k := 120) (j := 0) (x := 1) (by unfold pQ; omega)), sI_s⟩)
