theorem prR_lt2 {f : am_Gr} {m h w : Nat} : ∀ r, prR f m h w r < 2 ^ r
  | 0 => by show (0 : Nat) < 2 ^ 0; decide
  | r + 1 => by
    have ih := @prR_lt2 f m h w r
    have e : (prR f m h w r).testBit r = false := Nat.testBit_lt_two_pow ih
    simp only [prR]
    rw [Nat.pow_succ]
    split
    · unfold wi; rw [e]; simp only [Bool.false_eq_true, if_false]; omega
    · omega
theorem vM.put {σ : am_G} {k h w i j : Nat} {f : am_Gr} {x : Int64} (hv : vM σ k h w f) (hi : i < 6) (hj : j < 6) : vM (uL σ k i j x) k h w (up2 f i j x) := by
  have e := setM_put (σ := σ) (k := k) (h := h) (w := w) (f := f) (x := x) hi hj
  rw [setM_self hv] at e
  rw [e]
  exact vM_setM hv.1.2 hv.2.1.2
theorem vM.congr {σ : am_G} {k h w : Nat} {f g : am_Gr} (hv : vM σ k h w f) (e : ∀ i j, i < 6 → j < 6 → f i j = g i j) : vM σ k h w g := ⟨hv.1, hv.2.1, fun i j hi hj => (hv.2.2 i j hi hj).trans (e i j hi hj)⟩
set_option maxRecDepth 100000 in
set_option maxHeartbeats 4000000 in
theorem sp_minorOf {σ : am_G} {k h w S s : Nat} {f : am_Gr} (hM : isMat k) (hk : 24 ≤ k ∨ k = 21) (hv : vM σ k h w f) (hS : S < 64) (hs : s < 64) : am_Call am_TX 3 0 c_Reckoner_minorOf [.ref 16, .ref k, .int (nI S), .int (nI s)] (mm σ) (am_Ok (some (.long (mnF f S w s))) (fun σ1 => smP (plc 23 24) σ σ1)) := by
  refine ⟨mf_Reckoner_minorOf, Nat.le_of_ble_eq_true rfl, ?_⟩
  refine R_aload_n rfl rfl ?_
  refine R_aload_n rfl rfl ?_
  refine R_iload_n rfl rfl ?_
  refine R_cV (as := [.ref k, .int (nI S)]) rfl rfl iv_Reckoner_expandMinors (sp_expandMinors hM hk hv hS) (by decide) rfl rfl rfl (by decide) rfl rfl (Nat.le_of_ble_eq_true rfl) (fun _ q => ?_)
  obtain rfl := q.symm
  refine R_aload_n rfl rfl ?_
  refine R_iload_n rfl rfl ?_
  refine R_cV (as := [.int (nI s)]) rfl rfl iv_Reckoner_minorAt (sp_minorAt (s := s) hs) (by decide) rfl rfl rfl (by decide) rfl rfl (Nat.le_of_ble_eq_true rfl) (fun _ q => ?_)
  obtain rfl := q.symm
  exact T_lreturn rfl rfl (am_okl (mnS_at hs) mnS_fr)
def dvC (f : am_Gr) (S w n : Nat) (a : Int64) : Nat → Int64
  | 0 => a
  | i + 1 => if pc i = n then cdL (dvC f S w n a i) (mnF f S w i) else dvC f S w n a i
def dvR (f : am_Gr) (w n : Nat) : Nat → Int64
  | 0 => 0
  | i + 1 => if pc i = n then dvC f i w n (dvR f w n i) (2 ^ w) else dvR f w n i
/-- the divisor of the minors of a size -/
def dvF (f : am_Gr) (h w n : Nat) : Int64 := dvR f w n (2 ^ h)
set_option maxRecDepth 100000 in
set_option maxHeartbeats 4000000 in
theorem lp_md1 {σ : am_G} {k h w S n : Nat} {f : am_Gr} {a : Int64} {d k0 : Nat} {Q : am_Res → Prop} (hM : isMat k) (hk : 24 ≤ k ∨ k = 21) (hv : vM σ k h w f) (hS : S < 64) (hn : n ≤ 6) (hd : 3 ≤ d) (hx : ∀ (τ : am_G), (smP (plc 23 24) σ τ ∧ ∀ s, s < 64 → τ.2.1 23 s = mnF f S w s) → am_R am_TX d k0 c_Reckoner_minorDivisor 68 [some (.ref 16), some (.ref k), some (.int (nI n)), some (.long (dvC f S w n a (2 ^ w))), none, some (.int (nI S)), some (.int (nI (2 ^ w)))] [] (mm τ) Q) : ∀ (uu i : Nat) (τ : am_G), i + uu = 2 ^ w → (smP (plc 23 24) σ τ ∧ ∀ s, s < 64 → τ.2.1 23 s = mnF f S w s) → am_R am_TX d k0 c_Reckoner_minorDivisor 33 [some (.ref 16), some (.ref k), some (.int (nI n)), some (.long (dvC f S w n a i)), none, some (.int (nI S)), some (.int (nI i))] [] (mm τ) Q := by
  have hh := hv.1.2
  have hw := hv.2.1.2
  have pw : 1 ≤ 2 ^ w := Nat.pos_of_ne_zero (by simp)
  have pw6 : 2 ^ w ≤ 64 := Nat.pow_le_pow_right (by omega) hw
  have ph : 1 ≤ 2 ^ h := Nat.pos_of_ne_zero (by simp)
  have ph6 : 2 ^ h ≤ 64 := Nat.pow_le_pow_right (by omega) hh
  intro uu
  induction uu with
  | zero =>
    intro i τ hi hI
    obtain rfl : 2 ^ w = i := by omega
    skip
    refine R_iload rfl rfl ?_
    refine R_aload_n rfl rfl ?_
    refine R_cV (as := []) rfl rfl iv_Matrix_allColumns (sp_Matrix_allColumns hM (hI.1.vM hv (fun b => by unfold plc; omega) (fun b => by unfold plc; omega)).2.1.1 (hI.1.vM hv (fun b => by unfold plc; omega) (fun b => by unfold plc; omega)).2.1.2) (by omega) rfl rfl hM.1 (by decide) rfl rfl (Nat.le_of_ble_eq_true rfl) (fun _ q => ?_)
    obtain rfl := q.symm
    refine R_nicmp_gt (x := (2 ^ w)) (y := (2 ^ w - 1)) rfl rfl (by omega) (by omega) (fun h1 => ?_) (fun z => by omega)
    exact hx τ hI
  | succ uu ih =>
    intro i τ hi hI
    have hpi := @pc_le i
    refine R_iload rfl rfl ?_
    refine R_aload_n rfl rfl ?_
    refine R_cV (as := []) rfl rfl iv_Matrix_allColumns (sp_Matrix_allColumns hM (hI.1.vM hv (fun b => by unfold plc; omega) (fun b => by unfold plc; omega)).2.1.1 (hI.1.vM hv (fun b => by unfold plc; omega) (fun b => by unfold plc; omega)).2.1.2) (by omega) rfl rfl hM.1 (by decide) rfl rfl (Nat.le_of_ble_eq_true rfl) (fun _ q => ?_)
    obtain rfl := q.symm
    refine R_nicmp_gt (x := i) (y := (2 ^ w - 1)) rfl rfl (by omega) (by omega) (fun z => by omega) (fun h1 => ?_)
    refine R_iload rfl rfl ?_
    refine R_cS (as := [.int (nI i)]) rfl rfl iv_JInteger_bitCount (sp_bitCount (s := i) (by first | assumption | exact lw_lt (by omega) | exact wi_lt (by first | assumption | omega) (by omega) | exact wo_lt (by first | assumption | omega) (by omega) | omega)) (by omega) rfl rfl rfl rfl (Nat.le_of_ble_eq_true rfl) (fun _ q => ?_)
    obtain rfl := q.symm
    refine R_iload_n rfl rfl ?_
    refine R_nicmp_ne (x := (pc i)) (y := n) rfl rfl (by omega) (by omega) (fun h2 => ?_) (fun h2 => ?_)
    · refine R_iincN (x := i) (m := 1) rfl rfl rfl (by decide) ?_
      refine R_goto rfl rfl ?_
      have e := ih (i + 1) τ (by omega) hI
      rw [show dvC f S w n a (i + 1) = dvC f S w n a i from if_neg (by omega)] at e
      exact e.weak ⟨rfl, rfl, rfl, rfl, rfl, rfl, trivial⟩
    · refine R_lload_n rfl rfl ?_
      refine R_aload_n rfl rfl ?_
      refine R_iload rfl rfl ?_
      refine R_cV (as := [.int (nI i)]) rfl rfl iv_Reckoner_minorAt (sp_minorAt (s := i) (by first | assumption | exact lw_lt (by omega) | exact wi_lt (by first | assumption | omega) (by omega) | exact wo_lt (by first | assumption | omega) (by omega) | omega)) (by omega) rfl rfl rfl (by decide) rfl rfl (Nat.le_of_ble_eq_true rfl) (fun _ q => ?_)
      obtain rfl := q.symm
      refine R_cN (as := [.long (dvC f S w n a i), .long (τ.2.1 23 i)]) rfl rfl iv_D_commonDivisor (sp_cd) (by omega) rfl rfl rfl rfl (Nat.le_of_ble_eq_true rfl) (fun _ q => ?_)
      obtain rfl := q.symm
      refine R_lstore_n rfl (by decide) ?_
      refine R_iincN (x := i) (m := 1) rfl rfl rfl (by decide) ?_
      refine R_goto rfl rfl ?_
      have e := ih (i + 1) τ (by omega) hI
      rw [show dvC f S w n a (i + 1) = cdL (dvC f S w n a i) (mnF f S w i) from if_pos (by omega)] at e
      rw [hI.2 i (by omega)]
      exact e.weak ⟨rfl, rfl, rfl, rfl, rfl, rfl, trivial⟩
set_option maxRecDepth 100000 in
set_option maxHeartbeats 4000000 in
theorem lp_md {σ : am_G} {k h w n : Nat} {f : am_Gr} {d k0 : Nat} {Q : am_Res → Prop} (hM : isMat k) (hk : 24 ≤ k ∨ k = 21) (hv : vM σ k h w f) (hn : n ≤ 6) (hd : 3 ≤ d) (hx : ∀ (τ : am_G), (smP (plc 23 24) σ τ) → am_R am_TX d k0 c_Reckoner_minorDivisor 74 [some (.ref 16), some (.ref k), some (.int (nI n)), some (.long (dvR f w n (2 ^ h))), none, some (.int (nI (2 ^ h))), none] [] (mm τ) Q) : ∀ (uu i : Nat) (τ : am_G), i + uu = 2 ^ h → (smP (plc 23 24) σ τ) → am_R am_TX d k0 c_Reckoner_minorDivisor 5 [some (.ref 16), some (.ref k), some (.int (nI n)), some (.long (dvR f w n i)), none, some (.int (nI i)), none] [] (mm τ) Q := by
  have hh := hv.1.2
  have hw := hv.2.1.2
  have pw : 1 ≤ 2 ^ w := Nat.pos_of_ne_zero (by simp)
  have pw6 : 2 ^ w ≤ 64 := Nat.pow_le_pow_right (by omega) hw
  have ph : 1 ≤ 2 ^ h := Nat.pos_of_ne_zero (by simp)
  have ph6 : 2 ^ h ≤ 64 := Nat.pow_le_pow_right (by omega) hh
  intro uu
  induction uu with
  | zero =>
    intro i τ hi hI
    obtain rfl : 2 ^ h = i := by omega
    skip
    refine R_iload rfl rfl ?_
    refine R_aload_n rfl rfl ?_
    refine R_cV (as := []) rfl rfl iv_Matrix_allRows (sp_Matrix_allRows hM (hI.vM hv (fun b => by unfold plc; omega) (fun b => by unfold plc; omega)).1.1 (hI.vM hv (fun b => by unfold plc; omega) (fun b => by unfold plc; omega)).1.2) (by omega) rfl rfl hM.1 (by decide) rfl rfl (Nat.le_of_ble_eq_true rfl) (fun _ q => ?_)
    obtain rfl := q.symm
    refine R_nicmp_gt (x := (2 ^ h)) (y := (2 ^ h - 1)) rfl rfl (by omega) (by omega) (fun h1 => ?_) (fun z => by omega)
    exact hx τ hI
  | succ uu ih =>
    intro i τ hi hI
    have hpi := @pc_le i
    refine R_iload rfl rfl ?_
    refine R_aload_n rfl rfl ?_
    refine R_cV (as := []) rfl rfl iv_Matrix_allRows (sp_Matrix_allRows hM (hI.vM hv (fun b => by unfold plc; omega) (fun b => by unfold plc; omega)).1.1 (hI.vM hv (fun b => by unfold plc; omega) (fun b => by unfold plc; omega)).1.2) (by omega) rfl rfl hM.1 (by decide) rfl rfl (Nat.le_of_ble_eq_true rfl) (fun _ q => ?_)
    obtain rfl := q.symm
    refine R_nicmp_gt (x := i) (y := (2 ^ h - 1)) rfl rfl (by omega) (by omega) (fun z => by omega) (fun h1 => ?_)
    refine R_iload rfl rfl ?_
    refine R_cS (as := [.int (nI i)]) rfl rfl iv_JInteger_bitCount (sp_bitCount (s := i) (by first | assumption | exact lw_lt (by omega) | exact wi_lt (by first | assumption | omega) (by omega) | exact wo_lt (by first | assumption | omega) (by omega) | omega)) (by omega) rfl rfl rfl rfl (Nat.le_of_ble_eq_true rfl) (fun _ q => ?_)
    obtain rfl := q.symm
    refine R_iload_n rfl rfl ?_
    refine R_nicmp_ne (x := (pc i)) (y := n) rfl rfl (by omega) (by omega) (fun h2 => ?_) (fun h2 => ?_)
    · refine R_iincN (x := i) (m := 1) rfl rfl rfl (by decide) ?_
      refine R_goto rfl rfl ?_
      have e := ih (i + 1) τ (by omega) hI
      rw [show dvR f w n (i + 1) = dvR f w n i from if_neg (by omega)] at e
      exact e.weak ⟨rfl, rfl, rfl, rfl, rfl, trivial⟩
    · refine R_aload_n rfl rfl ?_
      refine R_aload_n rfl rfl ?_
      refine R_iload rfl rfl ?_
      refine R_cV (as := [.ref k, .int (nI i)]) rfl rfl iv_Reckoner_expandMinors (sp_expandMinors (S := i) hM hk (hI.vM hv (fun b => by unfold plc; omega) (fun b => by unfold plc; omega)) (by omega)) (by omega) rfl rfl rfl (by decide) rfl rfl (Nat.le_of_ble_eq_true rfl) (fun _ q => ?_)
      obtain rfl := q.symm
      refine R_iconst (v := 0) rfl rfl ?_
      refine R_istore rfl (by decide) ?_
      refine (lp_md1 (a := dvR f w n i) (S := i) hM hk hv (by omega) hn (by omega) (fun τ1 hτ1 => ?_) (2 ^ w) 0 _ (by omega) ⟨hI.trans mnS_fr, fun s hs => mnS_at hs⟩).weak ⟨rfl, rfl, rfl, rfl, rfl, rfl, trivial⟩
      refine R_iincN (x := i) (m := 1) rfl rfl rfl (by decide) ?_
      refine R_goto rfl rfl ?_
      have e := ih (i + 1) τ1 (by omega) hτ1.1
      rw [show dvR f w n (i + 1) = dvC f i w n (dvR f w n i) (2 ^ w) from if_pos (by omega)] at e
      exact e.weak ⟨rfl, rfl, rfl, rfl, rfl, trivial⟩
set_option maxRecDepth 100000 in
set_option maxHeartbeats 4000000 in
theorem sp_minorDivisor {σ : am_G} {k h w n : Nat} {f : am_Gr} (hM : isMat k) (hk : 24 ≤ k ∨ k = 21) (hv : vM σ k h w f) (hn : n ≤ 6) : am_Call am_TX 3 0 c_Reckoner_minorDivisor [.ref 16, .ref k, .int (nI n)] (mm σ) (am_Ok (some (.long (dvF f h w n))) (fun σ1 => smP (plc 23 24) σ σ1)) := by
  have hh := hv.1.2
  have hw := hv.2.1.2
  have pw : 1 ≤ 2 ^ w := Nat.pos_of_ne_zero (by simp)
  have pw6 : 2 ^ w ≤ 64 := Nat.pow_le_pow_right (by omega) hw
  have ph : 1 ≤ 2 ^ h := Nat.pos_of_ne_zero (by simp)
  have ph6 : 2 ^ h ≤ 64 := Nat.pow_le_pow_right (by omega) hh
  refine ⟨mf_Reckoner_minorDivisor, Nat.le_of_ble_eq_true rfl, ?_⟩
  refine R_lconst (v := 0) rfl rfl ?_
  refine R_lstore_n rfl (by decide) ?_
  refine R_iconst (v := 0) rfl rfl ?_
  refine R_istore rfl (by decide) ?_
  refine (lp_md hM hk hv hn (by omega) (fun τ1 hτ1 => ?_) (2 ^ h) 0 _ (by omega) (smP.refl)).weak ⟨rfl, rfl, rfl, rfl, rfl, trivial⟩
  refine R_lload_n rfl rfl ?_
  exact T_lreturn rfl rfl (am_okl rfl hτ1)
def fdL (x : Nat → Int64) : Nat → Int64
  | 0 => 0
  | n + 1 => cdL (fdL x n) (x n)
