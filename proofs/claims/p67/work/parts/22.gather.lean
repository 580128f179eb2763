/-! ===== sets, gathering, elimination ===== -/
def sgL (s k : Nat) (v : Int64) : Int64 := if pc (s / 2 ^ (k + 1)) % 2 = 0 then v else -v
/-- the members below k -/
def nb (s : Nat) : Nat → Nat
  | 0 => 0
  | k + 1 => nb s k + (if s.testBit k then 1 else 0)
def sel (s i : Nat) : Nat := ((List.range 6).filter (fun j => s.testBit j)).getD i 0
theorem nb_t {s k : Nat} (h : s.testBit k = true) : nb s (k + 1) = nb s k + 1 := by simp [nb, h]
theorem nb_f {s k : Nat} (h : ¬ s.testBit k = true) : nb s (k + 1) = nb s k := by simp [nb, h]
theorem nb_le {s : Nat} : ∀ k, nb s k ≤ k
  | 0 => Nat.le_refl 0
  | k + 1 => by have := @nb_le s k; simp only [nb]; split <;> omega
theorem nb_mono {s j k : Nat} (h : j ≤ k) : nb s j ≤ nb s k := by
  induction k with
  | zero => rw [show j = 0 by omega]; exact Nat.le_refl _
  | succ k ih =>
    by_cases e : j = k + 1
    · rw [e]; exact Nat.le_refl _
    · have := ih (by omega)
      simp only [nb]; omega
theorem sel_nb {s k : Nat} (hs : s < 64) (hk : k < 6) (h : s.testBit k = true) : sel s (nb s k) = k := by
  have key : ∀ s : Nat, s < 64 → ∀ k : Nat, k < 6 → (s.testBit k = true → sel s (nb s k) = k) := by decide +kernel
  exact key s hs k hk h
theorem pc_nb {s : Nat} (hs : s < 64) : pc s = nb s 6 := by
  have key : ∀ s : Nat, s < 64 → pc s = nb s 6 := by decide +kernel
  exact key s hs
def gaG (f : Nat → Nat → Int64) (m S T w nr nc : Nat) : Nat → Nat → Int64 := fun i j => if (i < nr ∧ j < nb T w) ∨ (i = nr ∧ j < nc) then rdL m (f (sel S i) (sel T j)) else 0
theorem gaG_s {f : Nat → Nat → Int64} {m S T w r c : Nat} (hS : S < 64) (hT : T < 64) (hr : r < 6) (hc : c < 6) (h1 : S.testBit r = true) (h2 : T.testBit c = true) : up2 (gaG f m S T w (nb S r) (nb T c)) (nb S r) (nb T c) (rdL m (f r c)) = gaG f m S T w (nb S r) (nb T (c + 1)) := by
  have e1 := sel_nb hS hr h1
  have e2 := sel_nb hT hc h2
  rw [nb_t h2]
  generalize nb S r = nr at *
  generalize nb T c = nc at *
  funext i j
  simp only [up2, gaG]
  by_cases h : i = nr ∧ j = nc
  · rw [if_pos h, h.1, h.2, e1, e2, if_pos (show (nr < nr ∧ nc < nb T w) ∨ nr = nr ∧ nc < nc + 1 by omega)]
  · rw [if_neg h]
    by_cases h3 : (i < nr ∧ j < nb T w) ∨ i = nr ∧ j < nc
    · rw [if_pos h3, if_pos (show (i < nr ∧ j < nb T w) ∨ i = nr ∧ j < nc + 1 by omega)]
    · rw [if_neg h3, if_neg (show ¬ ((i < nr ∧ j < nb T w) ∨ i = nr ∧ j < nc + 1) by omega)]
theorem gaG_n {f : Nat → Nat → Int64} {m S T w r : Nat} (h1 : S.testBit r = true) : gaG f m S T w (nb S r) (nb T w) = gaG f m S T w (nb S (r + 1)) 0 := by
  rw [nb_t h1]
  generalize nb S r = nr at *
  funext i j
  simp only [gaG]
  by_cases h3 : (i < nr ∧ j < nb T w) ∨ i = nr ∧ j < nb T w
  · rw [if_pos h3, if_pos (show (i < nr + 1 ∧ j < nb T w) ∨ i = nr + 1 ∧ j < 0 by omega)]
  · rw [if_neg h3, if_neg (show ¬ ((i < nr + 1 ∧ j < nb T w) ∨ i = nr + 1 ∧ j < 0) by omega)]
theorem gaG_0 {f : Nat → Nat → Int64} {m S T w : Nat} : gaG f m S T w 0 0 = fun _ _ => 0 := by
  funext i j
  simp [gaG]
/-- the gathered grid -/
def gaA (f : Nat → Nat → Int64) (m S T h w : Nat) : Nat → Nat → Int64 := gaG f m S T w (nb S h) 0
set_option maxRecDepth 100000 in
set_option maxHeartbeats 4000000 in
theorem lp_gather1 {σ : am_G} {k h w m S T : Nat} {f : Nat → Nat → Int64} {r : Nat} {d k0 : Nat} {Q : am_Res → Prop} (hM : isMat k) (ha : matA 19 k) (hv : vM σ k h w f) (hm : m < 2 ^ 31) (hS : S < 64) (hT : T < 64) (hr : r < h) (hr1 : S.testBit r = true) (hd : 2 ≤ d) (hx : am_R am_TX d k0 c_Reckoner_gather 97 [some (.ref 16), some (.ref k), some (.int (nI m)), some (.int (nI S)), some (.int (nI T)), some (.int (nI r)), some (.int (nI (nb T w))), some (.int (nI w))] [] (mm (setM σ 19 (nb S r) (pc T) (gaG f m S T w (nb S r) (nb T w)))) Q) : ∀ (uu i : Nat), i + uu = w → am_R am_TX d k0 c_Reckoner_gather 40 [some (.ref 16), some (.ref k), some (.int (nI m)), some (.int (nI S)), some (.int (nI T)), some (.int (nI r)), some (.int (nI (nb T i))), some (.int (nI i))] [] (mm (setM σ 19 (nb S r) (pc T) (gaG f m S T w (nb S r) (nb T i)))) Q := by
  have hh := hv.1.2
  have hw := hv.2.1.2
  have hp := @pc_le T
  have hb := fun n => @nb_le S n
  have hbT := fun n => @nb_le T n
  have hnr : nb S r ≤ 6 := by have := hb r; omega
  intro uu
  induction uu with
  | zero =>
    intro i hi
    obtain rfl : w = i := by omega
    skip
    refine R_iload rfl rfl ?_
    refine R_aload_n rfl rfl ?_
    refine R_gIN (n := w) rfl hM.1 fd_4_1 (hv.off ha).2.1.1 ?_
    refine R_nicmp_ge (x := w) (y := w) rfl rfl (by omega) (by omega) (fun h1 => ?_) (fun z => by omega)
    exact hx
  | succ uu ih =>
    intro i hi
    have hnc : nb T i ≤ i := hbT i
    have hnr2 : nb S r ≤ r := hb r
    refine R_iload rfl rfl ?_
    refine R_aload_n rfl rfl ?_
    refine R_gIN (n := w) rfl hM.1 fd_4_1 (hv.off ha).2.1.1 ?_
    refine R_nicmp_ge (x := i) (y := w) rfl rfl (by omega) (by omega) (fun z => by omega) (fun h1 => ?_)
    refine R_iload rfl rfl ?_
    refine R_iload rfl rfl ?_
    refine R_cN (as := [.int (nI T), .int (nI i)]) rfl rfl iv_D_has (sp_has (s := T) (k := i) (by first | assumption | exact lw_lt (by omega) | exact wi_lt (by first | assumption | omega) (by omega) | exact wo_lt (by first | assumption | omega) (by omega) | omega) (by omega)) (by omega) rfl rfl rfl rfl (Nat.le_of_ble_eq_true rfl) (fun _ q => ?_)
    obtain rfl := q.symm
    refine R_zif_eq rfl rfl (fun h2 => ?_) (fun h2 => ?_)
    · refine R_iincN (x := i) (m := 1) rfl rfl rfl (by decide) ?_
      refine R_goto rfl rfl ?_
      have e := ih (i + 1) (by omega)
      rw [nb_f h2] at e
      exact e.weak ⟨rfl, rfl, rfl, rfl, rfl, rfl, rfl, rfl, trivial⟩
    · refine R_aload_n rfl rfl ?_
      refine R_gP (x := 19) rfl rfl fp_7_1 rfl ?_
      refine R_aload_n rfl rfl ?_
      refine R_gP (x := 19) rfl rfl fp_7_1 rfl ?_
      refine R_gIN (n := (nb S r)) rfl rfl fd_4_0 (vM_setM hnr hp).1.1 ?_
      refine R_iload rfl rfl ?_
      refine R_aload_n rfl rfl ?_
      refine R_iload rfl rfl ?_
      refine R_iload rfl rfl ?_
      refine R_cV (as := [.int (nI r), .int (nI i)]) rfl rfl iv_Matrix_at (sp_Matrix_at (i := r) (j := i) hM (by omega) (by omega)) (by omega) rfl rfl hM.1 (by decide) rfl rfl (Nat.le_of_ble_eq_true rfl) (fun _ q => ?_)
      obtain rfl := q.symm
      refine R_iload_n rfl rfl ?_
      refine R_i2l rfl ?_
      refine R_cN (as := [.long (gL (setM σ 19 (nb S r) (pc T) (gaG f m S T w (nb S r) (nb T i))) k r i), .long ((nI m).toInt64)]) rfl rfl iv_D_remainder (sp_rem (v := (gL (setM σ 19 (nb S r) (pc T) (gaG f m S T w (nb S r) (nb T i))) k r i)) (n := m) (by omega)) (by omega) rfl rfl rfl rfl (Nat.le_of_ble_eq_true rfl) (fun _ q => ?_)
      obtain rfl := q.symm
      refine R_cV (as := [.int (nI (nb S r)), .int (nI (nb T i)), .long (rdL m (gL (setM σ 19 (nb S r) (pc T) (gaG f m S T w (nb S r) (nb T i))) k r i))]) rfl rfl iv_Matrix_put (sp_Matrix_put (i := (nb S r)) (j := (nb T i)) (⟨rfl, rfl, rfl⟩ : isMat 19) (by omega) (by omega)) (by omega) rfl rfl rfl (by decide) rfl rfl (Nat.le_of_ble_eq_true rfl) (fun _ q => ?_)
      obtain rfl := q.symm
      refine R_iincN (x := (nb T i)) (m := 1) rfl rfl rfl (by decide) ?_
      refine R_iincN (x := i) (m := 1) rfl rfl rfl (by decide) ?_
      refine R_goto rfl rfl ?_
      have e := ih (i + 1) (by omega)
      rw [nb_t h2] at e
      rw [gL_off ha.1, hv.at (by omega) (by omega), setM_put (by omega) (by omega), gaG_s hS hT (by omega) (by omega) hr1 h2, nb_t h2]
      exact e.weak ⟨rfl, rfl, rfl, rfl, rfl, rfl, rfl, rfl, trivial⟩
set_option maxRecDepth 100000 in
set_option maxHeartbeats 4000000 in
theorem lp_gather {σ : am_G} {k h w m S T : Nat} {f : Nat → Nat → Int64} {d k0 : Nat} {Q : am_Res → Prop} (hM : isMat k) (ha : matA 19 k) (hv : vM σ k h w f) (hm : m < 2 ^ 31) (hS : S < 64) (hT : T < 64) (hd : 2 ≤ d) (hx : am_R am_TX d k0 c_Reckoner_gather 116 [some (.ref 16), some (.ref k), some (.int (nI m)), some (.int (nI S)), some (.int (nI T)), some (.int (nI h)), none, none] [] (mm (setM σ 19 (nb S h) (pc T) (gaG f m S T w (nb S h) 0))) Q) : ∀ (uu i : Nat), i + uu = h → am_R am_TX d k0 c_Reckoner_gather 16 [some (.ref 16), some (.ref k), some (.int (nI m)), some (.int (nI S)), some (.int (nI T)), some (.int (nI i)), none, none] [] (mm (setM σ 19 (nb S i) (pc T) (gaG f m S T w (nb S i) 0))) Q := by
  have hh := hv.1.2
  have hw := hv.2.1.2
  have hp := @pc_le T
  have hb := fun n => @nb_le S n
  have hbT := fun n => @nb_le T n
  intro uu
  induction uu with
  | zero =>
    intro i hi
    obtain rfl : h = i := by omega
    refine R_iload rfl rfl ?_
    refine R_aload_n rfl rfl ?_
    refine R_gIN (n := h) rfl hM.1 fd_4_0 (hv.off ha).1.1 ?_
    refine R_nicmp_ge (x := h) (y := h) rfl rfl (by omega) (by omega) (fun h1 => ?_) (fun z => by omega)
    exact hx
  | succ uu ih =>
    intro i hi
    refine R_iload rfl rfl ?_
    refine R_aload_n rfl rfl ?_
    refine R_gIN (n := h) rfl hM.1 fd_4_0 (hv.off ha).1.1 ?_
    refine R_nicmp_ge (x := i) (y := h) rfl rfl (by omega) (by omega) (fun z => by omega) (fun h1 => ?_)
    refine R_iload_n rfl rfl ?_
    refine R_iload rfl rfl ?_
    refine R_cN (as := [.int (nI S), .int (nI i)]) rfl rfl iv_D_has (sp_has (s := S) (k := i) (by first | assumption | exact lw_lt (by omega) | exact wi_lt (by first | assumption | omega) (by omega) | exact wo_lt (by first | assumption | omega) (by omega) | omega) (by omega)) (by omega) rfl rfl rfl rfl (Nat.le_of_ble_eq_true rfl) (fun _ q => ?_)
    obtain rfl := q.symm
    refine R_zif_eq rfl rfl (fun h2 => ?_) (fun h2 => ?_)
    · refine R_iincN (x := i) (m := 1) rfl rfl rfl (by decide) ?_
      refine R_goto rfl rfl ?_
      have e := ih (i + 1) (by omega)
      rw [nb_f h2] at e
      exact e.weak ⟨rfl, rfl, rfl, rfl, rfl, rfl, trivial⟩
    · refine R_iconst (v := 0) rfl rfl ?_
      refine R_istore rfl (by decide) ?_
      refine R_iconst (v := 0) rfl rfl ?_
      refine R_istore rfl (by decide) ?_
      refine am_R.mem (σ' := (setM σ 19 (nb S i) (pc T) (gaG f m S T w (nb S i) 0))) rfl ((lp_gather1 hM ha hv hm hS hT (by omega) h2 (by omega) ?_ w 0 (by omega)).weak ⟨rfl, rfl, rfl, rfl, rfl, rfl, rfl, rfl, trivial⟩)
      refine R_aload_n rfl rfl ?_
      refine R_gP (x := 19) rfl rfl fp_7_1 rfl ?_
      refine R_dup rfl rfl ?_
      refine R_gIN (n := (nb S i)) rfl rfl fd_4_0 (vM_setM (by have := hb i; omega) hp).1.1 ?_
      refine R_iconst (v := 1) rfl rfl ?_
      refine R_iaddN (x := (nb S i)) (y := 1) rfl ?_
      refine R_pI rfl rfl fw_4_0 rfl ?_
      refine R_iincN (x := i) (m := 1) rfl rfl rfl (by decide) ?_
      refine R_goto rfl rfl ?_
      refine am_R.mem (σ' := (setM σ 19 (nb S (i + 1)) (pc T) (gaG f m S T w (nb S (i + 1)) 0))) ?_ ((ih (i + 1) (by omega)).weak ⟨rfl, rfl, rfl, rfl, rfl, rfl, trivial⟩)
      rw [setM_h, gaG_n h2, nb_t h2]
set_option maxRecDepth 100000 in
set_option maxHeartbeats 4000000 in
theorem sp_gather {σ : am_G} {k h w m S T : Nat} {f : Nat → Nat → Int64} (hM : isMat k) (ha : matA 19 k) (hv : vM σ k h w f) (hm : m < 2 ^ 31) (hS : S < 64) (hT : T < 64) : am_Call am_TX 2 0 c_Reckoner_gather [.ref 16, .ref k, .int (nI m), .int (nI S), .int (nI T)] (mm σ) (am_Ok none (fun σ1 => σ1 = setM σ 19 (nb S h) (pc T) (gaA f m S T h w))) := by
  have hh := hv.1.2
  have hw := hv.2.1.2
  have hp := @pc_le T
  have hb := fun n => @nb_le S n
  have hbT := fun n => @nb_le T n
  refine ⟨mf_Reckoner_gather, Nat.le_of_ble_eq_true rfl, ?_⟩
  refine R_aload_n rfl rfl ?_
  refine R_gP (x := 19) rfl rfl fp_7_1 rfl ?_
  refine R_iconst (v := 0) rfl rfl ?_
  refine R_iload rfl rfl ?_
  refine R_cS (as := [.int (nI T)]) rfl rfl iv_JInteger_bitCount (sp_bitCount (s := T) (by first | assumption | exact lw_lt (by omega) | exact wi_lt (by first | assumption | omega) (by omega) | exact wo_lt (by first | assumption | omega) (by omega) | omega)) (by decide) rfl rfl rfl rfl (Nat.le_of_ble_eq_true rfl) (fun _ q => ?_)
  obtain rfl := q.symm
  refine R_cV (as := [.int 0, .int (nI (pc T))]) rfl rfl iv_Matrix_reset (sp_Matrix_reset (h := 0) (w := (pc T)) (⟨rfl, rfl, rfl⟩ : isMat 19)) (by decide) rfl rfl rfl (by decide) rfl rfl (Nat.le_of_ble_eq_true rfl) (fun _ q => ?_)
  obtain rfl := q.symm
  refine R_iconst (v := 0) rfl rfl ?_
  refine R_istore rfl (by decide) ?_
  refine am_R.mem (σ' := (setM σ 19 (nb S 0) (pc T) (gaG f m S T w (nb S 0) 0))) (by show _ = setM σ 19 0 (pc T) (gaG f m S T w 0 0); rw [gaG_0]) ((lp_gather hM ha hv hm hS hT (by omega) ?_ h 0 (by omega)).weak ⟨rfl, rfl, rfl, rfl, rfl, rfl, trivial⟩)
  exact T_return rfl rfl (am_okv0 rfl)

