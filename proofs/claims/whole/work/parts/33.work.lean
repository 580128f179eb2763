/-! ===== the model's work: gathering, elimination, ranks ===== -/
def setK (σ : am_G) (x y : Int32) (f : Nat → Nat → Int64) : am_G :=
  (fun a b => if a = 120 then (if b = 6 then x else if b = 7 then y else σ.1 a b) else σ.1 a b, fun a b => if a = 123 then (if b < 36 then f (b / 6) (b % 6) else σ.2.1 a b) else σ.2.1 a b, σ.2.2)
def pW (a b : Nat) : Prop := (a = 120 ∧ (b = 6 ∨ b = 7)) ∨ a = 123
theorem setK_fr {σ : am_G} {x y : Int32} {f : Nat → Nat → Int64} : smP pW σ (setK σ x y f) := by
  refine ⟨fun a b hn => ⟨?_, ?_⟩, rfl⟩
  · show (if a = 120 then (if b = 6 then x else if b = 7 then y else σ.1 a b) else σ.1 a b) = σ.1 a b
    by_cases ha : a = 120
    · rw [if_pos ha, if_neg (fun e => hn (Or.inl ⟨ha, Or.inl e⟩)), if_neg (fun e => hn (Or.inl ⟨ha, Or.inr e⟩))]
    · rw [if_neg ha]
  · show (if a = 123 then _ else σ.2.1 a b) = σ.2.1 a b
    rw [if_neg (fun e => hn (Or.inr e))]
theorem pW_mV {σ σ1 : am_G} (q : smP pW σ σ1) {h w : Nat} {f : am_Gr} (hv : mV σ h w f) : mV σ1 h w f :=
  q.mV hv (fun b => by unfold pW; omega) (fun b => by unfold pW; omega) (by unfold pW; omega)
theorem setK_h {σ : am_G} {x y : Int32} {f : Nat → Nat → Int64} : (setK σ x y f).1 120 6 = x := by simp [setK]
theorem setK_w {σ : am_G} {x y : Int32} {f : Nat → Nat → Int64} : (setK σ x y f).1 120 7 = y := by simp [setK]
theorem setK_wL {σ : am_G} {x y : Int32} {f : Nat → Nat → Int64} {a b : Nat} {z : Int64} : (sL (setK σ x y f) a b z).1 120 7 = y := by show (setK σ x y f).1 120 7 = y; exact setK_w
theorem setK_at {σ : am_G} {x y : Int32} {f : Nat → Nat → Int64} {i j : Nat} (hi : i < 6) (hj : j < 6) : (setK σ x y f).2.1 123 (6 * i + j) = f i j := by
  show (if 123 = 123 then (if 6 * i + j < 36 then f ((6 * i + j) / 6) ((6 * i + j) % 6) else σ.2.1 123 (6 * i + j)) else σ.2.1 123 (6 * i + j)) = _
  rw [if_pos rfl, if_pos (by omega), show (6 * i + j) / 6 = i by omega, show (6 * i + j) % 6 = j by omega]
theorem setK_sh {σ : am_G} {x y x2 : Int32} {f : Nat → Nat → Int64} : sI (setK σ x y f) 120 6 x2 = setK σ x2 y f := by
  refine Prod.ext ?_ rfl
  funext a b
  simp only [sI, am_up, setK]
  by_cases ha : a = 120
  · by_cases hb : b = 6
    · simp only [if_pos ha, if_pos hb]
    · simp only [if_pos ha, if_neg hb]
  · simp only [if_neg ha]
theorem setK_sw {σ : am_G} {x y y2 : Int32} {f : Nat → Nat → Int64} : sI (setK σ x y f) 120 7 y2 = setK σ x y2 f := by
  refine Prod.ext ?_ rfl
  funext a b
  simp only [sI, am_up, setK]
  by_cases ha : a = 120
  · by_cases hb : b = 7
    · simp only [if_pos ha, if_pos hb, if_neg (show ¬ b = 6 by omega)]
    · simp only [if_pos ha, if_neg hb]
  · simp only [if_neg ha]
theorem setK_put {σ : am_G} {x y : Int32} {i j : Nat} {f : Nat → Nat → Int64} {z : Int64} (hi : i < 6) (hj : j < 6) : sL (setK σ x y f) 123 (6 * i + j) z = setK σ x y (up2 f i j z) := by
  refine Prod.ext rfl (Prod.ext ?_ rfl)
  funext a b
  simp only [sL, am_up, setK]
  by_cases ha : a = 123
  · simp only [if_pos ha]
    by_cases hb : b = 6 * i + j
    · subst hb
      rw [if_pos rfl, if_pos (by omega)]
      unfold up2
      rw [if_pos ⟨by omega, by omega⟩]
    · rw [if_neg hb]
      by_cases h36 : b < 36
      · rw [if_pos h36, if_pos h36]
        unfold up2
        rw [if_neg (by omega)]
      · rw [if_neg h36, if_neg h36]
  · simp only [if_neg ha]
theorem setK_self {σ : am_G} : setK σ (σ.1 120 6) (σ.1 120 7) (fun i j => σ.2.1 123 (6 * i + j)) = σ := by
  refine Prod.ext ?_ (Prod.ext ?_ rfl)
  · funext a b
    simp only [setK]
    by_cases ha : a = 120
    · subst ha
      rw [if_pos rfl]
      by_cases hb : b = 6
      · subst hb; rw [if_pos rfl]
      · rw [if_neg hb]
        by_cases hb : b = 7
        · subst hb; rw [if_pos rfl]
        · rw [if_neg hb]
    · rw [if_neg ha]
  · funext a b
    simp only [setK]
    by_cases ha : a = 123
    · subst ha
      rw [if_pos rfl]
      by_cases hb : b < 36
      · rw [if_pos hb, show 6 * (b / 6) + b % 6 = b by omega]
      · rw [if_neg hb]
    · rw [if_neg ha]
theorem sm3264 {x : Int64} (h : x.toInt.natAbs ≤ 20) : x.toInt32.toInt64 = x := by
  apply Int64.toInt_inj.mp
  rw [Int32.toInt_toInt64, Int64.toInt_toInt32]
  exact Int.bmod_eq_of_le (by omega) (by omega)
/-- the gathered grid over what lay there -/
def laG (f : Nat → Nat → Int64) (m S T w : Nat) (W : am_Gr) (nr nc : Nat) : am_Gr := fun i j => if (i < nr ∧ j < nb T w) ∨ (i = nr ∧ j < nc) then rdL m (f (sel S i) (sel T j)) else W i j
theorem laG_s {f : Nat → Nat → Int64} {m S T w r c : Nat} {W : am_Gr} (hS : S < 64) (hT : T < 64) (hr : r < 6) (hc : c < 6) (h1 : S.testBit r = true) (h2 : T.testBit c = true) : up2 (laG f m S T w W (nb S r) (nb T c)) (nb S r) (nb T c) (rdL m (f r c)) = laG f m S T w W (nb S r) (nb T (c + 1)) := by
  have e1 := sel_nb hS hr h1
  have e2 := sel_nb hT hc h2
  rw [nb_t h2]
  generalize nb S r = nr at *
  generalize nb T c = nc at *
  funext i j
  simp only [up2, laG]
  by_cases h : i = nr ∧ j = nc
  · rw [if_pos h, h.1, h.2, e1, e2, if_pos (show (nr < nr ∧ nc < nb T w) ∨ nr = nr ∧ nc < nc + 1 by omega)]
  · rw [if_neg h]
    by_cases h3 : (i < nr ∧ j < nb T w) ∨ i = nr ∧ j < nc
    · rw [if_pos h3, if_pos (show (i < nr ∧ j < nb T w) ∨ i = nr ∧ j < nc + 1 by omega)]
    · rw [if_neg h3, if_neg (show ¬ ((i < nr ∧ j < nb T w) ∨ i = nr ∧ j < nc + 1) by omega)]
theorem laG_n {f : Nat → Nat → Int64} {m S T w r : Nat} {W : am_Gr} (h1 : S.testBit r = true) : laG f m S T w W (nb S r) (nb T w) = laG f m S T w W (nb S (r + 1)) 0 := by
  rw [nb_t h1]
  generalize nb S r = nr at *
  funext i j
  simp only [laG]
  by_cases h3 : (i < nr ∧ j < nb T w) ∨ i = nr ∧ j < nb T w
  · rw [if_pos h3, if_pos (show (i < nr + 1 ∧ j < nb T w) ∨ i = nr + 1 ∧ j < 0 by omega)]
  · rw [if_neg h3, if_neg (show ¬ ((i < nr + 1 ∧ j < nb T w) ∨ i = nr + 1 ∧ j < 0) by omega)]
theorem laG_0 {f : Nat → Nat → Int64} {m S T w : Nat} {W : am_Gr} : laG f m S T w W 0 0 = W := by
  funext i j
  simp [laG]
def yw (y : Int32) (n k : Nat) : Int32 := if n = 0 then y else nI k
set_option maxRecDepth 100000 in
set_option maxHeartbeats 4000000 in
theorem lp_lay1 {σ : am_G} {h w m S T : Nat} {f : am_Gr} {W : am_Gr} {r : Nat} {d k0 : Nat} {Q : am_Res → Prop} (hv : mV σ h w f) (hs : fSm f h w) (hm : m < 2 ^ 31) (hS : S < 64) (hT : T < 64) (hr : r < h) (hr1 : S.testBit r = true) (hd : 2 ≤ d) (hx : am_R am_TX d k0 c_M_layWork 104 [some (.ref 120), some (.int (nI m)), some (.int (nI S)), some (.int (nI T)), some (.int (nI r)), some (.int (nI w))] [] (mm (setK σ (nI (nb S r)) (nI (nb T w)) (laG f m S T w W (nb S r) (nb T w)))) Q) : ∀ (uu i : Nat), i + uu = w → am_R am_TX d k0 c_M_layWork 37 [some (.ref 120), some (.int (nI m)), some (.int (nI S)), some (.int (nI T)), some (.int (nI r)), some (.int (nI i))] [] (mm (setK σ (nI (nb S r)) (nI (nb T i)) (laG f m S T w W (nb S r) (nb T i)))) Q := by
  have hh1 := hv.1.1.1
  have hh6 := hv.1.1.2
  have hw1 := hv.1.2.1
  have hw6 := hv.1.2.2
  have hb := fun n => @nb_le S n
  have hbT := fun n => @nb_le T n
  intro uu
  induction uu with
  | zero =>
    intro i hi
    obtain rfl : w = i := by omega
    skip
    refine R_iload rfl rfl ?_
    refine R_aload_n rfl rfl ?_
    refine R_cV (as := []) rfl rfl iv_M_columns (sp_columns (pW_mV setK_fr hv)) (by omega) rfl rfl rfl (by decide) rfl rfl (Nat.le_of_ble_eq_true rfl) (fun _ q => ?_)
    obtain rfl := q.symm
    refine R_nicmp_ge (x := w) (y := w) rfl rfl (by omega) (by omega) (fun h1 => ?_) (fun z => by omega)
    exact hx
  | succ uu ih =>
    intro i hi
    have hnc : nb T i ≤ i := hbT i
    have hnr2 : nb S r ≤ r := hb r
    refine R_iload rfl rfl ?_
    refine R_aload_n rfl rfl ?_
    refine R_cV (as := []) rfl rfl iv_M_columns (sp_columns (pW_mV setK_fr hv)) (by omega) rfl rfl rfl (by decide) rfl rfl (Nat.le_of_ble_eq_true rfl) (fun _ q => ?_)
    obtain rfl := q.symm
    refine R_nicmp_ge (x := i) (y := w) rfl rfl (by omega) (by omega) (fun z => by omega) (fun h1 => ?_)
    refine R_iload_n rfl rfl ?_
    refine R_iload rfl rfl ?_
    refine R_cS (as := [.int (nI T), .int (nI i)]) rfl rfl iv_M_has (sp_mhas (s := T) (k := i) (by first | assumption | exact lw_lt (by omega) | exact wi_lt (by first | assumption | omega) (by omega) | exact wo_lt (by first | assumption | omega) (by omega) | omega) (by omega)) (by omega) rfl rfl rfl rfl (Nat.le_of_ble_eq_true rfl) (fun _ q => ?_)
    obtain rfl := q.symm
    refine R_zif_ne rfl rfl (fun h2 => ?_) (fun h2 => ?_)
    · refine R_aload_n rfl rfl ?_
      refine R_gP (x := 123) rfl rfl fp_11_5 rfl ?_
      refine R_bipush (v := 6) rfl (by decide) ?_
      refine R_aload_n rfl rfl ?_
      refine R_gIN (n := (nb S r)) rfl rfl fd_11_6 setK_h ?_
      refine R_imulN (x := 6) (y := (nb S r)) rfl ?_
      refine R_aload_n rfl rfl ?_
      refine R_gIN (n := (nb T i)) rfl rfl fd_11_7 setK_w ?_
      refine R_iaddN (x := (6 * (nb S r))) (y := (nb T i)) rfl ?_
      refine R_aload_n rfl rfl ?_
      refine R_iload rfl rfl ?_
      refine R_iload rfl rfl ?_
      refine R_cV (as := [.int (nI r), .int (nI i)]) rfl rfl iv_M_at (sp_at (i := r) (j := i) (pW_mV setK_fr hv) (by omega) (by omega)) (by omega) rfl rfl rfl (by decide) rfl rfl (Nat.le_of_ble_eq_true rfl) (fun _ q => ?_)
      obtain rfl := q.symm
      refine R_i2l rfl ?_
      refine R_iload_n rfl rfl ?_
      refine R_cS (as := [.long (((f r i).toInt32).toInt64), .int (nI m)]) rfl rfl iv_M_reduced (sp_reduced (v := (((f r i).toInt32).toInt64)) (n := m) (by omega)) (by omega) rfl rfl rfl rfl (Nat.le_of_ble_eq_true rfl) (fun _ q => ?_)
      obtain rfl := q.symm
      refine R_wL (j := ((6 * (nb S r)) + (nb T i))) rfl rfl rfl (by omega) (by decide) ?_
      refine R_aload_n rfl rfl ?_
      refine R_dup rfl rfl ?_
      refine R_gIN (n := (nb T i)) rfl rfl fd_11_7 setK_wL ?_
      refine R_iconst (v := 1) rfl rfl ?_
      refine R_iaddN (x := (nb T i)) (y := 1) rfl ?_
      refine R_pI rfl rfl fw_11_7 rfl ?_
      refine R_iincN (x := i) (m := 1) rfl rfl rfl (by decide) ?_
      refine R_goto rfl rfl ?_
      have e := ih (i + 1) (by omega)
      rw [nb_t h2] at e
      rw [sm3264 (hs r i (by omega) (by omega)), setK_put (by omega) (by omega), laG_s hS hT (by omega) (by omega) hr1 h2, setK_sw, nb_t h2]
      exact e.weak ⟨rfl, rfl, rfl, rfl, rfl, rfl, trivial⟩
    · refine R_goto rfl rfl ?_
      refine R_iincN (x := i) (m := 1) rfl rfl rfl (by decide) ?_
      refine R_goto rfl rfl ?_
      have e := ih (i + 1) (by omega)
      rw [nb_f h2] at e
      exact e.weak ⟨rfl, rfl, rfl, rfl, rfl, rfl, trivial⟩
set_option maxRecDepth 100000 in
set_option maxHeartbeats 4000000 in
theorem lp_lay {σ : am_G} {h w m S T : Nat} {f : am_Gr} {W : am_Gr} {y : Int32} {d k0 : Nat} {Q : am_Res → Prop} (hv : mV σ h w f) (hs : fSm f h w) (hm : m < 2 ^ 31) (hS : S < 64) (hT : T < 64) (hd : 2 ≤ d) (hx : am_R am_TX d k0 c_M_layWork 120 [some (.ref 120), some (.int (nI m)), some (.int (nI S)), some (.int (nI T)), some (.int (nI h)), none] [] (mm (setK σ (nI (nb S h)) (yw y (nb S h) (nb T w)) (laG f m S T w W (nb S h) 0))) Q) : ∀ (uu i : Nat), i + uu = h → am_R am_TX d k0 c_M_layWork 8 [some (.ref 120), some (.int (nI m)), some (.int (nI S)), some (.int (nI T)), some (.int (nI i)), none] [] (mm (setK σ (nI (nb S i)) (yw y (nb S i) (nb T w)) (laG f m S T w W (nb S i) 0))) Q := by
  have hh1 := hv.1.1.1
  have hh6 := hv.1.1.2
  have hw1 := hv.1.2.1
  have hw6 := hv.1.2.2
  have hb := fun n => @nb_le S n
  have hbT := fun n => @nb_le T n
  intro uu
  induction uu with
  | zero =>
    intro i hi
    obtain rfl : h = i := by omega
    refine R_iload rfl rfl ?_
    refine R_aload_n rfl rfl ?_
    refine R_cV (as := []) rfl rfl iv_M_rows (sp_rows (pW_mV setK_fr hv)) (by omega) rfl rfl rfl (by decide) rfl rfl (Nat.le_of_ble_eq_true rfl) (fun _ q => ?_)
    obtain rfl := q.symm
    refine R_nicmp_ge (x := h) (y := h) rfl rfl (by omega) (by omega) (fun h1 => ?_) (fun z => by omega)
    exact hx
  | succ uu ih =>
    intro i hi
    refine R_iload rfl rfl ?_
    refine R_aload_n rfl rfl ?_
    refine R_cV (as := []) rfl rfl iv_M_rows (sp_rows (pW_mV setK_fr hv)) (by omega) rfl rfl rfl (by decide) rfl rfl (Nat.le_of_ble_eq_true rfl) (fun _ q => ?_)
    obtain rfl := q.symm
    refine R_nicmp_ge (x := i) (y := h) rfl rfl (by omega) (by omega) (fun z => by omega) (fun h1 => ?_)
    refine R_iload_n rfl rfl ?_
    refine R_iload rfl rfl ?_
    refine R_cS (as := [.int (nI S), .int (nI i)]) rfl rfl iv_M_has (sp_mhas (s := S) (k := i) (by first | assumption | exact lw_lt (by omega) | exact wi_lt (by first | assumption | omega) (by omega) | exact wo_lt (by first | assumption | omega) (by omega) | omega) (by omega)) (by omega) rfl rfl rfl rfl (Nat.le_of_ble_eq_true rfl) (fun _ q => ?_)
    obtain rfl := q.symm
    refine R_zif_ne rfl rfl (fun h2 => ?_) (fun h2 => ?_)
    · refine R_aload_n rfl rfl ?_
      refine R_iconst (v := 0) rfl rfl ?_
      refine R_pI rfl rfl fw_11_7 rfl ?_
      refine R_iconst (v := 0) rfl rfl ?_
      refine R_istore rfl (by decide) ?_
      refine am_R.mem (σ' := (setK σ (nI (nb S i)) (nI (nb T 0)) (laG f m S T w W (nb S i) (nb T 0)))) (by rw [setK_sw]; rfl) ((lp_lay1 hv hs hm hS hT (by omega) h2 (by omega) ?_ w 0 (by omega)).weak ⟨rfl, rfl, rfl, rfl, rfl, rfl, trivial⟩)
      refine R_aload_n rfl rfl ?_
      refine R_dup rfl rfl ?_
      refine R_gIN (n := (nb S i)) rfl rfl fd_11_6 setK_h ?_
      refine R_iconst (v := 1) rfl rfl ?_
      refine R_iaddN (x := (nb S i)) (y := 1) rfl ?_
      refine R_pI rfl rfl fw_11_6 rfl ?_
      refine R_iincN (x := i) (m := 1) rfl rfl rfl (by decide) ?_
      refine R_goto rfl rfl ?_
      refine am_R.mem (σ' := (setK σ (nI (nb S (i + 1))) (yw y (nb S (i + 1)) (nb T w)) (laG f m S T w W (nb S (i + 1)) 0))) ?_ ((ih (i + 1) (by omega)).weak ⟨rfl, rfl, rfl, rfl, rfl, trivial⟩)
      unfold yw
      rw [setK_sh, laG_n h2, nb_t h2, if_neg (by omega)]
    · refine R_goto rfl rfl ?_
      refine R_iincN (x := i) (m := 1) rfl rfl rfl (by decide) ?_
      refine R_goto rfl rfl ?_
      have e := ih (i + 1) (by omega)
      rw [nb_f h2] at e
      exact e.weak ⟨rfl, rfl, rfl, rfl, rfl, trivial⟩
set_option maxRecDepth 100000 in
set_option maxHeartbeats 4000000 in
theorem sp_layWork {σ : am_G} {h w m S T : Nat} {f : am_Gr} (hv : mV σ h w f) (hs : fSm f h w) (hm : m < 2 ^ 31) (hS : S < 64) (hT : T < 64) : am_Call am_TX 3 0 c_M_layWork [.ref 120, .int (nI m), .int (nI S), .int (nI T)] (mm σ) (am_Ok none (fun σ1 => σ1 = (setK σ (nI (nb S h)) (nI (if nb S h = 0 then 0 else nb T w)) (laG f m S T w (fun i j => σ.2.1 123 (6 * i + j)) (nb S h) 0)))) := by
  have hh1 := hv.1.1.1
  have hh6 := hv.1.1.2
  have hw1 := hv.1.2.1
  have hw6 := hv.1.2.2
  have hb := fun n => @nb_le S n
  have hbT := fun n => @nb_le T n
  have hbh := hb h
  refine ⟨mf_M_layWork, Nat.le_of_ble_eq_true rfl, ?_⟩
  refine R_aload_n rfl rfl ?_
  refine R_iconst (v := 0) rfl rfl ?_
  refine R_pI rfl rfl fw_11_6 rfl ?_
  refine R_iconst (v := 0) rfl rfl ?_
  refine R_istore rfl (by decide) ?_
  refine am_R.mem (σ' := (setK σ (nI (nb S 0)) (yw (σ.1 120 7) (nb S 0) (nb T w)) (laG f m S T w (fun i j => σ.2.1 123 (6 * i + j)) (nb S 0) 0))) ?_ ((lp_lay (y := σ.1 120 7) hv hs hm hS hT (by omega) ?_ h 0 (by omega)).weak ⟨rfl, rfl, rfl, rfl, rfl, trivial⟩)
  · have e := setK_self (σ := σ)
    show _ = setK σ 0 (σ.1 120 7) (laG f m S T w (fun i j => σ.2.1 123 (6 * i + j)) 0 0)
    rw [laG_0, ← setK_sh (x := σ.1 120 6), e]
  refine R_aload_n rfl rfl ?_
  refine R_gIN (n := (nb S h)) rfl rfl fd_11_6 setK_h ?_
  refine R_nif_ne (x := (nb S h)) rfl rfl (by omega) (fun h1 => ?_) (fun h1 => ?_)
  · exact T_return rfl rfl (am_okv0 (by unfold yw; rw [if_neg (by omega), if_neg (by omega)]))
  · refine R_aload_n rfl rfl ?_
    refine R_iconst (v := 0) rfl rfl ?_
    refine R_pI rfl rfl fw_11_7 rfl ?_
    exact T_return rfl rfl (am_okv0 (by rw [setK_sw, if_pos (by omega)]; rfl))
theorem exR_l {f : am_Gr} {a b n : Nat} : exR f a b n a n = f a n := by unfold exR; rw [if_neg (Nat.lt_irrefl n)]
theorem exR_r {f : am_Gr} {a b n : Nat} : exR f a b n b n = f b n := by unfold exR; rw [if_neg (Nat.lt_irrefl n)]
theorem exR_comm {f : am_Gr} {a b n : Nat} : exR f a b n = exR f b a n := by
  funext i j; unfold exR; grind
set_option maxRecDepth 100000 in
set_option maxHeartbeats 4000000 in
theorem lp_swapWork {σ : am_G} {h w : Nat} {G : am_Gr} {a b : Nat} {d k0 : Nat} {Q : am_Res → Prop} (hh : h ≤ 6) (hw : w ≤ 6) (ha : a < 6) (hb : b < 6) (hx : am_R am_TX d k0 c_M_swapWork 64 [some (.ref 120), some (.int (nI a)), some (.int (nI b)), some (.int (nI w)), none, none] [] (mm (setK σ (nI h) (nI w) (exR G a b w))) Q) : ∀ (uu i : Nat), i + uu = w → am_R am_TX d k0 c_M_swapWork 2 [some (.ref 120), some (.int (nI a)), some (.int (nI b)), some (.int (nI i)), none, none] [] (mm (setK σ (nI h) (nI w) (exR G a b i))) Q := by
  intro uu
  induction uu with
  | zero =>
    intro i hi
    obtain rfl : w = i := by omega
    refine R_iload_n rfl rfl ?_
    refine R_aload_n rfl rfl ?_
    refine R_gIN (n := w) rfl rfl fd_11_7 setK_w ?_
    refine R_nicmp_ge (x := w) (y := w) rfl rfl (by omega) (by omega) (fun h1 => ?_) (fun z => by omega)
    exact hx
  | succ uu ih =>
    intro i hi
    refine R_iload_n rfl rfl ?_
    refine R_aload_n rfl rfl ?_
    refine R_gIN (n := w) rfl rfl fd_11_7 setK_w ?_
    refine R_nicmp_ge (x := i) (y := w) rfl rfl (by omega) (by omega) (fun z => by omega) (fun h1 => ?_)
    refine R_aload_n rfl rfl ?_
    refine R_gP (x := 123) rfl rfl fp_11_5 rfl ?_
    refine R_bipush (v := 6) rfl (by decide) ?_
    refine R_iload_n rfl rfl ?_
    refine R_imulN (x := 6) (y := a) rfl ?_
    refine R_iload_n rfl rfl ?_
    refine R_iaddN (x := (6 * a)) (y := i) rfl ?_
    refine R_xL (j := ((6 * a) + i)) rfl rfl rfl (by omega) (by decide) ?_
    refine R_lstore rfl (by decide) ?_
    refine R_aload_n rfl rfl ?_
    refine R_gP (x := 123) rfl rfl fp_11_5 rfl ?_
    refine R_bipush (v := 6) rfl (by decide) ?_
    refine R_iload_n rfl rfl ?_
    refine R_imulN (x := 6) (y := a) rfl ?_
    refine R_iload_n rfl rfl ?_
    refine R_iaddN (x := (6 * a)) (y := i) rfl ?_
    refine R_aload_n rfl rfl ?_
    refine R_gP (x := 123) rfl rfl fp_11_5 rfl ?_
    refine R_bipush (v := 6) rfl (by decide) ?_
    refine R_iload_n rfl rfl ?_
    refine R_imulN (x := 6) (y := b) rfl ?_
    refine R_iload_n rfl rfl ?_
    refine R_iaddN (x := (6 * b)) (y := i) rfl ?_
    refine R_xL (j := ((6 * b) + i)) rfl rfl rfl (by omega) (by decide) ?_
    refine R_wL (j := ((6 * a) + i)) rfl rfl rfl (by omega) (by decide) ?_
    refine R_aload_n rfl rfl ?_
    refine R_gP (x := 123) rfl rfl fp_11_5 rfl ?_
    refine R_bipush (v := 6) rfl (by decide) ?_
    refine R_iload_n rfl rfl ?_
    refine R_imulN (x := 6) (y := b) rfl ?_
    refine R_iload_n rfl rfl ?_
    refine R_iaddN (x := (6 * b)) (y := i) rfl ?_
    refine R_lload rfl rfl ?_
    refine R_wL (j := ((6 * b) + i)) rfl rfl rfl (by omega) (by decide) ?_
    refine R_iincN (x := i) (m := 1) rfl rfl rfl (by decide) ?_
    refine R_goto rfl rfl ?_
    refine am_R.mem (σ' := (setK σ (nI h) (nI w) (exR G a b (i + 1)))) ?_ ((ih (i + 1) (by omega)).weak ⟨rfl, rfl, rfl, rfl, trivial⟩)
    rw [setK_at ha (by omega), setK_at hb (by omega), setK_put ha (by omega), setK_put hb (by omega), exR_l, exR_r, exR_step]
set_option maxRecDepth 100000 in
set_option maxHeartbeats 4000000 in
theorem sp_swapWork {σ : am_G} {h w : Nat} {G : am_Gr} {a b : Nat} (hh : h ≤ 6) (hw : w ≤ 6) (ha : a < 6) (hb : b < 6) : am_Call am_TX 0 0 c_M_swapWork [.ref 120, .int (nI a), .int (nI b)] (mm (setK σ (nI h) (nI w) G)) (am_Ok none (fun σ1 => σ1 = (setK σ (nI h) (nI w) (exR G b a w)))) := by
  refine ⟨mf_M_swapWork, Nat.le_of_ble_eq_true rfl, ?_⟩
  refine R_iconst (v := 0) rfl rfl ?_
  refine R_istore_n rfl (by decide) ?_
  refine am_R.mem (σ' := (setK σ (nI h) (nI w) (exR G a b 0))) (by rw [exR_0]) ((lp_swapWork hh hw ha hb ?_ w 0 (by omega)).weak ⟨rfl, rfl, rfl, rfl, trivial⟩)
  exact T_return rfl rfl (am_okv0 (by rw [exR_comm]))
set_option maxRecDepth 100000 in
set_option maxHeartbeats 4000000 in
theorem lp_pivotRow {σ : am_G} {h w : Nat} {G : am_Gr} {fr c : Nat} {d k0 : Nat} (hh : h ≤ 6) (hw : w ≤ 6) (hc : c < 6)  : ∀ (uu i : Nat) (τ : am_G), i + uu = h → (τ = (setK σ (nI h) (nI w) G)) → am_R am_TX d k0 c_M_pivotRow 2 [some (.ref 120), some (.int (nI fr)), some (.int (nI c)), some (.int (nI i))] [] (mm τ) (am_Ok (some (.int (frI h (pvN G c uu i)))) (fun σ1 => σ1 = (setK σ (nI h) (nI w) G))) := by
  intro uu
  induction uu with
  | zero =>
    intro i τ hi hI
    obtain rfl : h = i := by omega
    skip
    refine R_iload_n rfl rfl ?_
    refine R_aload_n rfl rfl ?_
    refine R_gIN (n := h) rfl rfl fd_11_6 (by rw [hI]; exact setK_h) ?_
    refine R_nicmp_ge (x := h) (y := h) rfl rfl (by omega) (by omega) (fun h1 => ?_) (fun z => by omega)
    refine R_iconst (v := -1) rfl rfl ?_
    exact T_ireturn rfl rfl (am_oki (by unfold frI pvN; rw [if_neg (by omega)]) hI)
  | succ uu ih =>
    intro i τ hi hI
    have eg : τ.2.1 123 (6 * i + c) = G i c := by rw [hI, setK_at (by omega) hc]
    have hu := @pvN_le G c uu (i + 1)
    refine R_iload_n rfl rfl ?_
    refine R_aload_n rfl rfl ?_
    refine R_gIN (n := h) rfl rfl fd_11_6 (by rw [hI]; exact setK_h) ?_
    refine R_nicmp_ge (x := i) (y := h) rfl rfl (by omega) (by omega) (fun z => by omega) (fun h1 => ?_)
    refine R_aload_n rfl rfl ?_
    refine R_gP (x := 123) rfl rfl fp_11_5 rfl ?_
    refine R_bipush (v := 6) rfl (by decide) ?_
    refine R_iload_n rfl rfl ?_
    refine R_imulN (x := 6) (y := i) rfl ?_
    refine R_iload_n rfl rfl ?_
    refine R_iaddN (x := (6 * i)) (y := c) rfl ?_
    refine R_xL (j := ((6 * i) + c)) rfl rfl rfl (by omega) (by decide) ?_
    refine R_lconst (v := 0) rfl rfl ?_
    refine R_l_eq rfl rfl rfl (fun h2 => ?_) (fun h2 => ?_)
    · refine R_iincN (x := i) (m := 1) rfl rfl rfl (by decide) ?_
      refine R_goto rfl rfl ?_
      have e : pvN G c (uu + 1) i = pvN G c uu (i + 1) := by rw [eg] at h2; simp only [pvN]; first | rw [if_pos h2] | rw [if_pos (Classical.not_not.mp h2)]
      rw [e]
      exact (ih (i + 1) τ (by omega) hI).weak ⟨rfl, rfl, rfl, rfl, trivial⟩
    · refine R_iload_n rfl rfl ?_
      exact T_ireturn rfl rfl (am_oki (by show nI i = frI h (if G i c = 0 then _ else i); rw [eg] at h2; rw [if_neg h2]; exact (if_pos (by omega)).symm) hI)
set_option maxRecDepth 100000 in
set_option maxHeartbeats 4000000 in
theorem sp_pivotRow {σ : am_G} {h w : Nat} {G : am_Gr} {fr c : Nat} (hh : h ≤ 6) (hw : w ≤ 6) (hf : fr ≤ h) (hc : c < 6) : am_Call am_TX 0 0 c_M_pivotRow [.ref 120, .int (nI fr), .int (nI c)] (mm (setK σ (nI h) (nI w) G)) (am_Ok (some (.int (frI h (pv G h fr c)))) (fun σ1 => σ1 = (setK σ (nI h) (nI w) G))) := by
  refine ⟨mf_M_pivotRow, Nat.le_of_ble_eq_true rfl, ?_⟩
  refine R_iload_n rfl rfl ?_
  refine R_istore_n rfl (by decide) ?_
  exact (lp_pivotRow hh hw hc (h - fr) fr _ (by omega) rfl).weak ⟨rfl, rfl, rfl, rfl, trivial⟩
set_option maxRecDepth 100000 in
set_option maxHeartbeats 4000000 in
theorem lp_mel1 {σ : am_G} {h w : Nat} {G : am_Gr} {row c pr m : Nat} {p : Int64} {d k0 : Nat} {Q : am_Res → Prop} (hh : h ≤ 6) (hw : w ≤ 6) (hr : row < 6) (hc : c < 6) (hp : pr < 6) (hne : ¬ row = pr) (hm : m < 2 ^ 31) (hp0 : ¬ p = 0) (hd : 1 ≤ d) (hx : am_R am_TX d k0 c_M_eliminate 124 [some (.ref 120), some (.int (nI m)), some (.int (nI pr)), some (.int (nI c)), some (.long p), none, some (.long (G pr c)), none, some (.int (nI row)), some (.long (G row c)), none, some (.int (nI w)), none, none] [] (mm (setK σ (nI h) (nI w) (ccG G row c pr m p w))) Q) : ∀ (uu i : Nat), i + uu = w → am_R am_TX d k0 c_M_eliminate 44 [some (.ref 120), some (.int (nI m)), some (.int (nI pr)), some (.int (nI c)), some (.long p), none, some (.long (G pr c)), none, some (.int (nI row)), some (.long (G row c)), none, some (.int (nI i)), none, none] [] (mm (setK σ (nI h) (nI w) (ccG G row c pr m p i))) Q := by
  intro uu
  induction uu with
  | zero =>
    intro i hi
    obtain rfl : w = i := by omega
    refine R_iload rfl rfl ?_
    refine R_aload_n rfl rfl ?_
    refine R_gIN (n := w) rfl rfl fd_11_7 setK_w ?_
    refine R_nicmp_ge (x := w) (y := w) rfl rfl (by omega) (by omega) (fun h1 => ?_) (fun z => by omega)
    exact hx
  | succ uu ih =>
    intro i hi
    refine R_iload rfl rfl ?_
    refine R_aload_n rfl rfl ?_
    refine R_gIN (n := w) rfl rfl fd_11_7 setK_w ?_
    refine R_nicmp_ge (x := i) (y := w) rfl rfl (by omega) (by omega) (fun z => by omega) (fun h1 => ?_)
    refine R_lload rfl rfl ?_
    refine R_aload_n rfl rfl ?_
    refine R_gP (x := 123) rfl rfl fp_11_5 rfl ?_
    refine R_bipush (v := 6) rfl (by decide) ?_
    refine R_iload rfl rfl ?_
    refine R_imulN (x := 6) (y := row) rfl ?_
    refine R_iload rfl rfl ?_
    refine R_iaddN (x := (6 * row)) (y := i) rfl ?_
    refine R_xL (j := ((6 * row) + i)) rfl rfl rfl (by omega) (by decide) ?_
    refine R_lmul rfl ?_
    refine R_lload rfl rfl ?_
    refine R_aload_n rfl rfl ?_
    refine R_gP (x := 123) rfl rfl fp_11_5 rfl ?_
    refine R_bipush (v := 6) rfl (by decide) ?_
    refine R_iload_n rfl rfl ?_
    refine R_imulN (x := 6) (y := pr) rfl ?_
    refine R_iload rfl rfl ?_
    refine R_iaddN (x := (6 * pr)) (y := i) rfl ?_
    refine R_xL (j := ((6 * pr) + i)) rfl rfl rfl (by omega) (by decide) ?_
    refine R_lmul rfl ?_
    refine R_lsub rfl ?_
    refine R_lstore rfl (by decide) ?_
    refine R_aload_n rfl rfl ?_
    refine R_gP (x := 123) rfl rfl fp_11_5 rfl ?_
    refine R_bipush (v := 6) rfl (by decide) ?_
    refine R_iload rfl rfl ?_
    refine R_imulN (x := 6) (y := row) rfl ?_
    refine R_iload rfl rfl ?_
    refine R_iaddN (x := (6 * row)) (y := i) rfl ?_
    refine R_iload_n rfl rfl ?_
    refine R_nif_ne (x := m) rfl rfl (by omega) (fun h2 => ?_) (fun h2 => ?_)
    · refine R_lload rfl rfl ?_
      refine R_iload_n rfl rfl ?_
      refine R_cS (as := [.long (((G pr c) * ((setK σ (nI h) (nI w) (ccG G row c pr m p i)).2.1 123 ((6 * row) + i))) - ((G row c) * ((setK σ (nI h) (nI w) (ccG G row c pr m p i)).2.1 123 ((6 * pr) + i)))), .int (nI m)]) rfl rfl iv_M_reduced (sp_reduced (v := (((G pr c) * ((setK σ (nI h) (nI w) (ccG G row c pr m p i)).2.1 123 ((6 * row) + i))) - ((G row c) * ((setK σ (nI h) (nI w) (ccG G row c pr m p i)).2.1 123 ((6 * pr) + i))))) (n := m) (by omega)) (by omega) rfl rfl rfl rfl (Nat.le_of_ble_eq_true rfl) (fun _ q => ?_)
      obtain rfl := q.symm
      refine R_wL (j := ((6 * row) + i)) rfl rfl rfl (by omega) (by decide) ?_
      refine R_iincN (x := i) (m := 1) rfl rfl rfl (by decide) ?_
      refine R_goto rfl rfl ?_
      refine am_R.mem (σ' := (setK σ (nI h) (nI w) (ccG G row c pr m p (i + 1)))) ?_ ((ih (i + 1) (by omega)).weak ⟨rfl, rfl, rfl, rfl, rfl, rfl, rfl, rfl, rfl, trivial⟩)
      rw [setK_at hr (by omega), setK_at hp (by omega), ccG_a, ccG_b hne, setK_put hr (by omega), ← ccG_s]
      unfold redE
      rw [if_neg (by omega)]
    · refine R_lload rfl rfl ?_
      refine R_lload rfl rfl ?_
      refine R_ldiv rfl (by assumption) ?_
      refine R_goto rfl rfl ?_
      refine R_wL (j := ((6 * row) + i)) rfl rfl rfl (by omega) (by decide) ?_
      refine R_iincN (x := i) (m := 1) rfl rfl rfl (by decide) ?_
      refine R_goto rfl rfl ?_
      refine am_R.mem (σ' := (setK σ (nI h) (nI w) (ccG G row c pr m p (i + 1)))) ?_ ((ih (i + 1) (by omega)).weak ⟨rfl, rfl, rfl, rfl, rfl, rfl, rfl, rfl, rfl, trivial⟩)
      rw [setK_at hr (by omega), setK_at hp (by omega), ccG_a, ccG_b hne, setK_put hr (by omega), ← ccG_s]
      unfold redE
      rw [if_pos (by omega)]; unfold qtL; rw [if_neg hp0]
set_option maxRecDepth 100000 in
set_option maxHeartbeats 4000000 in
theorem lp_mel {σ : am_G} {h w : Nat} {G : am_Gr} {c rk m : Nat} {p : Int64} {d k0 : Nat} {Q : am_Res → Prop} (hh : h ≤ 6) (hw : w ≤ 6) (hc : c < w) (hr : rk < h) (hm : m < 2 ^ 31) (hp0 : ¬ p = 0) (hd : 1 ≤ d) (hx : ∀ (τ : am_G), (τ = (setK σ (nI h) (nI w) (clG m p c w rk (rk + 1) h G)) ∧ rk + 1 ≤ h) → am_R am_TX d k0 c_M_eliminate 130 [some (.ref 120), some (.int (nI m)), some (.int (nI rk)), some (.int (nI c)), some (.long p), none, some (.long (G rk c)), none, some (.int (nI h)), none, none, none, none, none] [] (mm τ) Q) : ∀ (uu i : Nat) (τ : am_G), i + uu = h → (τ = (setK σ (nI h) (nI w) (clG m p c w rk (rk + 1) i G)) ∧ rk + 1 ≤ i) → am_R am_TX d k0 c_M_eliminate 18 [some (.ref 120), some (.int (nI m)), some (.int (nI rk)), some (.int (nI c)), some (.long p), none, some (.long (G rk c)), none, some (.int (nI i)), none, none, none, none, none] [] (mm τ) Q := by
  intro uu
  induction uu with
  | zero =>
    intro i τ hi hI
    obtain rfl : h = i := by omega
    skip
    refine R_iload rfl rfl ?_
    refine R_aload_n rfl rfl ?_
    refine R_gIN (n := h) rfl rfl fd_11_6 (by first | exact setK_h | (rw [hI.1]; exact setK_h)) ?_
    refine R_nicmp_ge (x := h) (y := h) rfl rfl (by omega) (by omega) (fun h1 => ?_) (fun z => by omega)
    exact hx τ hI
  | succ uu ih =>
    intro i τ hi hI
    obtain ⟨e0, hlo⟩ := hI
    subst e0
    refine R_iload rfl rfl ?_
    refine R_aload_n rfl rfl ?_
    refine R_gIN (n := h) rfl rfl fd_11_6 (by first | exact setK_h | (rw [hI.1]; exact setK_h)) ?_
    refine R_nicmp_ge (x := i) (y := h) rfl rfl (by omega) (by omega) (fun z => by omega) (fun h1 => ?_)
    refine R_aload_n rfl rfl ?_
    refine R_gP (x := 123) rfl rfl fp_11_5 rfl ?_
    refine R_bipush (v := 6) rfl (by decide) ?_
    refine R_iload rfl rfl ?_
    refine R_imulN (x := 6) (y := i) rfl ?_
    refine R_iload_n rfl rfl ?_
    refine R_iaddN (x := (6 * i)) (y := c) rfl ?_
    refine R_xL (j := ((6 * i) + c)) rfl rfl rfl (by omega) (by decide) ?_
    refine R_lstore rfl (by decide) ?_
    refine R_iconst (v := 0) rfl rfl ?_
    refine R_istore rfl (by decide) ?_
    have e1 : (setK σ (nI h) (nI w) (clG m p c w rk (rk + 1) i G)).2.1 123 (6 * i + c) = G i c := by rw [setK_at (by omega) (by omega)]; unfold clG; rw [if_neg (by omega)]
    have e2 : (clG m p c w rk (rk + 1) i G) rk c = G rk c := by unfold clG; rw [if_neg (by omega)]
    have e3 : (clG m p c w rk (rk + 1) i G) i c = G i c := by unfold clG; rw [if_neg (by omega)]
    have z := lp_mel1 (σ := σ) (d := d) (k0 := k0) (Q := Q) (G := (clG m p c w rk (rk + 1) i G)) (row := i) (c := c) (pr := rk) (m := m) (p := p) hh hw (by omega) (by omega) (by omega) (by omega) hm hp0 hd
    rw [e2, e3] at z
    rw [e1]
    refine am_R.mem (σ' := (setK σ (nI h) (nI w) (ccG (clG m p c w rk (rk + 1) i G) i c rk m p 0))) (by rw [ccG_0]) ((z ?_ w 0 (by omega)).weak ⟨rfl, rfl, rfl, rfl, rfl, rfl, rfl, rfl, rfl, trivial⟩)
    refine R_iincN (x := i) (m := 1) rfl rfl rfl (by decide) ?_
    refine R_goto rfl rfl ?_
    refine am_R.mem (σ' := (setK σ (nI h) (nI w) (clG m p c w rk (rk + 1) (i + 1) G))) ?_ (ih (i + 1) _ (by omega) ⟨rfl, by omega⟩ |>.weak ⟨rfl, rfl, rfl, rfl, rfl, rfl, rfl, trivial⟩)
    rw [clG_s (by omega) (by omega)]
set_option maxRecDepth 100000 in
set_option maxHeartbeats 4000000 in
theorem sp_meliminate {σ : am_G} {h w : Nat} {G : am_Gr} {c rk m : Nat} {p : Int64} (hh : h ≤ 6) (hw : w ≤ 6) (hc : c < w) (hr : rk < h) (hm : m < 2 ^ 31) (hp0 : ¬ p = 0) : am_Call am_TX 1 0 c_M_eliminate [.ref 120, .int (nI m), .int (nI rk), .int (nI c), .long p] (mm (setK σ (nI h) (nI w) G)) (am_Ok none (fun σ1 => σ1 = (setK σ (nI h) (nI w) (clG m p c w rk (rk + 1) h G)))) := by
  refine ⟨mf_M_eliminate, Nat.le_of_ble_eq_true rfl, ?_⟩
  refine R_aload_n rfl rfl ?_
  refine R_gP (x := 123) rfl rfl fp_11_5 rfl ?_
  refine R_bipush (v := 6) rfl (by decide) ?_
  refine R_iload_n rfl rfl ?_
  refine R_imulN (x := 6) (y := rk) rfl ?_
  refine R_iload_n rfl rfl ?_
  refine R_iaddN (x := (6 * rk)) (y := c) rfl ?_
  refine R_xL (j := ((6 * rk) + c)) rfl rfl rfl (by omega) (by decide) ?_
  refine R_lstore rfl (by decide) ?_
  refine R_iload_n rfl rfl ?_
  refine R_iconst (v := 1) rfl rfl ?_
  refine R_iaddN (x := rk) (y := 1) rfl ?_
  refine R_istore rfl (by decide) ?_
  rw [setK_at (by omega) (by omega)]
  refine ((lp_mel (G := G) hh hw hc hr hm hp0 (by omega) (fun τ hτ => ?_) (h - (rk + 1)) (rk + 1) _ (by omega) ⟨by rw [clG_0 (Nat.le_refl _)], Nat.le_refl _⟩).weak ⟨rfl, rfl, rfl, rfl, rfl, rfl, rfl, trivial⟩)
  obtain rfl := hτ.1.symm
  exact T_return rfl rfl (am_okv0 rfl)
theorem el_p0 {m : Nat} {ab : Bool} {h w : Nat} {G : am_Gr} : ∀ c, ¬ (el m ab h w G c).2.2 = 0 ∨ w < c
  | 0 => Or.inl (by show ¬ (1 : Int64) = 0; decide)
  | c + 1 => by
    by_cases hc : w < c + 1
    · exact Or.inr hc
    · refine Or.inl ?_
      have ih := (@el_p0 m ab h w G c).resolve_right (by omega)
      have hge : (el m ab h w G c).2.1 ≤ h := (el_r c).2
      show ¬ (elS m ab h w c (el m ab h w G c)).2.2 = 0
      unfold elS
      by_cases hq : pv (el m ab h w G c).1 h (el m ab h w G c).2.1 c < h
      · rw [if_pos hq]
        show ¬ exR _ _ _ _ _ _ = 0
        have hnz : ¬ (el m ab h w G c).1 (pv (el m ab h w G c).1 h (el m ab h w G c).2.1 c) c = 0 := pvN_nz (h - (el m ab h w G c).2.1) (el m ab h w G c).2.1 (by show pv _ h _ c < _; omega)
        unfold exR
        rw [if_pos (by omega), if_pos rfl]
        exact hnz
      · rw [if_neg hq]; exact ih
/-- only the numbers inside count -/
theorem pvN_congr {G H : am_Gr} {c h : Nat} (e : ∀ i, i < h → G i c = H i c) : ∀ n r, r + n ≤ h → pvN G c n r = pvN H c n r
  | 0, _, _ => rfl
  | n + 1, r, hr => by
    simp only [pvN]
    rw [e r (by omega), pvN_congr e n (r + 1) (by omega)]
theorem el_congr {m h w : Nat} {ab : Bool} {G H : am_Gr} (e : ∀ i j, i < h → j < w → G i j = H i j) : ∀ c, c ≤ w → (el m ab h w G c).2 = (el m ab h w H c).2 ∧ ∀ i j, i < h → j < w → (el m ab h w G c).1 i j = (el m ab h w H c).1 i j
  | 0, _ => ⟨rfl, e⟩
  | c + 1, hc => by
    obtain ⟨h1, h2⟩ := el_congr (m := m) (ab := ab) e c (by omega)
    have hr := (@el_r m ab h w G c).2
    show (elS m ab h w c (el m ab h w G c)).2 = (elS m ab h w c (el m ab h w H c)).2 ∧ ∀ i j, i < h → j < w → (elS m ab h w c (el m ab h w G c)).1 i j = (elS m ab h w c (el m ab h w H c)).1 i j
    generalize el m ab h w G c = s at *
    generalize el m ab h w H c = t at *
    obtain ⟨s1, s2, s3⟩ := s
    obtain ⟨t1, t2, t3⟩ := t
    obtain ⟨rfl, rfl⟩ := Prod.mk.inj h1
    dsimp only at h2 hr
    have ep : pv s1 h s2 c = pv t1 h s2 c := pvN_congr (fun i hi => h2 i c hi (by omega)) _ _ (by omega)
    have hge : s2 ≤ pv s1 h s2 c := pv_ge
    unfold elS
    dsimp only
    rw [← ep]
    by_cases hq : pv s1 h s2 c < h
    · rw [if_pos hq, if_pos hq]
      generalize pv s1 h s2 c = r at *
      have ex : ∀ i j, i < h → j < w → exR s1 r s2 w i j = exR t1 r s2 w i j := fun i j hi hj => by
        unfold exR
        rw [h2 r j (by omega) hj, h2 s2 j (by omega) hj, h2 i j hi hj]
      refine ⟨?_, fun i j hi hj => ?_⟩
      · show (s2 + 1, exR s1 r s2 w s2 c) = (s2 + 1, exR t1 r s2 w s2 c)
        rw [ex s2 c (by omega) (by omega)]
      · show clG m s3 c w s2 _ h _ i j = clG m s3 c w s2 _ h _ i j
        unfold clG
        rw [ex s2 c (by omega) (by omega), ex i j hi hj, ex i c hi (by omega), ex s2 j (by omega) hj]
    · rw [if_neg hq, if_neg hq]
      exact ⟨rfl, h2⟩
set_option maxRecDepth 100000 in
set_option maxHeartbeats 4000000 in
theorem lp_rankBy {σ : am_G} {h w : Nat} {G : am_Gr} {m : Nat} {d k0 : Nat} (hh : h ≤ 6) (hw : w ≤ 6) (hm : m < 2 ^ 31) (hd : 2 ≤ d)  : ∀ (uu i : Nat), i + uu = w → am_R am_TX d k0 c_M_rankBy 16 [some (.ref 120), some (.int (nI m)), none, none, some (.int (nI ((el m false h w G i).2.1))), some (.long ((el m false h w G i).2.2)), none, some (.int (nI i)), none] [] (mm (setK σ (nI h) (nI w) ((el m false h w G i).1))) (am_Ok (some (.int (nI (el m false h w G w).2.1))) (fun σ1 => σ1 = (setK σ (nI h) (nI w) ((el m false h w G w).1)))) := by
  intro uu
  induction uu with
  | zero =>
    intro i hi
    obtain rfl : w = i := by omega
    have hr := @el_r m false h w G w
    refine R_iload rfl rfl ?_
    refine R_aload_n rfl rfl ?_
    refine R_gIN (n := w) rfl rfl fd_11_7 setK_w ?_
    refine R_nicmp_ge (x := w) (y := w) rfl rfl (by omega) (by omega) (fun h1 => ?_) (fun z => by omega)
    refine R_iload rfl rfl ?_
    exact T_ireturn rfl rfl (am_oki rfl rfl)
  | succ uu ih =>
    intro i hi
    have hr := @el_r m false h w G i
    have hp0 := (@el_p0 m false h w G i).resolve_right (by omega)
    have hge := @pv_ge (el m false h w G i).1 h (el m false h w G i).2.1 i
    refine R_iload rfl rfl ?_
    refine R_aload_n rfl rfl ?_
    refine R_gIN (n := w) rfl rfl fd_11_7 setK_w ?_
    refine R_nicmp_ge (x := i) (y := w) rfl rfl (by omega) (by omega) (fun z => by omega) (fun h1 => ?_)
    refine R_aload_n rfl rfl ?_
    refine R_iload rfl rfl ?_
    refine R_iload rfl rfl ?_
    by_cases h2 : pv ((el m false h w G i).1) h ((el m false h w G i).2.1) i < h
    · refine R_cV (as := [.int (nI ((el m false h w G i).2.1)), .int (nI i)]) rfl rfl iv_M_pivotRow ((by have z := sp_pivotRow (G := ((el m false h w G i).1)) (fr := ((el m false h w G i).2.1)) (c := i) hh hw (by omega) (by omega) (σ := σ); rw [show frI h (pv ((el m false h w G i).1) h ((el m false h w G i).2.1) i) = nI (pv ((el m false h w G i).1) h ((el m false h w G i).2.1) i) from if_pos h2] at z; exact z)) (by omega) rfl rfl rfl (by decide) rfl rfl (Nat.le_of_ble_eq_true rfl) (fun _ q => ?_)
      obtain rfl := q.symm
      refine R_istore rfl (by decide) ?_
      refine R_iload rfl rfl ?_
      refine R_iconst (v := -1) rfl rfl ?_
      refine R_icmp_ne rfl rfl (fun _ => ?_) (fun z => absurd z (nI_m1 (by omega)))
      refine R_aload_n rfl rfl ?_
      refine R_iload rfl rfl ?_
      refine R_iload rfl rfl ?_
      refine R_cV (as := [.int (nI ((el m false h w G i).2.1)), .int (nI (pv ((el m false h w G i).1) h ((el m false h w G i).2.1) i))]) rfl rfl iv_M_swapWork (sp_swapWork (G := ((el m false h w G i).1)) (a := ((el m false h w G i).2.1)) (b := (pv ((el m false h w G i).1) h ((el m false h w G i).2.1) i)) hh hw (by omega) (by omega)) (by omega) rfl rfl rfl (by decide) rfl rfl (Nat.le_of_ble_eq_true rfl) (fun _ q => ?_)
      obtain rfl := q.symm
      refine R_aload_n rfl rfl ?_
      refine R_iload_n rfl rfl ?_
      refine R_iload rfl rfl ?_
      refine R_iload rfl rfl ?_
      refine R_lload rfl rfl ?_
      refine R_cV (as := [.int (nI m), .int (nI ((el m false h w G i).2.1)), .int (nI i), .long ((el m false h w G i).2.2)]) rfl rfl iv_M_eliminate (sp_meliminate (G := (exR ((el m false h w G i).1) (pv ((el m false h w G i).1) h ((el m false h w G i).2.1) i) ((el m false h w G i).2.1) w)) (m := m) (rk := ((el m false h w G i).2.1)) (c := i) (p := ((el m false h w G i).2.2)) hh hw (by omega) (by omega) (by omega) hp0) (by omega) rfl rfl rfl (by decide) rfl rfl (Nat.le_of_ble_eq_true rfl) (fun _ q => ?_)
      obtain rfl := q.symm
      refine R_aload_n rfl rfl ?_
      refine R_gP (x := 123) rfl rfl fp_11_5 rfl ?_
      refine R_bipush (v := 6) rfl (by decide) ?_
      refine R_iload rfl rfl ?_
      refine R_imulN (x := 6) (y := ((el m false h w G i).2.1)) rfl ?_
      refine R_iload rfl rfl ?_
      refine R_iaddN (x := (6 * ((el m false h w G i).2.1))) (y := i) rfl ?_
      refine R_xL (j := ((6 * ((el m false h w G i).2.1)) + i)) rfl rfl rfl (by omega) (by decide) ?_
      refine R_lstore rfl (by decide) ?_
      refine R_iincN (x := ((el m false h w G i).2.1)) (m := 1) rfl rfl rfl (by decide) ?_
      refine R_iincN (x := i) (m := 1) rfl rfl rfl (by decide) ?_
      refine R_goto rfl rfl ?_
      have e := ih (i + 1) (by omega)
      rw [show el m false h w G (i + 1) = elS m false h w i (el m false h w G i) from rfl] at e
      simp only [elS, if_pos h2, cond] at e
      have e1 : (clG m (el m false h w G i).2.2 i w (el m false h w G i).2.1 ((el m false h w G i).2.1 + 1) h (exR (el m false h w G i).1 (pv (el m false h w G i).1 h (el m false h w G i).2.1 i) (el m false h w G i).2.1 w)) (el m false h w G i).2.1 i = exR (el m false h w G i).1 (pv (el m false h w G i).1 h (el m false h w G i).2.1 i) (el m false h w G i).2.1 w (el m false h w G i).2.1 i := by unfold clG; rw [if_neg (by omega)]
      rw [setK_at (by omega) (by omega), e1]
      exact e.weak ⟨rfl, rfl, rfl, rfl, rfl, trivial⟩
    · refine R_cV (as := [.int (nI ((el m false h w G i).2.1)), .int (nI i)]) rfl rfl iv_M_pivotRow ((by have z := sp_pivotRow (G := ((el m false h w G i).1)) (fr := ((el m false h w G i).2.1)) (c := i) hh hw (by omega) (by omega) (σ := σ); rw [show frI h (pv ((el m false h w G i).1) h ((el m false h w G i).2.1) i) = (-1) from if_neg h2] at z; exact z)) (by omega) rfl rfl rfl (by decide) rfl rfl (Nat.le_of_ble_eq_true rfl) (fun _ q => ?_)
      obtain rfl := q.symm
      refine R_istore rfl (by decide) ?_
      refine R_iload rfl rfl ?_
      refine R_iconst (v := -1) rfl rfl ?_
      refine R_icmp_ne rfl rfl (fun z => absurd z (by decide)) (fun _ => ?_)
      refine R_goto rfl rfl ?_
      refine R_iincN (x := i) (m := 1) rfl rfl rfl (by decide) ?_
      refine R_goto rfl rfl ?_
      have e := ih (i + 1) (by omega)
      rw [show el m false h w G (i + 1) = elS m false h w i (el m false h w G i) from rfl] at e
      simp only [elS, if_neg h2] at e
      exact e.weak ⟨rfl, rfl, rfl, rfl, rfl, trivial⟩
theorem rk_lay {f : am_Gr} {m S T h w : Nat} {W : am_Gr} (hw : w ≤ 6) (hT : T < 2 ^ w) : (el m false (nb S h) (if nb S h = 0 then 0 else nb T w) (laG f m S T w W (nb S h) 0) (if nb S h = 0 then 0 else nb T w)).2.1 = rkO f m S T h w := by
  by_cases h0 : nb S h = 0
  · have h1 := @rkO_le f m S T h w
    have h2 := (@el_r m false (nb S h) (if nb S h = 0 then 0 else nb T w) (laG f m S T w W (nb S h) 0) (if nb S h = 0 then 0 else nb T w)).2
    omega
  · rw [if_neg h0]
    unfold rkO rkG
    rw [pc_nbw hT hw]
    refine congrArg Prod.fst (el_congr (fun i j hi hj => ?_) _ (Nat.le_refl _)).1
    unfold laG
    rw [if_pos (Or.inl ⟨hi, hj⟩), gaA_in hi hj]
set_option maxRecDepth 100000 in
set_option maxHeartbeats 4000000 in
theorem sp_rankBy {σ : am_G} {h w m S T : Nat} {f : am_Gr} (hv : mV σ h w f) (hs : fSm f h w) (hm : m < 2 ^ 31) (hS : S < 64) (hT : T < 2 ^ w) : am_Call am_TX 4 0 c_M_rankBy [.ref 120, .int (nI m), .int (nI S), .int (nI T)] (mm σ) (am_Ok (some (.int (nI (rkO f m S T h w)))) (fun σ1 => smP pW σ σ1)) := by
  have hh1 := hv.1.1.1
  have hh6 := hv.1.1.2
  have hw1 := hv.1.2.1
  have hw6 := hv.1.2.2
  have hb1 : nb S h ≤ 6 := Nat.le_trans (nb_le h) hh6
  have hb2 : (if nb S h = 0 then 0 else nb T w) ≤ 6 := by split; omega; exact Nat.le_trans (nb_le w) hw6
  refine ⟨mf_M_rankBy, Nat.le_of_ble_eq_true rfl, ?_⟩
  refine R_aload_n rfl rfl ?_
  refine R_iload_n rfl rfl ?_
  refine R_iload_n rfl rfl ?_
  refine R_iload_n rfl rfl ?_
  refine R_cV (as := [.int (nI m), .int (nI S), .int (nI T)]) rfl rfl iv_M_layWork (sp_layWork (m := m) (S := S) (T := T) hv hs hm hS (p2_64 hT hv.1.2.2)) (by decide) rfl rfl rfl (by decide) rfl rfl (Nat.le_of_ble_eq_true rfl) (fun _ q => ?_)
  obtain rfl := q.symm
  refine R_iconst (v := 0) rfl rfl ?_
  refine R_istore rfl (by decide) ?_
  refine R_lconst (v := 1) rfl rfl ?_
  refine R_lstore rfl (by decide) ?_
  refine R_iconst (v := 0) rfl rfl ?_
  refine R_istore rfl (by decide) ?_
  have z := lp_rankBy (σ := σ) (d := 4) (k0 := 0) (m := m) (G := (laG f m S T w (fun i j => σ.2.1 123 (6 * i + j)) (nb S h) 0)) hb1 hb2 hm (by omega) (if nb S h = 0 then 0 else nb T w) 0 (by omega)
  rw [rk_lay hw6 hT] at z
  exact (z.mono (am_Ok.mono (fun τ e => by rw [e]; exact setK_fr))).weak ⟨rfl, rfl, rfl, rfl, rfl, trivial⟩
set_option maxRecDepth 100000 in
set_option maxHeartbeats 4000000 in
theorem sp_rankAll {σ : am_G} {h w m : Nat} {f : am_Gr} (hv : mV σ h w f) (hs : fSm f h w) (hm : m < 2 ^ 31) : am_Call am_TX 5 0 c_M_rankAll [.ref 120, .int (nI m)] (mm σ) (am_Ok (some (.int (nI (rkO f m (2 ^ h - 1) (2 ^ w - 1) h w)))) (fun σ1 => smP pW σ σ1)) := by
  have hh1 := hv.1.1.1
  have hh6 := hv.1.1.2
  have hw1 := hv.1.2.1
  have hw6 := hv.1.2.2
  refine ⟨mf_M_rankAll, Nat.le_of_ble_eq_true rfl, ?_⟩
  refine R_aload_n rfl rfl ?_
  refine R_iload_n rfl rfl ?_
  refine R_aload_n rfl rfl ?_
  refine R_cV (as := []) rfl rfl iv_M_allRows (sp_mallRows hv) (by decide) rfl rfl rfl (by decide) rfl rfl (Nat.le_of_ble_eq_true rfl) (fun _ q => ?_)
  obtain rfl := q.symm
  refine R_aload_n rfl rfl ?_
  refine R_cV (as := []) rfl rfl iv_M_allColumns (sp_mallColumns hv) (by decide) rfl rfl rfl (by decide) rfl rfl (Nat.le_of_ble_eq_true rfl) (fun _ q => ?_)
  obtain rfl := q.symm
  refine R_cV (as := [.int (nI m), .int (nI (2 ^ h - 1)), .int (nI (2 ^ w - 1))]) rfl rfl iv_M_rankBy (sp_rankBy (m := m) (S := (2 ^ h - 1)) (T := (2 ^ w - 1)) hv hs (by omega) (by first | assumption | exact lw_lt (by omega) | exact wi_lt (by first | assumption | omega) (by omega) | exact wo_lt (by first | assumption | omega) (by omega) | omega) (by first | assumption | exact lwP2 (by omega) | omega)) (by decide) rfl rfl rfl (by decide) rfl rfl (Nat.le_of_ble_eq_true rfl) (fun σ3 hσ3 => ?_)
  exact T_ireturn rfl rfl (am_oki rfl hσ3)
