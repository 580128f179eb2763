/-! ===== elimination ===== -/
def redE (m : Nat) (p v : Int64) : Int64 := if m = 0 then qtL v p else rdL m v
abbrev am_Gr : Type := Nat → Nat → Int64
def ccG (G : am_Gr) (row c pr m : Nat) (p : Int64) (n : Nat) : am_Gr := fun i j => if i = row ∧ j < n then redE m p (G pr c * G row j - G row c * G pr j) else G i j
theorem ccG_0 {G : am_Gr} {row c pr m : Nat} {p : Int64} : ccG G row c pr m p 0 = G := by
  funext i j; simp [ccG]
theorem ccG_s {G : am_Gr} {row c pr m n : Nat} {p : Int64} : up2 (ccG G row c pr m p n) row n (redE m p (G pr c * G row n - G row c * G pr n)) = ccG G row c pr m p (n + 1) := by
  funext i j
  simp only [up2, ccG]
  by_cases h : i = row ∧ j = n
  · rw [if_pos h, h.1, h.2, if_pos (show row = row ∧ n < n + 1 by omega)]
  · rw [if_neg h]
    by_cases h3 : i = row ∧ j < n
    · rw [if_pos h3, if_pos (show i = row ∧ j < n + 1 by omega)]
    · rw [if_neg h3, if_neg (show ¬ (i = row ∧ j < n + 1) by omega)]
theorem ccG_a {G : am_Gr} {row c pr m n : Nat} {p : Int64} : ccG G row c pr m p n row n = G row n := by
  simp only [ccG]; rw [if_neg (by omega)]
theorem ccG_b {G : am_Gr} {row c pr m n j : Nat} {p : Int64} (h : ¬ row = pr) : ccG G row c pr m p n pr j = G pr j := by
  simp only [ccG]; rw [if_neg (by omega)]
/-- the first row from one on whose number in a column is not 0 -/
def pvN (G : am_Gr) (c : Nat) : Nat → Nat → Nat
  | 0, r => r
  | n + 1, r => if G r c = 0 then pvN G c n (r + 1) else r
def pv (G : am_Gr) (h fr c : Nat) : Nat := pvN G c (h - fr) fr
theorem pvN_ge {G : am_Gr} {c : Nat} : ∀ n r, r ≤ pvN G c n r
  | 0, r => Nat.le_refl r
  | n + 1, r => by
    have := @pvN_ge G c n (r + 1)
    simp only [pvN]; split <;> omega
theorem pvN_le {G : am_Gr} {c : Nat} : ∀ n r, pvN G c n r ≤ r + n
  | 0, r => Nat.le_refl r
  | n + 1, r => by
    have := @pvN_le G c n (r + 1)
    simp only [pvN]; split <;> omega
theorem pvN_nz {G : am_Gr} {c : Nat} : ∀ n r, pvN G c n r < r + n → ¬ G (pvN G c n r) c = 0
  | 0, r, h => by simp [pvN] at h
  | n + 1, r, h => by
    simp only [pvN] at h ⊢
    by_cases h0 : G r c = 0
    · rw [if_pos h0] at h ⊢; exact pvN_nz n (r + 1) (by omega)
    · rw [if_neg h0] at h ⊢; exact h0
theorem pvN_z {G : am_Gr} {c : Nat} : ∀ n r q, r ≤ q → q < pvN G c n r → q < r + n → G q c = 0
  | 0, r, q, h1, h2, h3 => by omega
  | n + 1, r, q, h1, h2, h3 => by
    simp only [pvN] at h2
    by_cases h0 : G r c = 0
    · rw [if_pos h0] at h2
      by_cases e : q = r
      · rw [e]; exact h0
      · exact pvN_z n (r + 1) q (by omega) h2 (by omega)
    · rw [if_neg h0] at h2; omega
theorem pv_ge {G : am_Gr} {h fr c : Nat} : fr ≤ pv G h fr c := pvN_ge _ _
theorem pv_le {G : am_Gr} {h fr c : Nat} (hf : fr ≤ h) : pv G h fr c ≤ h := by
  have := @pvN_le G c (h - fr) fr
  unfold pv; omega
def clG (m : Nat) (p : Int64) (c w rk lo n : Nat) (G : am_Gr) : am_Gr := fun i j => if lo ≤ i ∧ i < n ∧ ¬ i = rk ∧ j < w then redE m p (G rk c * G i j - G i c * G rk j) else G i j
theorem clG_0 {m : Nat} {p : Int64} {c w rk lo n : Nat} {G : am_Gr} (h : n ≤ lo) : clG m p c w rk lo n G = G := by
  funext i j
  simp only [clG]
  rw [if_neg (by omega)]
theorem clG_s {m : Nat} {p : Int64} {c w rk lo n : Nat} {G : am_Gr} (hl : lo ≤ n) (hn : ¬ n = rk) : ccG (clG m p c w rk lo n G) n c rk m p w = clG m p c w rk lo (n + 1) G := by
  funext i j
  simp only [ccG]
  have e1 : ∀ j, clG m p c w rk lo n G n j = G n j := fun j => by unfold clG; rw [if_neg (by omega)]
  have e2 : ∀ j, clG m p c w rk lo n G rk j = G rk j := fun j => by unfold clG; rw [if_neg (by omega)]
  by_cases h : i = n ∧ j < w
  · rw [if_pos h, h.1, e1, e1, e2, e2]
    simp only [clG]
    rw [if_pos (show lo ≤ n ∧ n < n + 1 ∧ ¬ n = rk ∧ j < w by omega)]
  · rw [if_neg h]
    simp only [clG]
    by_cases h3 : lo ≤ i ∧ i < n ∧ ¬ i = rk ∧ j < w
    · rw [if_pos h3, if_pos (show lo ≤ i ∧ i < n + 1 ∧ ¬ i = rk ∧ j < w by omega)]
    · rw [if_neg h3, if_neg (show ¬ (lo ≤ i ∧ i < n + 1 ∧ ¬ i = rk ∧ j < w) by omega)]
theorem clG_k {m : Nat} {p : Int64} {c w rk lo n : Nat} {G : am_Gr} (hn : n = rk) : clG m p c w rk lo n G = clG m p c w rk lo (n + 1) G := by
  funext i j
  simp only [clG]
  by_cases h3 : lo ≤ i ∧ i < n ∧ ¬ i = rk ∧ j < w
  · rw [if_pos h3, if_pos (show lo ≤ i ∧ i < n + 1 ∧ ¬ i = rk ∧ j < w by omega)]
  · rw [if_neg h3, if_neg (show ¬ (lo ≤ i ∧ i < n + 1 ∧ ¬ i = rk ∧ j < w) by omega)]
abbrev am_El : Type := am_Gr × Nat × Int64
def elS (m : Nat) (ab : Bool) (h w c : Nat) (s : am_El) : am_El :=
  if pv s.1 h s.2.1 c < h then (clG m s.2.2 c w s.2.1 (cond ab 0 (s.2.1 + 1)) h (exR s.1 (pv s.1 h s.2.1 c) s.2.1 w), s.2.1 + 1, exR s.1 (pv s.1 h s.2.1 c) s.2.1 w s.2.1 c) else s
def el (m : Nat) (ab : Bool) (h w : Nat) (G : am_Gr) : Nat → am_El
  | 0 => (G, 0, 1)
  | c + 1 => elS m ab h w c (el m ab h w G c)
theorem el_r {m : Nat} {ab : Bool} {h w : Nat} {G : am_Gr} : ∀ c, (el m ab h w G c).2.1 ≤ c ∧ (el m ab h w G c).2.1 ≤ h
  | 0 => ⟨Nat.le_refl 0, Nat.zero_le h⟩
  | c + 1 => by
    have ih := @el_r m ab h w G c
    have hp := @pv_ge (el m ab h w G c).1 h (el m ab h w G c).2.1 c
    simp only [el, elS]
    by_cases hq : pv (el m ab h w G c).1 h (el m ab h w G c).2.1 c < h
    · rw [if_pos hq]
      show (el m ab h w G c).2.1 + 1 ≤ c + 1 ∧ (el m ab h w G c).2.1 + 1 ≤ h
      omega
    · rw [if_neg hq]; omega
theorem el_stop {m : Nat} {ab : Bool} {h w : Nat} {G : am_Gr} {c : Nat} (hr : h ≤ (el m ab h w G c).2.1) : ∀ n, c ≤ n → el m ab h w G n = el m ab h w G c := by
  intro n
  induction n with
  | zero => intro hc; rw [show c = 0 by omega]
  | succ n ih =>
    intro hc
    by_cases e : c = n + 1
    · rw [e]
    · have := ih (by omega)
      show elS m ab h w n (el m ab h w G n) = _
      rw [this]
      have hp := @pv_ge (el m ab h w G c).1 h (el m ab h w G c).2.1 n
      simp only [elS]
      rw [if_neg (by omega)]
/-- the rank of what was gathered -/
def rkG (m h w : Nat) (G : am_Gr) : Nat := (el m false h w G w).2.1
def frI (h r : Nat) : Int32 := if r < h then nI r else -1

set_option maxRecDepth 100000 in
set_option maxHeartbeats 4000000 in
theorem lp_filledRow {σ : am_G} {h w : Nat} {G : am_Gr} {fr c : Nat} {d k0 : Nat} (hh : h ≤ 6) (hw : w ≤ 6) (hc : c < 6) (hd : 1 ≤ d)  : ∀ (uu i : Nat) (τ : am_G), i + uu = h → (τ = (setM σ 19 h w G)) → am_R am_TX d k0 c_Reckoner_filledRow 2 [some (.ref 16), some (.int (nI fr)), some (.int (nI c)), some (.int (nI i))] [] (mm τ) (am_Ok (some (.int (frI h (pvN G c uu i)))) (fun σ1 => σ1 = (setM σ 19 h w G))) := by
  intro uu
  induction uu with
  | zero =>
    intro i τ hi hI
    obtain rfl : h = i := by omega
    skip
    refine R_iload_n rfl rfl ?_
    refine R_aload_n rfl rfl ?_
    refine R_gP (x := 19) rfl rfl fp_7_1 rfl ?_
    refine R_gIN (n := h) rfl rfl fd_4_0 (by rw [hI]; exact (vM_setM hh hw).1.1) ?_
    refine R_nicmp_ge (x := h) (y := h) rfl rfl (by omega) (by omega) (fun h1 => ?_) (fun z => by omega)
    refine R_iconst (v := -1) rfl rfl ?_
    exact T_ireturn rfl rfl (am_oki (by unfold frI pvN; rw [if_neg (by omega)]) hI)
  | succ uu ih =>
    intro i τ hi hI
    have eg : gL τ 19 i c = G i c := by rw [hI, gL_setM, if_pos ⟨by omega, by omega⟩]
    have hu := @pvN_le G c uu (i + 1)
    refine R_iload_n rfl rfl ?_
    refine R_aload_n rfl rfl ?_
    refine R_gP (x := 19) rfl rfl fp_7_1 rfl ?_
    refine R_gIN (n := h) rfl rfl fd_4_0 (by rw [hI]; exact (vM_setM hh hw).1.1) ?_
    refine R_nicmp_ge (x := i) (y := h) rfl rfl (by omega) (by omega) (fun z => by omega) (fun h1 => ?_)
    refine R_aload_n rfl rfl ?_
    refine R_gP (x := 19) rfl rfl fp_7_1 rfl ?_
    refine R_iload_n rfl rfl ?_
    refine R_iload_n rfl rfl ?_
    refine R_cV (as := [.int (nI i), .int (nI c)]) rfl rfl iv_Matrix_at (sp_Matrix_at (i := i) (j := c) (⟨rfl, rfl, rfl⟩ : isMat 19) (by omega) (by omega)) (by omega) rfl rfl rfl (by decide) rfl rfl (Nat.le_of_ble_eq_true rfl) (fun _ q => ?_)
    obtain rfl := q.symm
    refine R_lconst (v := 0) rfl rfl ?_
    refine R_l_eq rfl rfl rfl (fun h2 => ?_) (fun h2 => ?_)
    · refine R_iincN (x := i) (m := 1) rfl rfl rfl (by decide) ?_
      refine R_goto rfl rfl ?_
      have e : pvN G c (uu + 1) i = pvN G c uu (i + 1) := by rw [eg] at h2; simp only [pvN]; first | rw [if_pos h2] | rw [if_pos (Classical.not_not.mp h2)]
      rw [e]
      exact (ih (i + 1) τ (by omega) hI).weak ⟨rfl, rfl, rfl, rfl, trivial⟩
    · refine R_iload_n rfl rfl ?_
      exact T_ireturn rfl rfl (am_oki (by show nI i = frI h (if G i c = 0 then _ else i); rw [eg] at h2; rw [if_neg h2]; exact (if_pos (by omega)).symm) hI)
set_option maxRecDepth 100000 in
set_option maxHeartbeats 4000000 in
theorem sp_filledRow {σ : am_G} {h w : Nat} {G : am_Gr} {fr c : Nat} (hh : h ≤ 6) (hw : w ≤ 6) (hf : fr ≤ h) (hc : c < 6) : am_Call am_TX 1 0 c_Reckoner_filledRow [.ref 16, .int (nI fr), .int (nI c)] (mm (setM σ 19 h w G)) (am_Ok (some (.int (frI h (pv G h fr c)))) (fun σ1 => σ1 = (setM σ 19 h w G))) := by
  refine ⟨mf_Reckoner_filledRow, Nat.le_of_ble_eq_true rfl, ?_⟩
  refine R_iload_n rfl rfl ?_
  refine R_istore_n rfl (by decide) ?_
  exact (lp_filledRow hh hw hc (by omega) (h - fr) fr _ (by omega) rfl).weak ⟨rfl, rfl, rfl, rfl, trivial⟩
set_option maxRecDepth 100000 in
set_option maxHeartbeats 4000000 in
theorem lp_clearCell {σ : am_G} {h w : Nat} {G : am_Gr} {row c pr m : Nat} {p : Int64} {d k0 : Nat} {Q : am_Res → Prop} (hh : h ≤ 6) (hw : w ≤ 6) (hr : row < 6) (hc : c < 6) (hp : pr < 6) (hne : ¬ row = pr) (hm : m < 2 ^ 31) (hd : 2 ≤ d) (hx : am_R am_TX d k0 c_Reckoner_clearCell 105 [some (.ref 16), some (.int (nI row)), some (.int (nI c)), some (.int (nI pr)), some (.int (nI m)), some (.long p), none, some (.long (G pr c)), none, some (.long (G row c)), none, some (.int (nI w)), none, none] [] (mm (setM σ 19 h w (ccG G row c pr m p w))) Q) : ∀ (uu i : Nat), i + uu = w → am_R am_TX d k0 c_Reckoner_clearCell 25 [some (.ref 16), some (.int (nI row)), some (.int (nI c)), some (.int (nI pr)), some (.int (nI m)), some (.long p), none, some (.long (G pr c)), none, some (.long (G row c)), none, some (.int (nI i)), none, none] [] (mm (setM σ 19 h w (ccG G row c pr m p i))) Q := by
  intro uu
  induction uu with
  | zero =>
    intro i hi
    obtain rfl : w = i := by omega
    refine R_iload rfl rfl ?_
    refine R_aload_n rfl rfl ?_
    refine R_gP (x := 19) rfl rfl fp_7_1 rfl ?_
    refine R_gIN (n := w) rfl rfl fd_4_1 (vM_setM hh hw).2.1.1 ?_
    refine R_nicmp_ge (x := w) (y := w) rfl rfl (by omega) (by omega) (fun h1 => ?_) (fun z => by omega)
    exact hx
  | succ uu ih =>
    intro i hi
    refine R_iload rfl rfl ?_
    refine R_aload_n rfl rfl ?_
    refine R_gP (x := 19) rfl rfl fp_7_1 rfl ?_
    refine R_gIN (n := w) rfl rfl fd_4_1 (vM_setM hh hw).2.1.1 ?_
    refine R_nicmp_ge (x := i) (y := w) rfl rfl (by omega) (by omega) (fun z => by omega) (fun h1 => ?_)
    refine R_lload rfl rfl ?_
    refine R_aload_n rfl rfl ?_
    refine R_gP (x := 19) rfl rfl fp_7_1 rfl ?_
    refine R_iload_n rfl rfl ?_
    refine R_iload rfl rfl ?_
    refine R_cV (as := [.int (nI row), .int (nI i)]) rfl rfl iv_Matrix_at (sp_Matrix_at (i := row) (j := i) (⟨rfl, rfl, rfl⟩ : isMat 19) (by omega) (by omega)) (by omega) rfl rfl rfl (by decide) rfl rfl (Nat.le_of_ble_eq_true rfl) (fun _ q => ?_)
    obtain rfl := q.symm
    refine R_lmul rfl ?_
    refine R_lload rfl rfl ?_
    refine R_aload_n rfl rfl ?_
    refine R_gP (x := 19) rfl rfl fp_7_1 rfl ?_
    refine R_iload_n rfl rfl ?_
    refine R_iload rfl rfl ?_
    refine R_cV (as := [.int (nI pr), .int (nI i)]) rfl rfl iv_Matrix_at (sp_Matrix_at (i := pr) (j := i) (⟨rfl, rfl, rfl⟩ : isMat 19) (by omega) (by omega)) (by omega) rfl rfl rfl (by decide) rfl rfl (Nat.le_of_ble_eq_true rfl) (fun _ q => ?_)
    obtain rfl := q.symm
    refine R_lmul rfl ?_
    refine R_lsub rfl ?_
    refine R_lstore rfl (by decide) ?_
    refine R_aload_n rfl rfl ?_
    refine R_gP (x := 19) rfl rfl fp_7_1 rfl ?_
    refine R_iload_n rfl rfl ?_
    refine R_iload rfl rfl ?_
    refine R_iload rfl rfl ?_
    refine R_nif_ne (x := m) rfl rfl (by omega) (fun h2 => ?_) (fun h2 => ?_)
    · refine R_lload rfl rfl ?_
      refine R_iload rfl rfl ?_
      refine R_i2l rfl ?_
      refine R_cN (as := [.long (((G pr c) * (gL (setM σ 19 h w (ccG G row c pr m p i)) 19 row i)) - ((G row c) * (gL (setM σ 19 h w (ccG G row c pr m p i)) 19 pr i))), .long ((nI m).toInt64)]) rfl rfl iv_D_remainder (sp_rem (v := (((G pr c) * (gL (setM σ 19 h w (ccG G row c pr m p i)) 19 row i)) - ((G row c) * (gL (setM σ 19 h w (ccG G row c pr m p i)) 19 pr i)))) (n := m) (by omega)) (by omega) rfl rfl rfl rfl (Nat.le_of_ble_eq_true rfl) (fun _ q => ?_)
      obtain rfl := q.symm
      refine R_cV (as := [.int (nI row), .int (nI i), .long (rdL m (((G pr c) * (gL (setM σ 19 h w (ccG G row c pr m p i)) 19 row i)) - ((G row c) * (gL (setM σ 19 h w (ccG G row c pr m p i)) 19 pr i))))]) rfl rfl iv_Matrix_put (sp_Matrix_put (i := row) (j := i) (⟨rfl, rfl, rfl⟩ : isMat 19) (by omega) (by omega)) (by omega) rfl rfl rfl (by decide) rfl rfl (Nat.le_of_ble_eq_true rfl) (fun _ q => ?_)
      obtain rfl := q.symm
      refine R_iincN (x := i) (m := 1) rfl rfl rfl (by decide) ?_
      refine R_goto rfl rfl ?_
      refine am_R.mem (σ' := (setM σ 19 h w (ccG G row c pr m p (i + 1)))) ?_ ((ih (i + 1) (by omega)).weak ⟨rfl, rfl, rfl, rfl, rfl, rfl, rfl, rfl, rfl, trivial⟩)
      rw [gL_setM, if_pos ⟨by omega, by omega⟩, gL_setM, if_pos ⟨by omega, by omega⟩, ccG_a, ccG_b hne, setM_put (by omega) (by omega), ← ccG_s]
      unfold redE
      rw [if_neg (by omega)]
    · refine R_lload rfl rfl ?_
      refine R_lload rfl rfl ?_
      refine R_cN (as := [.long (((G pr c) * (gL (setM σ 19 h w (ccG G row c pr m p i)) 19 row i)) - ((G row c) * (gL (setM σ 19 h w (ccG G row c pr m p i)) 19 pr i))), .long p]) rfl rfl iv_D_quotient (sp_quotient) (by omega) rfl rfl rfl rfl (Nat.le_of_ble_eq_true rfl) (fun _ q => ?_)
      obtain rfl := q.symm
      refine R_goto rfl rfl ?_
      refine R_cV (as := [.int (nI row), .int (nI i), .long (qtL (((G pr c) * (gL (setM σ 19 h w (ccG G row c pr m p i)) 19 row i)) - ((G row c) * (gL (setM σ 19 h w (ccG G row c pr m p i)) 19 pr i))) p)]) rfl rfl iv_Matrix_put (sp_Matrix_put (i := row) (j := i) (⟨rfl, rfl, rfl⟩ : isMat 19) (by omega) (by omega)) (by omega) rfl rfl rfl (by decide) rfl rfl (Nat.le_of_ble_eq_true rfl) (fun _ q => ?_)
      obtain rfl := q.symm
      refine R_iincN (x := i) (m := 1) rfl rfl rfl (by decide) ?_
      refine R_goto rfl rfl ?_
      refine am_R.mem (σ' := (setM σ 19 h w (ccG G row c pr m p (i + 1)))) ?_ ((ih (i + 1) (by omega)).weak ⟨rfl, rfl, rfl, rfl, rfl, rfl, rfl, rfl, rfl, trivial⟩)
      rw [gL_setM, if_pos ⟨by omega, by omega⟩, gL_setM, if_pos ⟨by omega, by omega⟩, ccG_a, ccG_b hne, setM_put (by omega) (by omega), ← ccG_s]
      unfold redE
      rw [if_pos (by omega)]
set_option maxRecDepth 100000 in
set_option maxHeartbeats 4000000 in
theorem sp_clearCell {σ : am_G} {h w : Nat} {G : am_Gr} {row c pr m : Nat} {p : Int64} (hh : h ≤ 6) (hw : w ≤ 6) (hr : row < 6) (hc : c < 6) (hp : pr < 6) (hne : ¬ row = pr) (hm : m < 2 ^ 31) : am_Call am_TX 2 0 c_Reckoner_clearCell [.ref 16, .int (nI row), .int (nI c), .int (nI pr), .int (nI m), .long p] (mm (setM σ 19 h w G)) (am_Ok none (fun σ1 => σ1 = (setM σ 19 h w (ccG G row c pr m p w)))) := by
  refine ⟨mf_Reckoner_clearCell, Nat.le_of_ble_eq_true rfl, ?_⟩
  refine R_aload_n rfl rfl ?_
  refine R_gP (x := 19) rfl rfl fp_7_1 rfl ?_
  refine R_iload_n rfl rfl ?_
  refine R_iload_n rfl rfl ?_
  refine R_cV (as := [.int (nI pr), .int (nI c)]) rfl rfl iv_Matrix_at (sp_Matrix_at (i := pr) (j := c) (⟨rfl, rfl, rfl⟩ : isMat 19) (by omega) (by omega)) (by decide) rfl rfl rfl (by decide) rfl rfl (Nat.le_of_ble_eq_true rfl) (fun _ q => ?_)
  obtain rfl := q.symm
  refine R_lstore rfl (by decide) ?_
  refine R_aload_n rfl rfl ?_
  refine R_gP (x := 19) rfl rfl fp_7_1 rfl ?_
  refine R_iload_n rfl rfl ?_
  refine R_iload_n rfl rfl ?_
  refine R_cV (as := [.int (nI row), .int (nI c)]) rfl rfl iv_Matrix_at (sp_Matrix_at (i := row) (j := c) (⟨rfl, rfl, rfl⟩ : isMat 19) (by omega) (by omega)) (by decide) rfl rfl rfl (by decide) rfl rfl (Nat.le_of_ble_eq_true rfl) (fun _ q => ?_)
  obtain rfl := q.symm
  refine R_lstore rfl (by decide) ?_
  refine R_iconst (v := 0) rfl rfl ?_
  refine R_istore rfl (by decide) ?_
  have e1 : gL (setM σ 19 h w G) 19 pr c = G pr c := by rw [gL_setM, if_pos ⟨by omega, by omega⟩]
  have e2 : gL (setM σ 19 h w G) 19 row c = G row c := by rw [gL_setM, if_pos ⟨by omega, by omega⟩]
  rw [e1, e2]
  refine am_R.mem (σ' := (setM σ 19 h w (ccG G row c pr m p 0))) (by rw [ccG_0]) ((lp_clearCell hh hw hr hc hp hne hm (by omega) ?_ w 0 (by omega)).weak ⟨rfl, rfl, rfl, rfl, rfl, rfl, rfl, rfl, rfl, trivial⟩)
  exact T_return rfl rfl (am_okv0 rfl)
set_option maxRecDepth 100000 in
set_option maxHeartbeats 4000000 in
theorem lp_elim1_0 {σ : am_G} {h w : Nat} {G : am_Gr} {c rk m : Nat} {p : Int64} {d k0 : Nat} {Q : am_Res → Prop} (hh : h ≤ 6) (hw : w ≤ 6) (hc : c < w) (hr : rk < h) (hm : m < 2 ^ 31) (hd : 3 ≤ d) (hx : ∀ (τ : am_G), (τ = (setM σ 19 h w (clG m p c w rk (rk + 1) h G)) ∧ (rk + 1) ≤ h) → am_R am_TX d k0 c_Reckoner_eliminate 105 [some (.ref 16), some (.int (nI m)), some (.int 0), some (.int (nI rk)), some (.long p), none, some (.int (nI c)), none, some (.int (nI h))] [] (mm τ) Q) : ∀ (uu i : Nat) (τ : am_G), i + uu = h → (τ = (setM σ 19 h w (clG m p c w rk (rk + 1) i G)) ∧ (rk + 1) ≤ i) → am_R am_TX d k0 c_Reckoner_eliminate 69 [some (.ref 16), some (.int (nI m)), some (.int 0), some (.int (nI rk)), some (.long p), none, some (.int (nI c)), none, some (.int (nI i))] [] (mm τ) Q := by
  intro uu
  induction uu with
  | zero =>
    intro i τ hi hI
    obtain rfl : h = i := by omega
    have hlo := hI.2
    refine R_iload rfl rfl ?_
    refine R_aload_n rfl rfl ?_
    refine R_gP (x := 19) rfl rfl fp_7_1 rfl ?_
    refine R_gIN (n := h) rfl rfl fd_4_0 (by rw [hI.1]; exact (vM_setM hh hw).1.1) ?_
    refine R_nicmp_ge (x := h) (y := h) rfl rfl (by omega) (by omega) (fun h1 => ?_) (fun z => by omega)
    exact hx τ hI
  | succ uu ih =>
    intro i τ hi hI
    have hlo := hI.2
    refine R_iload rfl rfl ?_
    refine R_aload_n rfl rfl ?_
    refine R_gP (x := 19) rfl rfl fp_7_1 rfl ?_
    refine R_gIN (n := h) rfl rfl fd_4_0 (by rw [hI.1]; exact (vM_setM hh hw).1.1) ?_
    refine R_nicmp_ge (x := i) (y := h) rfl rfl (by omega) (by omega) (fun z => by omega) (fun h1 => ?_)
    refine R_iload rfl rfl ?_
    refine R_iload_n rfl rfl ?_
    refine R_nicmp_eq (x := i) (y := rk) rfl rfl (by omega) (by omega) (fun h2 => ?_) (fun h2 => ?_)
    · refine R_iincN (x := i) (m := 1) rfl rfl rfl (by decide) ?_
      refine R_goto rfl rfl ?_
      refine am_R.mem (σ' := (setM σ 19 h w (clG m p c w rk (rk + 1) (i + 1) G))) ?_ (ih (i + 1) _ (by omega) ⟨rfl, by omega⟩ |>.weak ⟨rfl, rfl, rfl, rfl, rfl, rfl, rfl, trivial⟩)
      rw [hI.1, clG_k (by omega)]
    · refine R_aload_n rfl rfl ?_
      refine R_iload rfl rfl ?_
      refine R_iload rfl rfl ?_
      refine R_iload_n rfl rfl ?_
      refine R_iload_n rfl rfl ?_
      refine R_lload rfl rfl ?_
      refine R_cV (as := [.int (nI i), .int (nI c), .int (nI rk), .int (nI m), .long p]) rfl rfl iv_Reckoner_clearCell ((by rw [hI.1]; exact sp_clearCell (G := clG m p c w rk (rk + 1) i G) (row := i) (c := c) (pr := rk) (m := m) (p := p) hh hw (by omega) (by omega) (by omega) (by omega) (by omega))) (by omega) rfl rfl rfl (by decide) rfl rfl (Nat.le_of_ble_eq_true rfl) (fun _ q => ?_)
      obtain rfl := q.symm
      refine R_iincN (x := i) (m := 1) rfl rfl rfl (by decide) ?_
      refine R_goto rfl rfl ?_
      refine am_R.mem (σ' := (setM σ 19 h w (clG m p c w rk (rk + 1) (i + 1) G))) ?_ (ih (i + 1) _ (by omega) ⟨rfl, by omega⟩ |>.weak ⟨rfl, rfl, rfl, rfl, rfl, rfl, rfl, trivial⟩)
      rw [clG_s (by omega) (by omega)]
set_option maxRecDepth 100000 in
set_option maxHeartbeats 4000000 in
theorem lp_elim_0 {σ : am_G} {h w : Nat} {G : am_Gr} {m : Nat} {d k0 : Nat} (hh : h ≤ 6) (hw : w ≤ 6) (hm : m < 2 ^ 31) (hd : 3 ≤ d)  : ∀ (uu i : Nat), i + uu = w → am_R am_TX d k0 c_Reckoner_eliminate 8 [some (.ref 16), some (.int (nI m)), some (.int 0), some (.int (nI ((el m false h w G i).2.1))), some (.long ((el m false h w G i).2.2)), none, some (.int (nI i)), none, none] [] (mm (setM σ 19 h w ((el m false h w G i).1))) (am_Ok (some (.int (nI (el m false h w G w).2.1))) (fun σ1 => σ1 = (setM σ 19 h w ((el m false h w G w).1)))) := by
  intro uu
  induction uu with
  | zero =>
    intro i hi
    obtain rfl : w = i := by omega
    have hr := @el_r m false h w G w
    refine R_iload rfl rfl ?_
    refine R_aload_n rfl rfl ?_
    refine R_gP (x := 19) rfl rfl fp_7_1 rfl ?_
    refine R_gIN (n := w) rfl rfl fd_4_1 (vM_setM hh hw).2.1.1 ?_
    refine R_nicmp_ge (x := w) (y := w) rfl rfl (by omega) (by omega) (fun h1 => ?_) (fun z => by omega)
    refine R_iload_n rfl rfl ?_
    exact T_ireturn rfl rfl (am_oki (rfl) (rfl))
  | succ uu ih =>
    intro i hi
    have hr := @el_r m false h w G i
    refine R_iload rfl rfl ?_
    refine R_aload_n rfl rfl ?_
    refine R_gP (x := 19) rfl rfl fp_7_1 rfl ?_
    refine R_gIN (n := w) rfl rfl fd_4_1 (vM_setM hh hw).2.1.1 ?_
    refine R_nicmp_ge (x := i) (y := w) rfl rfl (by omega) (by omega) (fun z => by omega) (fun h1 => ?_)
    refine R_iload_n rfl rfl ?_
    refine R_aload_n rfl rfl ?_
    refine R_gP (x := 19) rfl rfl fp_7_1 rfl ?_
    refine R_gIN (n := h) rfl rfl fd_4_0 (vM_setM hh hw).1.1 ?_
    refine R_nicmp_ge (x := ((el m false h w G i).2.1)) (y := h) rfl rfl (by omega) (by omega) (fun h2 => ?_) (fun h2 => ?_)
    · refine R_iload_n rfl rfl ?_
      exact T_ireturn rfl rfl (am_oki (by rw [el_stop (by omega) w (by omega)]) (by rw [el_stop (c := i) (by omega) w (by omega)]))
    · refine R_aload_n rfl rfl ?_
      refine R_iload_n rfl rfl ?_
      refine R_iload rfl rfl ?_
      by_cases h3 : pv ((el m false h w G i).1) h ((el m false h w G i).2.1) i < h
      · refine R_cV (as := [.int (nI ((el m false h w G i).2.1)), .int (nI i)]) rfl rfl iv_Reckoner_filledRow ((by have z := sp_filledRow (G := ((el m false h w G i).1)) (fr := ((el m false h w G i).2.1)) (c := i) hh hw (by omega) (by omega) (σ := σ); rw [show frI h (pv ((el m false h w G i).1) h ((el m false h w G i).2.1) i) = nI (pv ((el m false h w G i).1) h ((el m false h w G i).2.1) i) from if_pos h3] at z; exact z)) (by omega) rfl rfl rfl (by decide) rfl rfl (Nat.le_of_ble_eq_true rfl) (fun _ q => ?_)
        obtain rfl := q.symm
        refine R_istore rfl (by decide) ?_
        refine R_iload rfl rfl ?_
        refine R_iconst (v := -1) rfl rfl ?_
        refine R_icmp_eq rfl rfl (fun z => absurd z (nI_m1 (by omega))) (fun _ => ?_)
        refine R_aload_n rfl rfl ?_
        refine R_gP (x := 19) rfl rfl fp_7_1 rfl ?_
        refine R_iload rfl rfl ?_
        refine R_iload_n rfl rfl ?_
        refine R_cV (as := [.int (nI (pv ((el m false h w G i).1) h ((el m false h w G i).2.1) i)), .int (nI ((el m false h w G i).2.1))]) rfl rfl iv_Matrix_exchangeRows (sp_Matrix_exchangeRows (f := ((el m false h w G i).1)) (a := (pv ((el m false h w G i).1) h ((el m false h w G i).2.1) i)) (b := ((el m false h w G i).2.1)) ⟨rfl, rfl, rfl⟩ (vM_setM hh hw) (by omega) (by omega)) (by omega) rfl rfl rfl (by decide) rfl rfl (Nat.le_of_ble_eq_true rfl) (fun _ q => ?_)
        obtain rfl := q.symm
        refine R_iload_n rfl rfl ?_
        refine R_if_eq rfl rfl (fun _ => ?_) (fun z => absurd z (by decide))
        refine R_iload_n rfl rfl ?_
        refine R_iconst (v := 1) rfl rfl ?_
        refine R_iaddN (x := ((el m false h w G i).2.1)) (y := 1) rfl ?_
        refine R_istore rfl (by decide) ?_
        refine ((lp_elim1_0 (G := (exR (el m false h w G i).1 (pv (el m false h w G i).1 h (el m false h w G i).2.1 i) (el m false h w G i).2.1 w)) hh hw (by omega) (by omega) hm (by omega) (fun τ hτ => ?_) (h - ((el m false h w G i).2.1 + 1)) ((el m false h w G i).2.1 + 1) _ (by omega) ⟨by rw [setM_setM, clG_0 (Nat.le_refl _)], Nat.le_refl _⟩).weak ⟨rfl, rfl, rfl, rfl, rfl, rfl, rfl, trivial⟩)
        obtain rfl := hτ.1.symm
        have e1 : gL (setM σ 19 h w (clG m (el m false h w G i).2.2 i w (el m false h w G i).2.1 ((el m false h w G i).2.1 + 1) h (exR (el m false h w G i).1 (pv (el m false h w G i).1 h (el m false h w G i).2.1 i) (el m false h w G i).2.1 w))) 19 (el m false h w G i).2.1 i = (exR (el m false h w G i).1 (pv (el m false h w G i).1 h (el m false h w G i).2.1 i) (el m false h w G i).2.1 w) (el m false h w G i).2.1 i := by rw [gL_setM, if_pos ⟨by omega, by omega⟩]; unfold clG; rw [if_neg (by omega)]
        refine R_aload_n rfl rfl ?_
        refine R_gP (x := 19) rfl rfl fp_7_1 rfl ?_
        refine R_iload_n rfl rfl ?_
        refine R_iload rfl rfl ?_
        refine R_cV (as := [.int (nI ((el m false h w G i).2.1)), .int (nI i)]) rfl rfl iv_Matrix_at (sp_Matrix_at (i := ((el m false h w G i).2.1)) (j := i) (⟨rfl, rfl, rfl⟩ : isMat 19) (by omega) (by omega)) (by omega) rfl rfl rfl (by decide) rfl rfl (Nat.le_of_ble_eq_true rfl) (fun _ q => ?_)
        obtain rfl := q.symm
        refine R_lstore rfl (by decide) ?_
        refine R_iincN (x := ((el m false h w G i).2.1)) (m := 1) rfl rfl rfl (by decide) ?_
        refine R_iincN (x := i) (m := 1) rfl rfl rfl (by decide) ?_
        refine R_goto rfl rfl ?_
        have e := ih (i + 1) (by omega)
        rw [show el m false h w G (i + 1) = elS m false h w i (el m false h w G i) from rfl] at e
        simp only [elS, if_pos h3, cond] at e
        rw [e1]
        exact e.weak ⟨rfl, rfl, rfl, rfl, rfl, rfl, trivial⟩
      · refine R_cV (as := [.int (nI ((el m false h w G i).2.1)), .int (nI i)]) rfl rfl iv_Reckoner_filledRow ((by have z := sp_filledRow (G := ((el m false h w G i).1)) (fr := ((el m false h w G i).2.1)) (c := i) hh hw (by omega) (by omega) (σ := σ); rw [show frI h (pv ((el m false h w G i).1) h ((el m false h w G i).2.1) i) = (-1) from if_neg h3] at z; exact z)) (by omega) rfl rfl rfl (by decide) rfl rfl (Nat.le_of_ble_eq_true rfl) (fun _ q => ?_)
        obtain rfl := q.symm
        refine R_istore rfl (by decide) ?_
        refine R_iload rfl rfl ?_
        refine R_iconst (v := -1) rfl rfl ?_
        refine R_icmp_eq rfl rfl (fun _ => ?_) (fun z => absurd z (by decide))
        refine R_iincN (x := i) (m := 1) rfl rfl rfl (by decide) ?_
        refine R_goto rfl rfl ?_
        have e := ih (i + 1) (by omega)
        rw [show el m false h w G (i + 1) = elS m false h w i (el m false h w G i) from rfl] at e
        simp only [elS, if_neg h3] at e
        exact e.weak ⟨rfl, rfl, rfl, rfl, rfl, rfl, trivial⟩
set_option maxRecDepth 100000 in
set_option maxHeartbeats 4000000 in
theorem sp_elim_0 {σ : am_G} {h w : Nat} {G : am_Gr} {m : Nat} (hh : h ≤ 6) (hw : w ≤ 6) (hm : m < 2 ^ 31) : am_Call am_TX 3 0 c_Reckoner_eliminate [.ref 16, .int (nI m), .int 0] (mm (setM σ 19 h w G)) (am_Ok (some (.int (nI (el m false h w G w).2.1))) (fun σ1 => σ1 = (setM σ 19 h w ((el m false h w G w).1)))) := by
  refine ⟨mf_Reckoner_eliminate, Nat.le_of_ble_eq_true rfl, ?_⟩
  refine R_iconst (v := 0) rfl rfl ?_
  refine R_istore_n rfl (by decide) ?_
  refine R_lconst (v := 1) rfl rfl ?_
  refine R_lstore rfl (by decide) ?_
  refine R_iconst (v := 0) rfl rfl ?_
  refine R_istore rfl (by decide) ?_
  exact (lp_elim_0 (G := G) hh hw hm (by omega) w 0 (by omega)).weak ⟨rfl, rfl, rfl, rfl, rfl, rfl, trivial⟩
