/-! ===== changes of the class's desk ===== -/
/-- a snapshot: height, width, entries, vector, relations, primes' number, the other ints -/
abbrev am_Sn : Type := Nat × Nat × am_Gr × am_Gr × Nat × am_Gr × Nat × (Nat → Int32)
def cS (σ : am_G) (s : Nat) (D : am_Sn) : Prop := vS σ s D.1 D.2.1 D.2.2.1 D.2.2.2.1 D.2.2.2.2.1 D.2.2.2.2.2.1 D.2.2.2.2.2.2.1 D.2.2.2.2.2.2.2
/-- what can be undone: n snapshots, the latest first, in a ring -/
def cH (σ : am_G) (n : Nat) (Hs : Nat → am_Sn) : Prop := ∃ t, t < 6 ∧ σ.1 37 1 = nI t ∧ σ.1 37 0 = nI n ∧ n ≤ 6 ∧ ∀ i, i < n → cS σ (39 + 10 * ((t + 5 - i) % 6)) (Hs i)
def hC (D : am_Sn) (Hs : Nat → am_Sn) : Nat → am_Sn := fun i => match i with
  | 0 => D
  | i + 1 => Hs i
theorem cS.fr {P : Nat → Nat → Prop} {σ σ1 : am_G} (q : smP P σ σ1) {s : Nat} {D : am_Sn} (h : cS σ s D) (hp : ∀ a b, s ≤ a → a < s + 10 → ¬ P a b) : cS σ1 s D := q.vS h hp
theorem cH.fr {P : Nat → Nat → Prop} {σ σ1 : am_G} (q : smP P σ σ1) {n : Nat} {Hs : Nat → am_Sn} (h : cH σ n Hs) (hp : ∀ a b, 37 ≤ a → a < 99 → ¬ P a b) : cH σ1 n Hs := by
  obtain ⟨t, a, b, c, d, e⟩ := h
  exact ⟨t, a, (q.i (hp _ _ (by omega) (by omega))).trans b, (q.i (hp _ _ (by omega) (by omega))).trans c, d, fun i hi => (e i hi).fr q (fun x y h1 h2 => hp x y (by omega) (by omega))⟩
theorem sp_pushV {σ : am_G} {n : Nat} {Hs : Nat → am_Sn} {D : am_Sn} (hv : cS σ 26 D) (hH : cH σ n Hs) : am_Call am_TX 3 0 c_History_push [.ref 37, .ref 26] (mm σ) (am_Ok none (fun σ1 => smP (plc 37 99) σ σ1 ∧ cH σ1 (nxZ n) (hC D Hs))) := by
  obtain ⟨t, ht, h1, h2, h3, h4⟩ := hH
  refine (sp_push (t := t) (z := n) hv isState_26 (Or.inl (by omega)) h1 ht h2 h3).mono (am_Ok.mono fun τ e => ?_)
  subst e
  have f1 : smP (plc (39 + 10 * t) (39 + 10 * t + 10)) σ (putS σ (39 + 10 * t) D.1 D.2.1 D.2.2.1 D.2.2.2.1 D.2.2.2.2.1 D.2.2.2.2.2.1 D.2.2.2.2.2.2.1 D.2.2.2.2.2.2.2) := putS_fr (fun a b _ _ => by unfold plc; omega)
  have f2 : ∀ {τ : am_G} {x y : Int32}, smP (plc 37 38) τ (sI (sI τ 37 1 x) 37 0 y) := (smP_sI (p := plc 37 38) (k := 37) (j := 1) (by unfold plc; omega)).trans (smP_sI (p := plc 37 38) (k := 37) (j := 0) (by unfold plc; omega))
  refine ⟨(f1.mono (fun a b => by unfold plc; omega)).trans (f2.mono (fun a b => by unfold plc; omega)), nxT t, ?_, ?_, sI_s, ?_, fun i hi => ?_⟩
  · unfold nxT; split <;> omega
  · rw [sI_o (Or.inr (by decide))]; exact sI_s
  · unfold nxZ; omega
  · refine cS.fr f2 ?_ (fun a b _ _ => by unfold plc; omega)
    have hz : i < min (n + 1) 6 := hi
    match i, hz with
    | 0, _ =>
      rw [show (nxT t + 5 - 0) % 6 = t by unfold nxT; split <;> omega]
      exact vS_putS hv.1.1.2 hv.1.2.1.2 hv.2.2.1.1.2 hv.2.2.2.1.2
    | i + 1, hz =>
      have e1 : (nxT t + 5 - (i + 1)) % 6 = (t + 5 - i) % 6 := by unfold nxT; split <;> omega
      have e2 : (t + 5 - i) % 6 ≠ t := by omega
      rw [e1]
      exact (h4 i (by omega)).fr f1 (fun a b _ _ => by unfold plc; omega)
theorem sp_popV {σ : am_G} {n : Nat} {Hs : Nat → am_Sn} (hH : cH σ (n + 1) Hs) : am_Call am_TX 3 0 c_History_popInto [.ref 37, .ref 26] (mm σ) (am_Ok none (fun σ1 => smP (fun a _ => 26 ≤ a ∧ a < 38) σ σ1 ∧ cS σ1 26 (Hs 0) ∧ cH σ1 n (fun i => Hs (i + 1)))) := by
  obtain ⟨t, ht, h1, h2, h3, h4⟩ := hH
  have h0 := h4 0 (by omega)
  have ep : pvT t = (t + 5 - 0) % 6 := by unfold pvT; split <;> omega
  rw [← ep] at h0
  refine (sp_popInto (t := t) (z := n + 1) h0 isState_26 (Or.inl (by omega)) h1 ht h2 h3 (by omega)).mono (am_Ok.mono fun τ e => ?_)
  subst e
  have hv := h0
  have f1 : smP (plc 26 36) σ (putS σ 26 (Hs 0).1 (Hs 0).2.1 (Hs 0).2.2.1 (Hs 0).2.2.2.1 (Hs 0).2.2.2.2.1 (Hs 0).2.2.2.2.2.1 (Hs 0).2.2.2.2.2.2.1 (Hs 0).2.2.2.2.2.2.2) := putS_fr (fun a b _ _ => by unfold plc; omega)
  have f2 : ∀ {τ : am_G} {x y : Int32}, smP (plc 37 38) τ (sI (sI τ 37 1 x) 37 0 y) := (smP_sI (p := plc 37 38) (k := 37) (j := 1) (by unfold plc; omega)).trans (smP_sI (p := plc 37 38) (k := 37) (j := 0) (by unfold plc; omega))
  refine ⟨(f1.mono (fun a b => by unfold plc; omega)).trans (f2.mono (fun a b => by unfold plc; omega)), ?_, pvT t, ?_, ?_, sI_s, by omega, fun i hi => ?_⟩
  · exact cS.fr f2 (vS_putS hv.1.1.2 hv.1.2.1.2 hv.2.2.1.1.2 hv.2.2.2.1.2) (fun a b _ _ => by unfold plc; omega)
  · unfold pvT; split <;> omega
  · rw [sI_o (Or.inr (by decide))]; exact sI_s
  · refine cS.fr f2 ?_ (fun a b _ _ => by unfold plc; omega)
    rw [show (pvT t + 5 - i) % 6 = (t + 5 - (i + 1)) % 6 by unfold pvT; split <;> omega]
    exact (h4 (i + 1) (by omega)).fr f1 (fun a b _ _ => by unfold plc; omega)
/-- one part of a snapshot changed -/
theorem vS_mat {σ σ1 : am_G} {s h w rh pn : Nat} {f f2 v rl : am_Gr} {I : Nat → Int32} (hv : vS σ s h w f v rh rl pn I) (q : smP (plc (s + 1) (s + 3)) σ σ1) (hm : vM σ1 (s + 1) h w f2) : vS σ1 s h w f2 v rh rl pn I := by
  obtain ⟨a1, a2, a3, a4, a5, a6, a7, a8, a9, a10⟩ := hv
  have n : ∀ {a b : Nat}, (a < s + 1 ∨ s + 3 ≤ a) → ¬ plc (s + 1) (s + 3) a b := fun h => plc_n h
  exact ⟨hm, q.vM a2 (fun b => n (by omega)) (fun b => n (by omega)), q.vM a3 (fun b => n (by omega)) (fun b => n (by omega)), ⟨(q.i (n (by omega))).trans a4.1, a4.2⟩, (q.i (n (by omega))).trans a5, (q.i (n (by omega))).trans a6, (q.i (n (by omega))).trans a7, (q.i (n (by omega))).trans a8, fun j hj => (q.i (n (by omega))).trans (a9 j hj), fun j hj => (q.i (n (by omega))).trans (a10 j hj)⟩
theorem vS_vec {σ σ1 : am_G} {s h w rh pn : Nat} {f v v2 rl : am_Gr} {I : Nat → Int32} (hv : vS σ s h w f v rh rl pn I) (q : smP (plc (s + 5) (s + 7)) σ σ1) (hm : vM σ1 (s + 5) 1 h v2) : vS σ1 s h w f v2 rh rl pn I := by
  obtain ⟨a1, a2, a3, a4, a5, a6, a7, a8, a9, a10⟩ := hv
  have n : ∀ {a b : Nat}, (a < s + 5 ∨ s + 7 ≤ a) → ¬ plc (s + 5) (s + 7) a b := fun h => plc_n h
  exact ⟨q.vM a1 (fun b => n (by omega)) (fun b => n (by omega)), hm, q.vM a3 (fun b => n (by omega)) (fun b => n (by omega)), ⟨(q.i (n (by omega))).trans a4.1, a4.2⟩, (q.i (n (by omega))).trans a5, (q.i (n (by omega))).trans a6, (q.i (n (by omega))).trans a7, (q.i (n (by omega))).trans a8, fun j hj => (q.i (n (by omega))).trans (a9 j hj), fun j hj => (q.i (n (by omega))).trans (a10 j hj)⟩
theorem vS_rel {σ σ1 : am_G} {s h w rh rh2 pn : Nat} {f v rl rl2 : am_Gr} {I : Nat → Int32} (hv : vS σ s h w f v rh rl pn I) (q : smP (plc (s + 7) (s + 9)) σ σ1) (hm : vM σ1 (s + 7) rh2 h rl2) : vS σ1 s h w f v rh2 rl2 pn I := by
  obtain ⟨a1, a2, a3, a4, a5, a6, a7, a8, a9, a10⟩ := hv
  have n : ∀ {a b : Nat}, (a < s + 7 ∨ s + 9 ≤ a) → ¬ plc (s + 7) (s + 9) a b := fun h => plc_n h
  exact ⟨q.vM a1 (fun b => n (by omega)) (fun b => n (by omega)), q.vM a2 (fun b => n (by omega)) (fun b => n (by omega)), hm, ⟨(q.i (n (by omega))).trans a4.1, a4.2⟩, (q.i (n (by omega))).trans a5, (q.i (n (by omega))).trans a6, (q.i (n (by omega))).trans a7, (q.i (n (by omega))).trans a8, fun j hj => (q.i (n (by omega))).trans (a9 j hj), fun j hj => (q.i (n (by omega))).trans (a10 j hj)⟩
/-- the ints: 0, 1 the counts, 2, 3 the claim, 4 .. 7 the guess -/
def uJ (I : Nat → Int32) (k : Nat) (x : Int32) : Nat → Int32 := fun j => if j = k then x else I j
theorem vS_cl {σ : am_G} {s h w rh pn : Nat} {f v rl : am_Gr} {I : Nat → Int32} {x y : Int32} (hv : vS σ s h w f v rh rl pn I) : vS (clS σ (s + 4) x y) s h w f v rh rl pn (uJ (uJ I 2 x) 3 y) := by
  have q : smP (plc (s + 4) (s + 5)) σ (clS σ (s + 4) x y) := clS_fr (fun b => by unfold plc; omega)
  obtain ⟨a1, a2, a3, a4, a5, a6, a7, a8, a9, a10⟩ := hv
  have n : ∀ {a b : Nat}, (a < s + 4 ∨ s + 5 ≤ a) → ¬ plc (s + 4) (s + 5) a b := fun h => plc_n h
  refine ⟨q.vM a1 (fun b => n (by omega)) (fun b => n (by omega)), q.vM a2 (fun b => n (by omega)) (fun b => n (by omega)), q.vM a3 (fun b => n (by omega)) (fun b => n (by omega)), ⟨(q.i (n (by omega))).trans a4.1, a4.2⟩, (q.i (n (by omega))).trans a5, (q.i (n (by omega))).trans a6, ?_, sI_s, fun j hj => ?_, fun j hj => ?_⟩
  · unfold clS; rw [sI_o (Or.inr (by decide)), sI_s]; rfl
  · rw [q.i (n (by omega)), a9 j hj]; unfold uJ; rw [if_neg (by omega), if_neg (by omega)]
  · rw [q.i (n (by omega)), a10 j hj]; unfold uJ; rw [if_neg (by omega), if_neg (by omega)]
/-- one of the counts -/
theorem vS_ct {σ : am_G} {s h w rh pn k : Nat} {f v rl : am_Gr} {I : Nat → Int32} {x : Int32} (hk : k < 2) (hv : vS σ s h w f v rh rl pn I) : vS (sI σ s (4 + k) x) s h w f v rh rl pn (uJ I k x) := by
  have q : smP (fun a b => a = s ∧ b = 4 + k) σ (sI σ s (4 + k) x) := smP_sI ⟨rfl, rfl⟩
  obtain ⟨a1, a2, a3, a4, a5, a6, a7, a8, a9, a10⟩ := hv
  refine ⟨q.vM a1 (fun b => by omega) (fun b => by omega), q.vM a2 (fun b => by omega) (fun b => by omega), q.vM a3 (fun b => by omega) (fun b => by omega), ⟨(q.i (by omega)).trans a4.1, a4.2⟩, ?_, ?_, ?_, ?_, fun j hj => ?_, fun j hj => ?_⟩
  · rcases (show k = 0 ∨ k = 1 by omega) with rfl | rfl
    · exact sI_s
    · rw [sI_o (Or.inr (by decide)), a5]; rfl
  · rcases (show k = 0 ∨ k = 1 by omega) with rfl | rfl
    · rw [sI_o (Or.inr (by decide)), a6]; rfl
    · exact sI_s
  · rw [q.i (by omega), a7]; unfold uJ; rw [if_neg (by omega)]
  · rw [q.i (by omega), a8]; unfold uJ; rw [if_neg (by omega)]
  · rw [q.i (by omega), a9 j hj]; unfold uJ; rw [if_neg (by omega)]
  · rw [q.i (by omega), a10 j hj]; unfold uJ; rw [if_neg (by omega)]
/-- the guess -/
def uG (I : Nat → Int32) (x : Nat → Int32) : Nat → Int32 := fun j => if 4 ≤ j ∧ j < 8 then x (j - 4) else I j
theorem vS_gs {σ : am_G} {s h w rh pn : Nat} {f v rl : am_Gr} {I x : Nat → Int32} (hv : vS σ s h w f v rh rl pn I) : vS (gS σ (s + 3) x) s h w f v rh rl pn (uG I x) := by
  have q : smP (plc (s + 3) (s + 4)) σ (gS σ (s + 3) x) := gS_fr (fun b => by unfold plc; omega)
  obtain ⟨a1, a2, a3, a4, a5, a6, a7, a8, a9, a10⟩ := hv
  have n : ∀ {a b : Nat}, (a < s + 3 ∨ s + 4 ≤ a) → ¬ plc (s + 3) (s + 4) a b := fun h => plc_n h
  refine ⟨q.vM a1 (fun b => n (by omega)) (fun b => n (by omega)), q.vM a2 (fun b => n (by omega)) (fun b => n (by omega)), q.vM a3 (fun b => n (by omega)) (fun b => n (by omega)), ⟨(q.i (n (by omega))).trans a4.1, a4.2⟩, ?_, ?_, ?_, ?_, fun j hj => ?_, fun j hj => ?_⟩
  · rw [q.i (n (by omega)), a5]; unfold uG; rw [if_neg (by omega)]
  · rw [q.i (n (by omega)), a6]; unfold uG; rw [if_neg (by omega)]
  · rw [q.i (n (by omega)), a7]; unfold uG; rw [if_neg (by omega)]
  · rw [q.i (n (by omega)), a8]; unfold uG; rw [if_neg (by omega)]
  · rw [gS_at j hj]; unfold uG; rw [if_pos (by omega), show 4 + j - 4 = j by omega]
  · rw [q.i (n (by omega)), a10 j hj]; unfold uG; rw [if_neg (by omega)]
theorem chg_end {σ ρ μ ν : am_G} {n : Nat} {Hs : Nat → am_Sn} {D2 : am_Sn} (q1 : smP (plc 37 99) σ ρ) (q2 : cH ρ n Hs) (M : smP (plc 26 37) ρ μ) (hv2 : cS μ 26 D2) (K : smP (plc 17 26) μ ν) : smP (plc 17 99) σ ν ∧ cS ν 26 D2 ∧ cH ν n Hs :=
  ⟨((q1.mono (fun a b => by unfold plc; omega)).trans (M.mono (fun a b => by unfold plc; omega))).trans (K.mono (fun a b => by unfold plc; omega)), hv2.fr K (fun a b _ _ => by unfold plc; omega), (q2.fr M (fun a b _ _ => by unfold plc; omega)).fr K (fun a b _ _ => by unfold plc; omega)⟩
set_option maxRecDepth 100000 in
set_option maxHeartbeats 4000000 in
theorem sp_D_setEntry {σ : am_G} {h w rh pn : Nat} {f v rl : am_Gr} {I : Nat → Int32} {n : Nat} {Hs : Nat → am_Sn} {i : Nat} {j : Nat} {x : Int32} (hv : vS σ 26 h w f v rh rl pn I) (hH : cH σ n Hs) (i_h : i < h) (j_w : j < w) (hrg : -20 ≤ x ∧ x ≤ 20) : am_Call am_TX 8 0 c_D_setEntry [.ref 0, .int (nI i), .int (nI j), .int x] (mm σ) (am_Ok (some (.int (f i j).toInt32)) (fun σ1 => smP (plc 17 99) σ σ1 ∧ cS σ1 26 (h, w, (up2 f i j x.toInt64), v, rh, rl, pn, I) ∧ cH σ1 (nxZ n) (hC (h, w, f, v, rh, rl, pn, I) Hs))) := by
  have hh6 := hv.1.1.2
  have hw6 := hv.1.2.1.2
  have hr6 := hv.2.2.1.1.2
  have hp6 := hv.2.2.2.1.2
  refine ⟨mf_D_setEntry, Nat.le_of_ble_eq_true rfl, ?_⟩
  refine R_aload_n rfl rfl ?_
  refine R_iload_n rfl rfl ?_
  refine R_iload_n rfl rfl ?_
  refine R_cV (as := [.int (nI i), .int (nI j)]) rfl rfl iv_D_requireCell (sp_requireCell (i := i) (j := j) hv (by omega) (by omega)) (by decide) rfl rfl rfl (by decide) rfl rfl (Nat.le_of_ble_eq_true rfl) (fun _ q => ?_)
  obtain rfl := q.symm
  refine R_aload_n rfl rfl ?_
  refine R_iload_n rfl rfl ?_
  refine R_bipush (v := -20) rfl (by decide) ?_
  refine R_bipush (v := 20) rfl (by decide) ?_
  refine R_cV (as := [.int x, .int (-20), .int 20]) rfl rfl iv_D_requireRange (sp_requireRange hrg) (by decide) rfl rfl rfl (by decide) rfl rfl (Nat.le_of_ble_eq_true rfl) (fun _ q => ?_)
  obtain rfl := q.symm
  refine R_aload_n rfl rfl ?_
  refine R_gP (x := 37) rfl rfl fp_10_8 rfl ?_
  refine R_aload_n rfl rfl ?_
  refine R_gP (x := 26) rfl rfl fp_10_6 rfl ?_
  refine R_cV (as := [.ref 26]) rfl rfl iv_History_push (sp_pushV (D := (h, w, f, v, rh, rl, pn, I)) hv hH) (by decide) rfl rfl rfl (by decide) rfl rfl (Nat.le_of_ble_eq_true rfl) (fun ρ hρ => ?_)
  obtain ⟨q1, q2⟩ := hρ
  have hv1 : vS ρ 26 h w f v rh rl pn I := q1.vS hv (fun a b _ _ => by unfold plc; omega)
  refine R_aload_n rfl rfl ?_
  refine R_gP (x := 26) rfl rfl fp_10_6 rfl ?_
  refine R_gP (x := 27) rfl rfl fp_9_0 rfl ?_
  refine R_iload_n rfl rfl ?_
  refine R_iload_n rfl rfl ?_
  refine R_cV (as := [.int (nI i), .int (nI j)]) rfl rfl iv_Matrix_at ((by have z := sp_Matrix_at (σ := ρ) (k := 27) (i := i) (j := j) im27 (by omega) (by omega); rw [(hv1.1).at (by omega) (by omega)] at z; exact z)) (by decide) rfl rfl rfl (by decide) rfl rfl (Nat.le_of_ble_eq_true rfl) (fun _ q => ?_)
  obtain rfl := q.symm
  refine R_l2i rfl ?_
  refine R_istore rfl (by decide) ?_
  refine R_aload_n rfl rfl ?_
  refine R_gP (x := 26) rfl rfl fp_10_6 rfl ?_
  refine R_gP (x := 27) rfl rfl fp_9_0 rfl ?_
  refine R_iload_n rfl rfl ?_
  refine R_iload_n rfl rfl ?_
  refine R_iload_n rfl rfl ?_
  refine R_i2l rfl ?_
  refine R_cV (as := [.int (nI i), .int (nI j), .long x.toInt64]) rfl rfl iv_Matrix_put (sp_Matrix_put (i := i) (j := j) im27 (by omega) (by omega)) (by decide) rfl rfl rfl (by decide) rfl rfl (Nat.le_of_ble_eq_true rfl) (fun _ q => ?_)
  obtain rfl := q.symm
  have hv2 : vS (uL ρ 27 i j x.toInt64) 26 h w (up2 f i j x.toInt64) v rh rl pn I := vS_mat hv1 (smP_uL (fun b => by unfold plc; omega)) (hv1.1.put (by omega) (by omega))
  refine R_iload rfl rfl ?_
  exact T_ireturn rfl rfl (am_oki rfl (chg_end q1 q2 (smP_uL (p := plc 26 37) (σ := ρ) (k := 27) (i := i) (j := j) (x := x.toInt64) (fun b => by unfold plc; omega)) hv2 smP.refl))
set_option maxRecDepth 100000 in
set_option maxHeartbeats 4000000 in
theorem sp_D_setEntry_x0x {σ : am_G} {h w rh pn : Nat} {f v rl : am_Gr} {I : Nat → Int32} {j_ : Int32} {x_ : Int32} {x : Int32} (hv : vS σ 26 h w f v rh rl pn I) (hb : ¬ (0 ≤ x ∧ x < nI h)) : am_Call am_TX 8 1 c_D_setEntry [.ref 0, .int x, .int j_, .int x_] (mm σ) (am_ThP "java/lang/IndexOutOfBoundsException" (fun σ1 => smP (plc 17 26) σ σ1)) := by
  have hh6 := hv.1.1.2
  have hw6 := hv.1.2.1.2
  have hr6 := hv.2.2.1.1.2
  have hp6 := hv.2.2.2.1.2
  refine ⟨mf_D_setEntry, Nat.le_of_ble_eq_true rfl, ?_⟩
  refine R_aload_n rfl rfl ?_
  refine R_iload_n rfl rfl ?_
  refine R_iload_n rfl rfl ?_
  refine R_cVxP (k := 0) (as := [.int x, .int j_]) rfl rfl iv_D_requireCell (sp_requireCell_x hv hb) (by decide) rfl rfl rfl (by decide) rfl rfl (Nat.le_of_ble_eq_true rfl) (fun σ' hσ' => Rx_out rfl ⟨σ', rfl, by rw [hσ']; exact smP.refl⟩)
set_option maxRecDepth 100000 in
set_option maxHeartbeats 4000000 in
theorem sp_D_setEntry_x0y {σ : am_G} {h w rh pn : Nat} {f v rl : am_Gr} {I : Nat → Int32} {i : Nat} {x_ : Int32} {x : Int32} (hv : vS σ 26 h w f v rh rl pn I) (i_h : i < h) (hb : ¬ (0 ≤ x ∧ x < nI w)) : am_Call am_TX 8 1 c_D_setEntry [.ref 0, .int (nI i), .int x, .int x_] (mm σ) (am_ThP "java/lang/IndexOutOfBoundsException" (fun σ1 => smP (plc 17 26) σ σ1)) := by
  have hh6 := hv.1.1.2
  have hw6 := hv.1.2.1.2
  have hr6 := hv.2.2.1.1.2
  have hp6 := hv.2.2.2.1.2
  refine ⟨mf_D_setEntry, Nat.le_of_ble_eq_true rfl, ?_⟩
  refine R_aload_n rfl rfl ?_
  refine R_iload_n rfl rfl ?_
  refine R_iload_n rfl rfl ?_
  refine R_cVxP (k := 0) (as := [.int (nI i), .int x]) rfl rfl iv_D_requireCell (sp_requireCell_y hv (by omega) hb) (by decide) rfl rfl rfl (by decide) rfl rfl (Nat.le_of_ble_eq_true rfl) (fun σ' hσ' => Rx_out rfl ⟨σ', rfl, by rw [hσ']; exact smP.refl⟩)
set_option maxRecDepth 100000 in
set_option maxHeartbeats 4000000 in
theorem sp_D_setEntry_x1 {σ : am_G} {h w rh pn : Nat} {f v rl : am_Gr} {I : Nat → Int32} {i : Nat} {j : Nat} {x : Int32} (hv : vS σ 26 h w f v rh rl pn I) (i_h : i < h) (j_w : j < w) (hb : ¬ (-20 ≤ x ∧ x ≤ 20)) : am_Call am_TX 8 1 c_D_setEntry [.ref 0, .int (nI i), .int (nI j), .int x] (mm σ) (am_ThP "java/lang/IllegalArgumentException" (fun σ1 => smP (plc 17 26) σ σ1)) := by
  have hh6 := hv.1.1.2
  have hw6 := hv.1.2.1.2
  have hr6 := hv.2.2.1.1.2
  have hp6 := hv.2.2.2.1.2
  refine ⟨mf_D_setEntry, Nat.le_of_ble_eq_true rfl, ?_⟩
  refine R_aload_n rfl rfl ?_
  refine R_iload_n rfl rfl ?_
  refine R_iload_n rfl rfl ?_
  refine R_cV (as := [.int (nI i), .int (nI j)]) rfl rfl iv_D_requireCell (sp_requireCell (i := i) (j := j) hv (by omega) (by omega)) (by decide) rfl rfl rfl (by decide) rfl rfl (Nat.le_of_ble_eq_true rfl) (fun _ q => ?_)
  obtain rfl := q.symm
  refine R_aload_n rfl rfl ?_
  refine R_iload_n rfl rfl ?_
  refine R_bipush (v := -20) rfl (by decide) ?_
  refine R_bipush (v := 20) rfl (by decide) ?_
  refine R_cVxP (k := 0) (as := [.int x, .int (-20), .int 20]) rfl rfl iv_D_requireRange (sp_requireRange_x hb) (by decide) rfl rfl rfl (by decide) rfl rfl (Nat.le_of_ble_eq_true rfl) (fun σ' hσ' => Rx_out rfl ⟨σ', rfl, by rw [hσ']; exact smP.refl⟩)
set_option maxRecDepth 100000 in
set_option maxHeartbeats 4000000 in
theorem sp_D_swapRows {σ : am_G} {h w rh pn : Nat} {f v rl : am_Gr} {I : Nat → Int32} {n : Nat} {Hs : Nat → am_Sn} {a : Nat} {b : Nat} (hv : vS σ 26 h w f v rh rl pn I) (hH : cH σ n Hs) (a_h : a < h) (b_h : b < h) : am_Call am_TX 8 0 c_D_swapRows [.ref 0, .int (nI a), .int (nI b)] (mm σ) (am_Ok (some (.int (nI (rkO (exR f a b w) 0 (2 ^ h - 1) (2 ^ w - 1) h w)))) (fun σ1 => smP (plc 17 99) σ σ1 ∧ cS σ1 26 (h, w, (exR f a b w), v, rh, rl, pn, I) ∧ cH σ1 (nxZ n) (hC (h, w, f, v, rh, rl, pn, I) Hs))) := by
  have hh6 := hv.1.1.2
  have hw6 := hv.1.2.1.2
  have hr6 := hv.2.2.1.1.2
  have hp6 := hv.2.2.2.1.2
  refine ⟨mf_D_swapRows, Nat.le_of_ble_eq_true rfl, ?_⟩
  refine R_aload_n rfl rfl ?_
  refine R_iload_n rfl rfl ?_
  refine R_cV (as := [.int (nI a)]) rfl rfl iv_D_requireRow (sp_requireRow (r := a) hv (by omega)) (by decide) rfl rfl rfl (by decide) rfl rfl (Nat.le_of_ble_eq_true rfl) (fun _ q => ?_)
  obtain rfl := q.symm
  refine R_aload_n rfl rfl ?_
  refine R_iload_n rfl rfl ?_
  refine R_cV (as := [.int (nI b)]) rfl rfl iv_D_requireRow (sp_requireRow (r := b) hv (by omega)) (by decide) rfl rfl rfl (by decide) rfl rfl (Nat.le_of_ble_eq_true rfl) (fun _ q => ?_)
  obtain rfl := q.symm
  refine R_aload_n rfl rfl ?_
  refine R_gP (x := 37) rfl rfl fp_10_8 rfl ?_
  refine R_aload_n rfl rfl ?_
  refine R_gP (x := 26) rfl rfl fp_10_6 rfl ?_
  refine R_cV (as := [.ref 26]) rfl rfl iv_History_push (sp_pushV (D := (h, w, f, v, rh, rl, pn, I)) hv hH) (by decide) rfl rfl rfl (by decide) rfl rfl (Nat.le_of_ble_eq_true rfl) (fun ρ hρ => ?_)
  obtain ⟨q1, q2⟩ := hρ
  have hv1 : vS ρ 26 h w f v rh rl pn I := q1.vS hv (fun a b _ _ => by unfold plc; omega)
  refine R_aload_n rfl rfl ?_
  refine R_gP (x := 26) rfl rfl fp_10_6 rfl ?_
  refine R_gP (x := 27) rfl rfl fp_9_0 rfl ?_
  refine R_iload_n rfl rfl ?_
  refine R_iload_n rfl rfl ?_
  refine R_cV (as := [.int (nI a), .int (nI b)]) rfl rfl iv_Matrix_exchangeRows (sp_Matrix_exchangeRows (a := a) (b := b) im27 hv1.1 (by omega) (by omega)) (by decide) rfl rfl rfl (by decide) rfl rfl (Nat.le_of_ble_eq_true rfl) (fun _ q => ?_)
  obtain rfl := q.symm
  have hv2 : vS (setM ρ 27 h w (exR f a b w)) 26 h w (exR f a b w) v rh rl pn I := vS_mat hv1 (smP_setM (fun b => by unfold plc; omega) (fun b => by unfold plc; omega)) (vM_setM hh6 hw6)
  refine R_aload_n rfl rfl ?_
  refine R_gP (x := 16) rfl rfl fp_10_4 rfl ?_
  refine R_aload_n rfl rfl ?_
  refine R_gP (x := 26) rfl rfl fp_10_6 rfl ?_
  refine R_gP (x := 27) rfl rfl fp_9_0 rfl ?_
  refine R_iconst (v := 0) rfl rfl ?_
  refine R_cV (as := [.ref 27, .int 0]) rfl rfl iv_Reckoner_fullRank (sp_fullRank (m := 0) im27 (by omega) hv2.1 (by omega)) (by decide) rfl rfl rfl (by decide) rfl rfl (Nat.le_of_ble_eq_true rfl) (fun σ5 hσ5 => ?_)
  exact T_ireturn rfl rfl (am_oki rfl (chg_end q1 q2 (smP_setM (p := plc 26 37) (σ := ρ) (k := 27) (h := h) (w := w) (f := (exR f a b w)) (fun b => by unfold plc; omega) (fun b => by unfold plc; omega)) hv2 (hσ5.mono (q := plc 17 26) (fun a b => by unfold plc; omega))))
set_option maxRecDepth 100000 in
set_option maxHeartbeats 4000000 in
theorem sp_D_swapRows_x0 {σ : am_G} {h w rh pn : Nat} {f v rl : am_Gr} {I : Nat → Int32} {b_ : Int32} {x : Int32} (hv : vS σ 26 h w f v rh rl pn I) (hb : ¬ (0 ≤ x ∧ x < nI h)) : am_Call am_TX 8 1 c_D_swapRows [.ref 0, .int x, .int b_] (mm σ) (am_ThP "java/lang/IndexOutOfBoundsException" (fun σ1 => smP (plc 17 26) σ σ1)) := by
  have hh6 := hv.1.1.2
  have hw6 := hv.1.2.1.2
  have hr6 := hv.2.2.1.1.2
  have hp6 := hv.2.2.2.1.2
  refine ⟨mf_D_swapRows, Nat.le_of_ble_eq_true rfl, ?_⟩
  refine R_aload_n rfl rfl ?_
  refine R_iload_n rfl rfl ?_
  refine R_cVxP (k := 0) (as := [.int x]) rfl rfl iv_D_requireRow (sp_requireRow_x hv hb) (by decide) rfl rfl rfl (by decide) rfl rfl (Nat.le_of_ble_eq_true rfl) (fun σ' hσ' => Rx_out rfl ⟨σ', rfl, by rw [hσ']; exact smP.refl⟩)
set_option maxRecDepth 100000 in
set_option maxHeartbeats 4000000 in
theorem sp_D_swapRows_x1 {σ : am_G} {h w rh pn : Nat} {f v rl : am_Gr} {I : Nat → Int32} {a : Nat} {x : Int32} (hv : vS σ 26 h w f v rh rl pn I) (a_h : a < h) (hb : ¬ (0 ≤ x ∧ x < nI h)) : am_Call am_TX 8 1 c_D_swapRows [.ref 0, .int (nI a), .int x] (mm σ) (am_ThP "java/lang/IndexOutOfBoundsException" (fun σ1 => smP (plc 17 26) σ σ1)) := by
  have hh6 := hv.1.1.2
  have hw6 := hv.1.2.1.2
  have hr6 := hv.2.2.1.1.2
  have hp6 := hv.2.2.2.1.2
  refine ⟨mf_D_swapRows, Nat.le_of_ble_eq_true rfl, ?_⟩
  refine R_aload_n rfl rfl ?_
  refine R_iload_n rfl rfl ?_
  refine R_cV (as := [.int (nI a)]) rfl rfl iv_D_requireRow (sp_requireRow (r := a) hv (by omega)) (by decide) rfl rfl rfl (by decide) rfl rfl (Nat.le_of_ble_eq_true rfl) (fun _ q => ?_)
  obtain rfl := q.symm
  refine R_aload_n rfl rfl ?_
  refine R_iload_n rfl rfl ?_
  refine R_cVxP (k := 0) (as := [.int x]) rfl rfl iv_D_requireRow (sp_requireRow_x hv hb) (by decide) rfl rfl rfl (by decide) rfl rfl (Nat.le_of_ble_eq_true rfl) (fun σ' hσ' => Rx_out rfl ⟨σ', rfl, by rw [hσ']; exact smP.refl⟩)
set_option maxRecDepth 100000 in
set_option maxHeartbeats 4000000 in
theorem sp_D_swapColumns {σ : am_G} {h w rh pn : Nat} {f v rl : am_Gr} {I : Nat → Int32} {n : Nat} {Hs : Nat → am_Sn} {a : Nat} {b : Nat} (hv : vS σ 26 h w f v rh rl pn I) (hH : cH σ n Hs) (a_w : a < w) (b_w : b < w) : am_Call am_TX 8 0 c_D_swapColumns [.ref 0, .int (nI a), .int (nI b)] (mm σ) (am_Ok (some (.int (nI (rkO (exC f a b h) 0 (2 ^ h - 1) (2 ^ w - 1) h w)))) (fun σ1 => smP (plc 17 99) σ σ1 ∧ cS σ1 26 (h, w, (exC f a b h), v, rh, rl, pn, I) ∧ cH σ1 (nxZ n) (hC (h, w, f, v, rh, rl, pn, I) Hs))) := by
  have hh6 := hv.1.1.2
  have hw6 := hv.1.2.1.2
  have hr6 := hv.2.2.1.1.2
  have hp6 := hv.2.2.2.1.2
  refine ⟨mf_D_swapColumns, Nat.le_of_ble_eq_true rfl, ?_⟩
  refine R_aload_n rfl rfl ?_
  refine R_iload_n rfl rfl ?_
  refine R_cV (as := [.int (nI a)]) rfl rfl iv_D_requireColumn (sp_requireColumn (r := a) hv (by omega)) (by decide) rfl rfl rfl (by decide) rfl rfl (Nat.le_of_ble_eq_true rfl) (fun _ q => ?_)
  obtain rfl := q.symm
  refine R_aload_n rfl rfl ?_
  refine R_iload_n rfl rfl ?_
  refine R_cV (as := [.int (nI b)]) rfl rfl iv_D_requireColumn (sp_requireColumn (r := b) hv (by omega)) (by decide) rfl rfl rfl (by decide) rfl rfl (Nat.le_of_ble_eq_true rfl) (fun _ q => ?_)
  obtain rfl := q.symm
  refine R_aload_n rfl rfl ?_
  refine R_gP (x := 37) rfl rfl fp_10_8 rfl ?_
  refine R_aload_n rfl rfl ?_
  refine R_gP (x := 26) rfl rfl fp_10_6 rfl ?_
  refine R_cV (as := [.ref 26]) rfl rfl iv_History_push (sp_pushV (D := (h, w, f, v, rh, rl, pn, I)) hv hH) (by decide) rfl rfl rfl (by decide) rfl rfl (Nat.le_of_ble_eq_true rfl) (fun ρ hρ => ?_)
  obtain ⟨q1, q2⟩ := hρ
  have hv1 : vS ρ 26 h w f v rh rl pn I := q1.vS hv (fun a b _ _ => by unfold plc; omega)
  refine R_aload_n rfl rfl ?_
  refine R_gP (x := 26) rfl rfl fp_10_6 rfl ?_
  refine R_gP (x := 27) rfl rfl fp_9_0 rfl ?_
  refine R_iload_n rfl rfl ?_
  refine R_iload_n rfl rfl ?_
  refine R_cV (as := [.int (nI a), .int (nI b)]) rfl rfl iv_Matrix_exchangeColumns (sp_Matrix_exchangeColumns (a := a) (b := b) im27 hv1.1 (by omega) (by omega)) (by decide) rfl rfl rfl (by decide) rfl rfl (Nat.le_of_ble_eq_true rfl) (fun _ q => ?_)
  obtain rfl := q.symm
  have hv2 : vS (setM ρ 27 h w (exC f a b h)) 26 h w (exC f a b h) v rh rl pn I := vS_mat hv1 (smP_setM (fun b => by unfold plc; omega) (fun b => by unfold plc; omega)) (vM_setM hh6 hw6)
  refine R_aload_n rfl rfl ?_
  refine R_gP (x := 16) rfl rfl fp_10_4 rfl ?_
  refine R_aload_n rfl rfl ?_
  refine R_gP (x := 26) rfl rfl fp_10_6 rfl ?_
  refine R_gP (x := 27) rfl rfl fp_9_0 rfl ?_
  refine R_iconst (v := 0) rfl rfl ?_
  refine R_cV (as := [.ref 27, .int 0]) rfl rfl iv_Reckoner_fullRank (sp_fullRank (m := 0) im27 (by omega) hv2.1 (by omega)) (by decide) rfl rfl rfl (by decide) rfl rfl (Nat.le_of_ble_eq_true rfl) (fun σ5 hσ5 => ?_)
  exact T_ireturn rfl rfl (am_oki rfl (chg_end q1 q2 (smP_setM (p := plc 26 37) (σ := ρ) (k := 27) (h := h) (w := w) (f := (exC f a b h)) (fun b => by unfold plc; omega) (fun b => by unfold plc; omega)) hv2 (hσ5.mono (q := plc 17 26) (fun a b => by unfold plc; omega))))
set_option maxRecDepth 100000 in
set_option maxHeartbeats 4000000 in
theorem sp_D_swapColumns_x0 {σ : am_G} {h w rh pn : Nat} {f v rl : am_Gr} {I : Nat → Int32} {b_ : Int32} {x : Int32} (hv : vS σ 26 h w f v rh rl pn I) (hb : ¬ (0 ≤ x ∧ x < nI w)) : am_Call am_TX 8 1 c_D_swapColumns [.ref 0, .int x, .int b_] (mm σ) (am_ThP "java/lang/IndexOutOfBoundsException" (fun σ1 => smP (plc 17 26) σ σ1)) := by
  have hh6 := hv.1.1.2
  have hw6 := hv.1.2.1.2
  have hr6 := hv.2.2.1.1.2
  have hp6 := hv.2.2.2.1.2
  refine ⟨mf_D_swapColumns, Nat.le_of_ble_eq_true rfl, ?_⟩
  refine R_aload_n rfl rfl ?_
  refine R_iload_n rfl rfl ?_
  refine R_cVxP (k := 0) (as := [.int x]) rfl rfl iv_D_requireColumn (sp_requireColumn_x hv hb) (by decide) rfl rfl rfl (by decide) rfl rfl (Nat.le_of_ble_eq_true rfl) (fun σ' hσ' => Rx_out rfl ⟨σ', rfl, by rw [hσ']; exact smP.refl⟩)
set_option maxRecDepth 100000 in
set_option maxHeartbeats 4000000 in
theorem sp_D_swapColumns_x1 {σ : am_G} {h w rh pn : Nat} {f v rl : am_Gr} {I : Nat → Int32} {a : Nat} {x : Int32} (hv : vS σ 26 h w f v rh rl pn I) (a_w : a < w) (hb : ¬ (0 ≤ x ∧ x < nI w)) : am_Call am_TX 8 1 c_D_swapColumns [.ref 0, .int (nI a), .int x] (mm σ) (am_ThP "java/lang/IndexOutOfBoundsException" (fun σ1 => smP (plc 17 26) σ σ1)) := by
  have hh6 := hv.1.1.2
  have hw6 := hv.1.2.1.2
  have hr6 := hv.2.2.1.1.2
  have hp6 := hv.2.2.2.1.2
  refine ⟨mf_D_swapColumns, Nat.le_of_ble_eq_true rfl, ?_⟩
  refine R_aload_n rfl rfl ?_
  refine R_iload_n rfl rfl ?_
  refine R_cV (as := [.int (nI a)]) rfl rfl iv_D_requireColumn (sp_requireColumn (r := a) hv (by omega)) (by decide) rfl rfl rfl (by decide) rfl rfl (Nat.le_of_ble_eq_true rfl) (fun _ q => ?_)
  obtain rfl := q.symm
  refine R_aload_n rfl rfl ?_
  refine R_iload_n rfl rfl ?_
  refine R_cVxP (k := 0) (as := [.int x]) rfl rfl iv_D_requireColumn (sp_requireColumn_x hv hb) (by decide) rfl rfl rfl (by decide) rfl rfl (Nat.le_of_ble_eq_true rfl) (fun σ' hσ' => Rx_out rfl ⟨σ', rfl, by rw [hσ']; exact smP.refl⟩)
set_option maxRecDepth 100000 in
set_option maxHeartbeats 4000000 in
theorem sp_D_negateRow {σ : am_G} {h w rh pn : Nat} {f v rl : am_Gr} {I : Nat → Int32} {n : Nat} {Hs : Nat → am_Sn} {r : Nat} (hv : vS σ 26 h w f v rh rl pn I) (hH : cH σ n Hs) (r_h : r < h) : am_Call am_TX 8 0 c_D_negateRow [.ref 0, .int (nI r)] (mm σ) (am_Ok (some (.int (nI (rkO (adM f r r (-2) w) 0 (2 ^ h - 1) (2 ^ w - 1) h w)))) (fun σ1 => smP (plc 17 99) σ σ1 ∧ cS σ1 26 (h, w, (adM f r r (-2) w), v, rh, rl, pn, I) ∧ cH σ1 (nxZ n) (hC (h, w, f, v, rh, rl, pn, I) Hs))) := by
  have hh6 := hv.1.1.2
  have hw6 := hv.1.2.1.2
  have hr6 := hv.2.2.1.1.2
  have hp6 := hv.2.2.2.1.2
  refine ⟨mf_D_negateRow, Nat.le_of_ble_eq_true rfl, ?_⟩
  refine R_aload_n rfl rfl ?_
  refine R_iload_n rfl rfl ?_
  refine R_cV (as := [.int (nI r)]) rfl rfl iv_D_requireRow (sp_requireRow (r := r) hv (by omega)) (by decide) rfl rfl rfl (by decide) rfl rfl (Nat.le_of_ble_eq_true rfl) (fun _ q => ?_)
  obtain rfl := q.symm
  refine R_aload_n rfl rfl ?_
  refine R_gP (x := 37) rfl rfl fp_10_8 rfl ?_
  refine R_aload_n rfl rfl ?_
  refine R_gP (x := 26) rfl rfl fp_10_6 rfl ?_
  refine R_cV (as := [.ref 26]) rfl rfl iv_History_push (sp_pushV (D := (h, w, f, v, rh, rl, pn, I)) hv hH) (by decide) rfl rfl rfl (by decide) rfl rfl (Nat.le_of_ble_eq_true rfl) (fun ρ hρ => ?_)
  obtain ⟨q1, q2⟩ := hρ
  have hv1 : vS ρ 26 h w f v rh rl pn I := q1.vS hv (fun a b _ _ => by unfold plc; omega)
  refine R_aload_n rfl rfl ?_
  refine R_gP (x := 26) rfl rfl fp_10_6 rfl ?_
  refine R_gP (x := 27) rfl rfl fp_9_0 rfl ?_
  refine R_iload_n rfl rfl ?_
  refine R_iload_n rfl rfl ?_
  refine R_bipush (v := -2) rfl (by decide) ?_
  refine R_cV (as := [.int (nI r), .int (nI r), .int (-2)]) rfl rfl iv_Matrix_addMultiple (sp_Matrix_addMultiple (a := r) (b := r) (F := -2) im27 hv1.1 (by omega) (by omega)) (by decide) rfl rfl rfl (by decide) rfl rfl (Nat.le_of_ble_eq_true rfl) (fun _ q => ?_)
  obtain rfl := q.symm
  have hv2 : vS (setM ρ 27 h w (adM f r r (-2) w)) 26 h w (adM f r r (-2) w) v rh rl pn I := vS_mat hv1 (smP_setM (fun b => by unfold plc; omega) (fun b => by unfold plc; omega)) (vM_setM hh6 hw6)
  refine R_aload_n rfl rfl ?_
  refine R_gP (x := 16) rfl rfl fp_10_4 rfl ?_
  refine R_aload_n rfl rfl ?_
  refine R_gP (x := 26) rfl rfl fp_10_6 rfl ?_
  refine R_gP (x := 27) rfl rfl fp_9_0 rfl ?_
  refine R_iconst (v := 0) rfl rfl ?_
  refine R_cV (as := [.ref 27, .int 0]) rfl rfl iv_Reckoner_fullRank (sp_fullRank (m := 0) im27 (by omega) hv2.1 (by omega)) (by decide) rfl rfl rfl (by decide) rfl rfl (Nat.le_of_ble_eq_true rfl) (fun σ4 hσ4 => ?_)
  exact T_ireturn rfl rfl (am_oki rfl (chg_end q1 q2 (smP_setM (p := plc 26 37) (σ := ρ) (k := 27) (h := h) (w := w) (f := (adM f r r (-2) w)) (fun b => by unfold plc; omega) (fun b => by unfold plc; omega)) hv2 (hσ4.mono (q := plc 17 26) (fun a b => by unfold plc; omega))))
set_option maxRecDepth 100000 in
set_option maxHeartbeats 4000000 in
theorem sp_D_negateRow_x0 {σ : am_G} {h w rh pn : Nat} {f v rl : am_Gr} {I : Nat → Int32} {x : Int32} (hv : vS σ 26 h w f v rh rl pn I) (hb : ¬ (0 ≤ x ∧ x < nI h)) : am_Call am_TX 8 1 c_D_negateRow [.ref 0, .int x] (mm σ) (am_ThP "java/lang/IndexOutOfBoundsException" (fun σ1 => smP (plc 17 26) σ σ1)) := by
  have hh6 := hv.1.1.2
  have hw6 := hv.1.2.1.2
  have hr6 := hv.2.2.1.1.2
  have hp6 := hv.2.2.2.1.2
  refine ⟨mf_D_negateRow, Nat.le_of_ble_eq_true rfl, ?_⟩
  refine R_aload_n rfl rfl ?_
  refine R_iload_n rfl rfl ?_
  refine R_cVxP (k := 0) (as := [.int x]) rfl rfl iv_D_requireRow (sp_requireRow_x hv hb) (by decide) rfl rfl rfl (by decide) rfl rfl (Nat.le_of_ble_eq_true rfl) (fun σ' hσ' => Rx_out rfl ⟨σ', rfl, by rw [hσ']; exact smP.refl⟩)
set_option maxRecDepth 100000 in
set_option maxHeartbeats 4000000 in
theorem sp_D_addRow {σ : am_G} {h w rh pn : Nat} {f v rl : am_Gr} {I : Nat → Int32} {n : Nat} {Hs : Nat → am_Sn} {a : Nat} {b : Nat} {x : Int32} (hv : vS σ 26 h w f v rh rl pn I) (hH : cH σ n Hs) (a_h : a < h) (b_h : b < h) (hrg : -9 ≤ x ∧ x ≤ 9) (hab : ¬ a = b) (hroom : ∀ j, j < w → absL (f a j + x.toInt64 * f b j) ≤ 20) : am_Call am_TX 8 0 c_D_addRow [.ref 0, .int (nI a), .int (nI b), .int x] (mm σ) (am_Ok (some (.int (nI (rkO (adM f a b x w) 0 (2 ^ h - 1) (2 ^ w - 1) h w)))) (fun σ1 => smP (plc 17 99) σ σ1 ∧ cS σ1 26 (h, w, (adM f a b x w), v, rh, rl, pn, I) ∧ cH σ1 (nxZ n) (hC (h, w, f, v, rh, rl, pn, I) Hs))) := by
  have hh6 := hv.1.1.2
  have hw6 := hv.1.2.1.2
  have hr6 := hv.2.2.1.1.2
  have hp6 := hv.2.2.2.1.2
  refine ⟨mf_D_addRow, Nat.le_of_ble_eq_true rfl, ?_⟩
  refine R_aload_n rfl rfl ?_
  refine R_iload_n rfl rfl ?_
  refine R_cV (as := [.int (nI a)]) rfl rfl iv_D_requireRow (sp_requireRow (r := a) hv (by omega)) (by decide) rfl rfl rfl (by decide) rfl rfl (Nat.le_of_ble_eq_true rfl) (fun _ q => ?_)
  obtain rfl := q.symm
  refine R_aload_n rfl rfl ?_
  refine R_iload_n rfl rfl ?_
  refine R_cV (as := [.int (nI b)]) rfl rfl iv_D_requireRow (sp_requireRow (r := b) hv (by omega)) (by decide) rfl rfl rfl (by decide) rfl rfl (Nat.le_of_ble_eq_true rfl) (fun _ q => ?_)
  obtain rfl := q.symm
  refine R_aload_n rfl rfl ?_
  refine R_iload_n rfl rfl ?_
  refine R_bipush (v := -9) rfl (by decide) ?_
  refine R_bipush (v := 9) rfl (by decide) ?_
  refine R_cV (as := [.int x, .int (-9), .int 9]) rfl rfl iv_D_requireRange (sp_requireRange hrg) (by decide) rfl rfl rfl (by decide) rfl rfl (Nat.le_of_ble_eq_true rfl) (fun _ q => ?_)
  obtain rfl := q.symm
  refine R_iload_n rfl rfl ?_
  refine R_iload_n rfl rfl ?_
  refine R_nicmp_ne (x := a) (y := b) rfl rfl (by omega) (by omega) (fun h1 => ?_) (fun z => by omega)
  refine R_aload_n rfl rfl ?_
  refine R_gP (x := 26) rfl rfl fp_10_6 rfl ?_
  refine R_gP (x := 27) rfl rfl fp_9_0 rfl ?_
  refine R_iload_n rfl rfl ?_
  refine R_iload_n rfl rfl ?_
  refine R_iload_n rfl rfl ?_
  refine R_cV (as := [.int (nI a), .int (nI b), .int x]) rfl rfl iv_Matrix_hasRoomForMultiple (sp_Matrix_hasRoomForMultiple (a := a) (b := b) (F := x) im27 hv.1 (by omega) (by omega)) (by decide) rfl rfl rfl (by decide) rfl rfl (Nat.le_of_ble_eq_true rfl) (fun _ q => ?_)
  obtain rfl := q.symm
  refine R_if_ne rfl rfl (fun h2 => ?_) (fun z => absurd hroom (zP_0 z))
  refine R_aload_n rfl rfl ?_
  refine R_gP (x := 37) rfl rfl fp_10_8 rfl ?_
  refine R_aload_n rfl rfl ?_
  refine R_gP (x := 26) rfl rfl fp_10_6 rfl ?_
  refine R_cV (as := [.ref 26]) rfl rfl iv_History_push (sp_pushV (D := (h, w, f, v, rh, rl, pn, I)) hv hH) (by decide) rfl rfl rfl (by decide) rfl rfl (Nat.le_of_ble_eq_true rfl) (fun ρ hρ => ?_)
  obtain ⟨q1, q2⟩ := hρ
  have hv1 : vS ρ 26 h w f v rh rl pn I := q1.vS hv (fun a b _ _ => by unfold plc; omega)
  refine R_aload_n rfl rfl ?_
  refine R_gP (x := 26) rfl rfl fp_10_6 rfl ?_
  refine R_gP (x := 27) rfl rfl fp_9_0 rfl ?_
  refine R_iload_n rfl rfl ?_
  refine R_iload_n rfl rfl ?_
  refine R_iload_n rfl rfl ?_
  refine R_cV (as := [.int (nI a), .int (nI b), .int x]) rfl rfl iv_Matrix_addMultiple (sp_Matrix_addMultiple (a := a) (b := b) (F := x) im27 hv1.1 (by omega) (by omega)) (by decide) rfl rfl rfl (by decide) rfl rfl (Nat.le_of_ble_eq_true rfl) (fun _ q => ?_)
  obtain rfl := q.symm
  have hv2 : vS (setM ρ 27 h w (adM f a b x w)) 26 h w (adM f a b x w) v rh rl pn I := vS_mat hv1 (smP_setM (fun b => by unfold plc; omega) (fun b => by unfold plc; omega)) (vM_setM hh6 hw6)
  refine R_aload_n rfl rfl ?_
  refine R_gP (x := 16) rfl rfl fp_10_4 rfl ?_
  refine R_aload_n rfl rfl ?_
  refine R_gP (x := 26) rfl rfl fp_10_6 rfl ?_
  refine R_gP (x := 27) rfl rfl fp_9_0 rfl ?_
  refine R_iconst (v := 0) rfl rfl ?_
  refine R_cV (as := [.ref 27, .int 0]) rfl rfl iv_Reckoner_fullRank (sp_fullRank (m := 0) im27 (by omega) hv2.1 (by omega)) (by decide) rfl rfl rfl (by decide) rfl rfl (Nat.le_of_ble_eq_true rfl) (fun σ7 hσ7 => ?_)
  exact T_ireturn rfl rfl (am_oki rfl (chg_end q1 q2 (smP_setM (p := plc 26 37) (σ := ρ) (k := 27) (h := h) (w := w) (f := (adM f a b x w)) (fun b => by unfold plc; omega) (fun b => by unfold plc; omega)) hv2 (hσ7.mono (q := plc 17 26) (fun a b => by unfold plc; omega))))
set_option maxRecDepth 100000 in
set_option maxHeartbeats 4000000 in
theorem sp_D_addRow_x0 {σ : am_G} {h w rh pn : Nat} {f v rl : am_Gr} {I : Nat → Int32} {b_ : Int32} {x_ : Int32} {x : Int32} (hv : vS σ 26 h w f v rh rl pn I) (hb : ¬ (0 ≤ x ∧ x < nI h)) : am_Call am_TX 8 1 c_D_addRow [.ref 0, .int x, .int b_, .int x_] (mm σ) (am_ThP "java/lang/IndexOutOfBoundsException" (fun σ1 => smP (plc 17 26) σ σ1)) := by
  have hh6 := hv.1.1.2
  have hw6 := hv.1.2.1.2
  have hr6 := hv.2.2.1.1.2
  have hp6 := hv.2.2.2.1.2
  refine ⟨mf_D_addRow, Nat.le_of_ble_eq_true rfl, ?_⟩
  refine R_aload_n rfl rfl ?_
  refine R_iload_n rfl rfl ?_
  refine R_cVxP (k := 0) (as := [.int x]) rfl rfl iv_D_requireRow (sp_requireRow_x hv hb) (by decide) rfl rfl rfl (by decide) rfl rfl (Nat.le_of_ble_eq_true rfl) (fun σ' hσ' => Rx_out rfl ⟨σ', rfl, by rw [hσ']; exact smP.refl⟩)
set_option maxRecDepth 100000 in
set_option maxHeartbeats 4000000 in
theorem sp_D_addRow_x1 {σ : am_G} {h w rh pn : Nat} {f v rl : am_Gr} {I : Nat → Int32} {a : Nat} {x_ : Int32} {x : Int32} (hv : vS σ 26 h w f v rh rl pn I) (a_h : a < h) (hb : ¬ (0 ≤ x ∧ x < nI h)) : am_Call am_TX 8 1 c_D_addRow [.ref 0, .int (nI a), .int x, .int x_] (mm σ) (am_ThP "java/lang/IndexOutOfBoundsException" (fun σ1 => smP (plc 17 26) σ σ1)) := by
  have hh6 := hv.1.1.2
  have hw6 := hv.1.2.1.2
  have hr6 := hv.2.2.1.1.2
  have hp6 := hv.2.2.2.1.2
  refine ⟨mf_D_addRow, Nat.le_of_ble_eq_true rfl, ?_⟩
  refine R_aload_n rfl rfl ?_
  refine R_iload_n rfl rfl ?_
  refine R_cV (as := [.int (nI a)]) rfl rfl iv_D_requireRow (sp_requireRow (r := a) hv (by omega)) (by decide) rfl rfl rfl (by decide) rfl rfl (Nat.le_of_ble_eq_true rfl) (fun _ q => ?_)
  obtain rfl := q.symm
  refine R_aload_n rfl rfl ?_
  refine R_iload_n rfl rfl ?_
  refine R_cVxP (k := 0) (as := [.int x]) rfl rfl iv_D_requireRow (sp_requireRow_x hv hb) (by decide) rfl rfl rfl (by decide) rfl rfl (Nat.le_of_ble_eq_true rfl) (fun σ' hσ' => Rx_out rfl ⟨σ', rfl, by rw [hσ']; exact smP.refl⟩)
set_option maxRecDepth 100000 in
set_option maxHeartbeats 4000000 in
theorem sp_D_addRow_x2 {σ : am_G} {h w rh pn : Nat} {f v rl : am_Gr} {I : Nat → Int32} {a : Nat} {b : Nat} {x : Int32} (hv : vS σ 26 h w f v rh rl pn I) (a_h : a < h) (b_h : b < h) (hb : ¬ (-9 ≤ x ∧ x ≤ 9)) : am_Call am_TX 8 1 c_D_addRow [.ref 0, .int (nI a), .int (nI b), .int x] (mm σ) (am_ThP "java/lang/IllegalArgumentException" (fun σ1 => smP (plc 17 26) σ σ1)) := by
  have hh6 := hv.1.1.2
  have hw6 := hv.1.2.1.2
  have hr6 := hv.2.2.1.1.2
  have hp6 := hv.2.2.2.1.2
  refine ⟨mf_D_addRow, Nat.le_of_ble_eq_true rfl, ?_⟩
  refine R_aload_n rfl rfl ?_
  refine R_iload_n rfl rfl ?_
  refine R_cV (as := [.int (nI a)]) rfl rfl iv_D_requireRow (sp_requireRow (r := a) hv (by omega)) (by decide) rfl rfl rfl (by decide) rfl rfl (Nat.le_of_ble_eq_true rfl) (fun _ q => ?_)
  obtain rfl := q.symm
  refine R_aload_n rfl rfl ?_
  refine R_iload_n rfl rfl ?_
  refine R_cV (as := [.int (nI b)]) rfl rfl iv_D_requireRow (sp_requireRow (r := b) hv (by omega)) (by decide) rfl rfl rfl (by decide) rfl rfl (Nat.le_of_ble_eq_true rfl) (fun _ q => ?_)
  obtain rfl := q.symm
  refine R_aload_n rfl rfl ?_
  refine R_iload_n rfl rfl ?_
  refine R_bipush (v := -9) rfl (by decide) ?_
  refine R_bipush (v := 9) rfl (by decide) ?_
  refine R_cVxP (k := 0) (as := [.int x, .int (-9), .int 9]) rfl rfl iv_D_requireRange (sp_requireRange_x hb) (by decide) rfl rfl rfl (by decide) rfl rfl (Nat.le_of_ble_eq_true rfl) (fun σ' hσ' => Rx_out rfl ⟨σ', rfl, by rw [hσ']; exact smP.refl⟩)
set_option maxRecDepth 100000 in
set_option maxHeartbeats 4000000 in
theorem sp_D_addRow_e {σ : am_G} {h w rh pn : Nat} {f v rl : am_Gr} {I : Nat → Int32} {a : Nat} {b : Nat} {x : Int32} (hv : vS σ 26 h w f v rh rl pn I) (a_h : a < h) (b_h : b < h) (hrg : -9 ≤ x ∧ x ≤ 9) (hab : a = b) : am_Call am_TX 8 1 c_D_addRow [.ref 0, .int (nI a), .int (nI b), .int x] (mm σ) (am_ThP "java/lang/IllegalArgumentException" (fun σ1 => smP (plc 17 26) σ σ1)) := by
  have hh6 := hv.1.1.2
  have hw6 := hv.1.2.1.2
  have hr6 := hv.2.2.1.1.2
  have hp6 := hv.2.2.2.1.2
  refine ⟨mf_D_addRow, Nat.le_of_ble_eq_true rfl, ?_⟩
  refine R_aload_n rfl rfl ?_
  refine R_iload_n rfl rfl ?_
  refine R_cV (as := [.int (nI a)]) rfl rfl iv_D_requireRow (sp_requireRow (r := a) hv (by omega)) (by decide) rfl rfl rfl (by decide) rfl rfl (Nat.le_of_ble_eq_true rfl) (fun _ q => ?_)
  obtain rfl := q.symm
  refine R_aload_n rfl rfl ?_
  refine R_iload_n rfl rfl ?_
  refine R_cV (as := [.int (nI b)]) rfl rfl iv_D_requireRow (sp_requireRow (r := b) hv (by omega)) (by decide) rfl rfl rfl (by decide) rfl rfl (Nat.le_of_ble_eq_true rfl) (fun _ q => ?_)
  obtain rfl := q.symm
  refine R_aload_n rfl rfl ?_
  refine R_iload_n rfl rfl ?_
  refine R_bipush (v := -9) rfl (by decide) ?_
  refine R_bipush (v := 9) rfl (by decide) ?_
  refine R_cV (as := [.int x, .int (-9), .int 9]) rfl rfl iv_D_requireRange (sp_requireRange hrg) (by decide) rfl rfl rfl (by decide) rfl rfl (Nat.le_of_ble_eq_true rfl) (fun _ q => ?_)
  obtain rfl := q.symm
  refine R_iload_n rfl rfl ?_
  refine R_iload_n rfl rfl ?_
  refine R_nicmp_ne (x := a) (y := b) rfl rfl (by omega) (by omega) (fun z => by omega) (fun h1 => ?_)
  exact R_throwW (text := "a row is added to itself") (i := 2) rfl rfl rfl rfl rfl (List.mem_of_getElem? (i := 2) rfl) am_tw1 rfl rfl (Nat.le_refl 1) ⟨_, rfl, smP.refl⟩
set_option maxRecDepth 100000 in
set_option maxHeartbeats 4000000 in
theorem sp_D_addRow_r {σ : am_G} {h w rh pn : Nat} {f v rl : am_Gr} {I : Nat → Int32} {a : Nat} {b : Nat} {x : Int32} (hv : vS σ 26 h w f v rh rl pn I) (a_h : a < h) (b_h : b < h) (hrg : -9 ≤ x ∧ x ≤ 9) (hab : ¬ a = b) (hroom : ¬ (∀ j, j < w → absL (f a j + x.toInt64 * f b j) ≤ 20)) : am_Call am_TX 8 1 c_D_addRow [.ref 0, .int (nI a), .int (nI b), .int x] (mm σ) (am_ThP "java/lang/IllegalStateException" (fun σ1 => smP (plc 17 26) σ σ1)) := by
  have hh6 := hv.1.1.2
  have hw6 := hv.1.2.1.2
  have hr6 := hv.2.2.1.1.2
  have hp6 := hv.2.2.2.1.2
  refine ⟨mf_D_addRow, Nat.le_of_ble_eq_true rfl, ?_⟩
  refine R_aload_n rfl rfl ?_
  refine R_iload_n rfl rfl ?_
  refine R_cV (as := [.int (nI a)]) rfl rfl iv_D_requireRow (sp_requireRow (r := a) hv (by omega)) (by decide) rfl rfl rfl (by decide) rfl rfl (Nat.le_of_ble_eq_true rfl) (fun _ q => ?_)
  obtain rfl := q.symm
  refine R_aload_n rfl rfl ?_
  refine R_iload_n rfl rfl ?_
  refine R_cV (as := [.int (nI b)]) rfl rfl iv_D_requireRow (sp_requireRow (r := b) hv (by omega)) (by decide) rfl rfl rfl (by decide) rfl rfl (Nat.le_of_ble_eq_true rfl) (fun _ q => ?_)
  obtain rfl := q.symm
  refine R_aload_n rfl rfl ?_
  refine R_iload_n rfl rfl ?_
  refine R_bipush (v := -9) rfl (by decide) ?_
  refine R_bipush (v := 9) rfl (by decide) ?_
  refine R_cV (as := [.int x, .int (-9), .int 9]) rfl rfl iv_D_requireRange (sp_requireRange hrg) (by decide) rfl rfl rfl (by decide) rfl rfl (Nat.le_of_ble_eq_true rfl) (fun _ q => ?_)
  obtain rfl := q.symm
  refine R_iload_n rfl rfl ?_
  refine R_iload_n rfl rfl ?_
  refine R_nicmp_ne (x := a) (y := b) rfl rfl (by omega) (by omega) (fun h1 => ?_) (fun z => by omega)
  refine R_aload_n rfl rfl ?_
  refine R_gP (x := 26) rfl rfl fp_10_6 rfl ?_
  refine R_gP (x := 27) rfl rfl fp_9_0 rfl ?_
  refine R_iload_n rfl rfl ?_
  refine R_iload_n rfl rfl ?_
  refine R_iload_n rfl rfl ?_
  refine R_cV (as := [.int (nI a), .int (nI b), .int x]) rfl rfl iv_Matrix_hasRoomForMultiple (sp_Matrix_hasRoomForMultiple (a := a) (b := b) (F := x) im27 hv.1 (by omega) (by omega)) (by decide) rfl rfl rfl (by decide) rfl rfl (Nat.le_of_ble_eq_true rfl) (fun _ q => ?_)
  obtain rfl := q.symm
  refine R_if_ne rfl rfl (fun z => absurd (zP_ne z) hroom) (fun h2 => ?_)
  exact R_throwW (text := "an entry would be out of range") (i := 3) rfl rfl rfl rfl rfl (List.mem_of_getElem? (i := 3) rfl) am_tw0 rfl rfl (Nat.le_refl 1) ⟨_, rfl, smP.refl⟩
set_option maxRecDepth 100000 in
set_option maxHeartbeats 4000000 in
theorem sp_D_setVector {σ : am_G} {h w rh pn : Nat} {f v rl : am_Gr} {I : Nat → Int32} {n : Nat} {Hs : Nat → am_Sn} {r : Nat} {x : Int32} (hv : vS σ 26 h w f v rh rl pn I) (hH : cH σ n Hs) (r_h : r < h) (hrg : -9999 ≤ x ∧ x ≤ 9999) : am_Call am_TX 8 0 c_D_setVector [.ref 0, .int (nI r), .int x] (mm σ) (am_Ok (some (.int (v 0 r).toInt32)) (fun σ1 => smP (plc 17 99) σ σ1 ∧ cS σ1 26 (h, w, f, (up2 v 0 r x.toInt64), rh, rl, pn, I) ∧ cH σ1 (nxZ n) (hC (h, w, f, v, rh, rl, pn, I) Hs))) := by
  have hh6 := hv.1.1.2
  have hw6 := hv.1.2.1.2
  have hr6 := hv.2.2.1.1.2
  have hp6 := hv.2.2.2.1.2
  refine ⟨mf_D_setVector, Nat.le_of_ble_eq_true rfl, ?_⟩
  refine R_aload_n rfl rfl ?_
  refine R_iload_n rfl rfl ?_
  refine R_cV (as := [.int (nI r)]) rfl rfl iv_D_requireRow (sp_requireRow (r := r) hv (by omega)) (by decide) rfl rfl rfl (by decide) rfl rfl (Nat.le_of_ble_eq_true rfl) (fun _ q => ?_)
  obtain rfl := q.symm
  refine R_aload_n rfl rfl ?_
  refine R_iload_n rfl rfl ?_
  refine R_sipush (v := -9999) rfl (by decide) ?_
  refine R_sipush (v := 9999) rfl (by decide) ?_
  refine R_cV (as := [.int x, .int (-9999), .int 9999]) rfl rfl iv_D_requireRange (sp_requireRange hrg) (by decide) rfl rfl rfl (by decide) rfl rfl (Nat.le_of_ble_eq_true rfl) (fun _ q => ?_)
  obtain rfl := q.symm
  refine R_aload_n rfl rfl ?_
  refine R_gP (x := 37) rfl rfl fp_10_8 rfl ?_
  refine R_aload_n rfl rfl ?_
  refine R_gP (x := 26) rfl rfl fp_10_6 rfl ?_
  refine R_cV (as := [.ref 26]) rfl rfl iv_History_push (sp_pushV (D := (h, w, f, v, rh, rl, pn, I)) hv hH) (by decide) rfl rfl rfl (by decide) rfl rfl (Nat.le_of_ble_eq_true rfl) (fun ρ hρ => ?_)
  obtain ⟨q1, q2⟩ := hρ
  have hv1 : vS ρ 26 h w f v rh rl pn I := q1.vS hv (fun a b _ _ => by unfold plc; omega)
  refine R_aload_n rfl rfl ?_
  refine R_gP (x := 26) rfl rfl fp_10_6 rfl ?_
  refine R_gP (x := 30) rfl rfl fp_9_2 rfl ?_
  refine R_gP (x := 31) rfl rfl fp_0_0 rfl ?_
  refine R_astore_n rfl (by decide) ?_
  refine R_aload_n rfl rfl ?_
  refine R_iconst (v := 0) rfl rfl ?_
  refine R_iload_n rfl rfl ?_
  refine R_cV (as := [.int 0, .int (nI r)]) rfl rfl iv_Matrix_at ((by have z := sp_Matrix_at (σ := ρ) (k := 31) (i := 0) (j := r) im31 (by omega) (by omega); rw [(hv1.2.1).at (by omega) (by omega)] at z; exact z)) (by decide) rfl rfl rfl (by decide) rfl rfl (Nat.le_of_ble_eq_true rfl) (fun _ q => ?_)
  obtain rfl := q.symm
  refine R_l2i rfl ?_
  refine R_istore rfl (by decide) ?_
  refine R_aload_n rfl rfl ?_
  refine R_iconst (v := 0) rfl rfl ?_
  refine R_iload_n rfl rfl ?_
  refine R_iload_n rfl rfl ?_
  refine R_i2l rfl ?_
  refine R_cV (as := [.int 0, .int (nI r), .long x.toInt64]) rfl rfl iv_Matrix_put (sp_Matrix_put (i := 0) (j := r) im31 (by omega) (by omega)) (by decide) rfl rfl rfl (by decide) rfl rfl (Nat.le_of_ble_eq_true rfl) (fun _ q => ?_)
  obtain rfl := q.symm
  have hv2 : vS (uL ρ 31 0 r x.toInt64) 26 h w f (up2 v 0 r x.toInt64) rh rl pn I := vS_vec hv1 (smP_uL (fun b => by unfold plc; omega)) (hv1.2.1.put (by omega) (by omega))
  refine R_iload rfl rfl ?_
  exact T_ireturn rfl rfl (am_oki rfl (chg_end q1 q2 (smP_uL (p := plc 26 37) (σ := ρ) (k := 31) (i := 0) (j := r) (x := x.toInt64) (fun b => by unfold plc; omega)) hv2 smP.refl))
set_option maxRecDepth 100000 in
set_option maxHeartbeats 4000000 in
theorem sp_D_setVector_x0 {σ : am_G} {h w rh pn : Nat} {f v rl : am_Gr} {I : Nat → Int32} {x_ : Int32} {x : Int32} (hv : vS σ 26 h w f v rh rl pn I) (hb : ¬ (0 ≤ x ∧ x < nI h)) : am_Call am_TX 8 1 c_D_setVector [.ref 0, .int x, .int x_] (mm σ) (am_ThP "java/lang/IndexOutOfBoundsException" (fun σ1 => smP (plc 17 26) σ σ1)) := by
  have hh6 := hv.1.1.2
  have hw6 := hv.1.2.1.2
  have hr6 := hv.2.2.1.1.2
  have hp6 := hv.2.2.2.1.2
  refine ⟨mf_D_setVector, Nat.le_of_ble_eq_true rfl, ?_⟩
  refine R_aload_n rfl rfl ?_
  refine R_iload_n rfl rfl ?_
  refine R_cVxP (k := 0) (as := [.int x]) rfl rfl iv_D_requireRow (sp_requireRow_x hv hb) (by decide) rfl rfl rfl (by decide) rfl rfl (Nat.le_of_ble_eq_true rfl) (fun σ' hσ' => Rx_out rfl ⟨σ', rfl, by rw [hσ']; exact smP.refl⟩)
set_option maxRecDepth 100000 in
set_option maxHeartbeats 4000000 in
theorem sp_D_setVector_x1 {σ : am_G} {h w rh pn : Nat} {f v rl : am_Gr} {I : Nat → Int32} {r : Nat} {x : Int32} (hv : vS σ 26 h w f v rh rl pn I) (r_h : r < h) (hb : ¬ (-9999 ≤ x ∧ x ≤ 9999)) : am_Call am_TX 8 1 c_D_setVector [.ref 0, .int (nI r), .int x] (mm σ) (am_ThP "java/lang/IllegalArgumentException" (fun σ1 => smP (plc 17 26) σ σ1)) := by
  have hh6 := hv.1.1.2
  have hw6 := hv.1.2.1.2
  have hr6 := hv.2.2.1.1.2
  have hp6 := hv.2.2.2.1.2
  refine ⟨mf_D_setVector, Nat.le_of_ble_eq_true rfl, ?_⟩
  refine R_aload_n rfl rfl ?_
  refine R_iload_n rfl rfl ?_
  refine R_cV (as := [.int (nI r)]) rfl rfl iv_D_requireRow (sp_requireRow (r := r) hv (by omega)) (by decide) rfl rfl rfl (by decide) rfl rfl (Nat.le_of_ble_eq_true rfl) (fun _ q => ?_)
  obtain rfl := q.symm
  refine R_aload_n rfl rfl ?_
  refine R_iload_n rfl rfl ?_
  refine R_sipush (v := -9999) rfl (by decide) ?_
  refine R_sipush (v := 9999) rfl (by decide) ?_
  refine R_cVxP (k := 0) (as := [.int x, .int (-9999), .int 9999]) rfl rfl iv_D_requireRange (sp_requireRange_x hb) (by decide) rfl rfl rfl (by decide) rfl rfl (Nat.le_of_ble_eq_true rfl) (fun σ' hσ' => Rx_out rfl ⟨σ', rfl, by rw [hσ']; exact smP.refl⟩)
set_option maxRecDepth 100000 in
set_option maxHeartbeats 4000000 in
theorem sp_D_claim {σ : am_G} {h w rh pn : Nat} {f v rl : am_Gr} {I : Nat → Int32} {n : Nat} {Hs : Nat → am_Sn} {S T : Nat} (hv : vS σ 26 h w f v rh rl pn I) (hH : cH σ n Hs) (hS : S < 2 ^ h) (hT : T < 2 ^ w) (hc : pc S = pc T) : am_Call am_TX 8 0 c_D_claim [.ref 0, .int (nI S), .int (nI T)] (mm σ) (am_Ok (some (.int (zP (mnF f S w T ≠ 0)))) (fun σ1 => smP (plc 17 99) σ σ1 ∧ cS σ1 26 (h, w, f, v, rh, rl, pn, (uJ (uJ I 2 (nI S)) 3 (nI T))) ∧ cH σ1 (nxZ n) (hC (h, w, f, v, rh, rl, pn, I) Hs))) := by
  have hh6 := hv.1.1.2
  have hw6 := hv.1.2.1.2
  have hr6 := hv.2.2.1.1.2
  have hp6 := hv.2.2.2.1.2
  have hS6 := p2_64 hS hh6
  have hT6 := p2_64 hT hw6
  refine ⟨mf_D_claim, Nat.le_of_ble_eq_true rfl, ?_⟩
  refine R_aload_n rfl rfl ?_
  refine R_iload_n rfl rfl ?_
  refine R_iload_n rfl rfl ?_
  refine R_cV (as := [.int (nI S), .int (nI T)]) rfl rfl iv_D_requireSquare (sp_requireSquare hv hS hT hc) (by decide) rfl rfl rfl (by decide) rfl rfl (Nat.le_of_ble_eq_true rfl) (fun _ q => ?_)
  obtain rfl := q.symm
  refine R_aload_n rfl rfl ?_
  refine R_gP (x := 37) rfl rfl fp_10_8 rfl ?_
  refine R_aload_n rfl rfl ?_
  refine R_gP (x := 26) rfl rfl fp_10_6 rfl ?_
  refine R_cV (as := [.ref 26]) rfl rfl iv_History_push (sp_pushV (D := (h, w, f, v, rh, rl, pn, I)) hv hH) (by decide) rfl rfl rfl (by decide) rfl rfl (Nat.le_of_ble_eq_true rfl) (fun ρ hρ => ?_)
  obtain ⟨q1, q2⟩ := hρ
  have hv1 : vS ρ 26 h w f v rh rl pn I := q1.vS hv (fun a b _ _ => by unfold plc; omega)
  refine R_aload_n rfl rfl ?_
  refine R_gP (x := 26) rfl rfl fp_10_6 rfl ?_
  refine R_gP (x := 30) rfl rfl fp_9_2 rfl ?_
  refine R_iload_n rfl rfl ?_
  refine R_iload_n rfl rfl ?_
  refine R_cV (as := [.int (nI S), .int (nI T)]) rfl rfl iv_Certificate_setClaim (sp_setClaim rfl) (by decide) rfl rfl rfl (by decide) rfl rfl (Nat.le_of_ble_eq_true rfl) (fun _ q => ?_)
  obtain rfl := q.symm
  have hv2 : vS (clS ρ 30 (nI S) (nI T)) 26 h w f v rh rl pn (uJ (uJ I 2 (nI S)) 3 (nI T)) := vS_cl hv1
  refine R_aload_n rfl rfl ?_
  refine R_gP (x := 16) rfl rfl fp_10_4 rfl ?_
  refine R_aload_n rfl rfl ?_
  refine R_gP (x := 26) rfl rfl fp_10_6 rfl ?_
  refine R_gP (x := 27) rfl rfl fp_9_0 rfl ?_
  refine R_iload_n rfl rfl ?_
  refine R_iload_n rfl rfl ?_
  refine R_cV (as := [.ref 27, .int (nI S), .int (nI T)]) rfl rfl iv_Reckoner_minorOf (sp_minorOf (S := S) (s := T) im27 (by omega) hv2.1 (by first | assumption | exact lw_lt (by omega) | exact wi_lt (by first | assumption | omega) (by omega) | exact wo_lt (by first | assumption | omega) (by omega) | omega) (by first | assumption | exact lw_lt (by omega) | exact wi_lt (by first | assumption | omega) (by omega) | exact wo_lt (by first | assumption | omega) (by omega) | omega)) (by decide) rfl rfl rfl (by decide) rfl rfl (Nat.le_of_ble_eq_true rfl) (fun σ4 hσ4 => ?_)
  refine R_lconst (v := 0) rfl rfl ?_
  refine R_l_eq rfl rfl rfl (fun h1 => ?_) (fun h1 => ?_)
  · refine R_iconst (v := 0) rfl rfl ?_
    exact T_ireturn rfl rfl (am_oki (zP_f (fun z => z h1)).symm (chg_end q1 q2 (clS_fr (p := plc 26 37) (σ := ρ) (c := 30) (x := nI S) (y := nI T) (fun b => by unfold plc; omega)) hv2 (hσ4.mono (q := plc 17 26) (fun a b => by unfold plc; omega))))
  · refine R_iconst (v := 1) rfl rfl ?_
    refine R_goto rfl rfl ?_
    exact T_ireturn rfl rfl (am_oki (zP_t h1).symm (chg_end q1 q2 (clS_fr (p := plc 26 37) (σ := ρ) (c := 30) (x := nI S) (y := nI T) (fun b => by unfold plc; omega)) hv2 (hσ4.mono (q := plc 17 26) (fun a b => by unfold plc; omega))))
set_option maxRecDepth 100000 in
set_option maxHeartbeats 4000000 in
theorem sp_D_claim_x0x {σ : am_G} {h w rh pn : Nat} {f v rl : am_Gr} {I : Nat → Int32} {T_ : Int32} {x : Int32} (hv : vS σ 26 h w f v rh rl pn I) (hb : ¬ x &&& (nI (2 ^ h - 1) ^^^ (-1)) = 0) : am_Call am_TX 8 1 c_D_claim [.ref 0, .int x, .int T_] (mm σ) (am_ThP "java/lang/IllegalArgumentException" (fun σ1 => smP (plc 17 26) σ σ1)) := by
  have hh6 := hv.1.1.2
  have hw6 := hv.1.2.1.2
  have hr6 := hv.2.2.1.1.2
  have hp6 := hv.2.2.2.1.2
  refine ⟨mf_D_claim, Nat.le_of_ble_eq_true rfl, ?_⟩
  refine R_aload_n rfl rfl ?_
  refine R_iload_n rfl rfl ?_
  refine R_iload_n rfl rfl ?_
  refine R_cVxP (k := 0) (as := [.int x, .int T_]) rfl rfl iv_D_requireSquare (sp_requireSquare_x hv hb) (by decide) rfl rfl rfl (by decide) rfl rfl (Nat.le_of_ble_eq_true rfl) (fun σ' hσ' => Rx_out rfl ⟨σ', rfl, by rw [hσ']; exact smP.refl⟩)
set_option maxRecDepth 100000 in
set_option maxHeartbeats 4000000 in
theorem sp_D_claim_x0y {σ : am_G} {h w rh pn : Nat} {f v rl : am_Gr} {I : Nat → Int32} {S : Int32} {x : Int32} (hv : vS σ 26 h w f v rh rl pn I) (hs : S &&& (nI (2 ^ h - 1) ^^^ (-1)) = 0) (hb : ¬ x &&& (nI (2 ^ w - 1) ^^^ (-1)) = 0) : am_Call am_TX 8 1 c_D_claim [.ref 0, .int S, .int x] (mm σ) (am_ThP "java/lang/IllegalArgumentException" (fun σ1 => smP (plc 17 26) σ σ1)) := by
  have hh6 := hv.1.1.2
  have hw6 := hv.1.2.1.2
  have hr6 := hv.2.2.1.1.2
  have hp6 := hv.2.2.2.1.2
  refine ⟨mf_D_claim, Nat.le_of_ble_eq_true rfl, ?_⟩
  refine R_aload_n rfl rfl ?_
  refine R_iload_n rfl rfl ?_
  refine R_iload_n rfl rfl ?_
  refine R_cVxP (k := 0) (as := [.int S, .int x]) rfl rfl iv_D_requireSquare (sp_requireSquare_y hv hs hb) (by decide) rfl rfl rfl (by decide) rfl rfl (Nat.le_of_ble_eq_true rfl) (fun σ' hσ' => Rx_out rfl ⟨σ', rfl, by rw [hσ']; exact smP.refl⟩)
set_option maxRecDepth 100000 in
set_option maxHeartbeats 4000000 in
theorem sp_D_claim_x0z {σ : am_G} {h w rh pn : Nat} {f v rl : am_Gr} {I : Nat → Int32} {S T : Nat} (hv : vS σ 26 h w f v rh rl pn I) (hS : S < 2 ^ h) (hT : T < 2 ^ w) (hc : ¬ pc S = pc T) : am_Call am_TX 8 1 c_D_claim [.ref 0, .int (nI S), .int (nI T)] (mm σ) (am_ThP "java/lang/IllegalArgumentException" (fun σ1 => smP (plc 17 26) σ σ1)) := by
  have hh6 := hv.1.1.2
  have hw6 := hv.1.2.1.2
  have hr6 := hv.2.2.1.1.2
  have hp6 := hv.2.2.2.1.2
  refine ⟨mf_D_claim, Nat.le_of_ble_eq_true rfl, ?_⟩
  refine R_aload_n rfl rfl ?_
  refine R_iload_n rfl rfl ?_
  refine R_iload_n rfl rfl ?_
  refine R_cVxP (k := 0) (as := [.int (nI S), .int (nI T)]) rfl rfl iv_D_requireSquare (sp_requireSquare_z hv hS hT hc) (by decide) rfl rfl rfl (by decide) rfl rfl (Nat.le_of_ble_eq_true rfl) (fun σ' hσ' => Rx_out rfl ⟨σ', rfl, by rw [hσ']; exact smP.refl⟩)
set_option maxRecDepth 100000 in
set_option maxHeartbeats 4000000 in
theorem sp_D_addRelation {σ : am_G} {h w rh pn : Nat} {f v rl : am_Gr} {I : Nat → Int32} {n : Nat} {Hs : Nat → am_Sn} (hv : vS σ 26 h w f v rh rl pn I) (hH : cH σ n Hs) (hc : ¬ cnG v h 1 = 0) (h6 : rh < 6) : am_Call am_TX 8 0 c_D_addRelation [.ref 0] (mm σ) (am_Ok (some (.int (nI (rh + 1)))) (fun σ1 => smP (plc 17 99) σ σ1 ∧ cS σ1 26 (h, w, f, v, (rh + 1), (adL rl v rh h), pn, I) ∧ cH σ1 (nxZ n) (hC (h, w, f, v, rh, rl, pn, I) Hs))) := by
  have hh6 := hv.1.1.2
  have hw6 := hv.1.2.1.2
  have hr6 := hv.2.2.1.1.2
  have hp6 := hv.2.2.2.1.2
  have hcn : cnG v h 1 ≤ 1 * h := cnG_le 1
  refine ⟨mf_D_addRelation, Nat.le_of_ble_eq_true rfl, ?_⟩
  refine R_aload_n rfl rfl ?_
  refine R_gP (x := 26) rfl rfl fp_10_6 rfl ?_
  refine R_gP (x := 30) rfl rfl fp_9_2 rfl ?_
  refine R_astore_n rfl (by decide) ?_
  refine R_aload_n rfl rfl ?_
  refine R_gP (x := 31) rfl rfl fp_0_0 rfl ?_
  refine R_cV (as := []) rfl rfl iv_Matrix_filledCells (sp_Matrix_filledCells im31 hv.2.1) (by decide) rfl rfl rfl (by decide) rfl rfl (Nat.le_of_ble_eq_true rfl) (fun _ q => ?_)
  obtain rfl := q.symm
  refine R_nif_ne (x := (cnG v h 1)) rfl rfl (by omega) (fun h1 => ?_) (fun z => by omega)
  refine R_aload_n rfl rfl ?_
  refine R_gP (x := 33) rfl rfl fp_0_1 rfl ?_
  refine R_gIN (n := rh) rfl rfl fd_4_0 hv.2.2.1.1.1 ?_
  refine R_bipush (v := 6) rfl (by decide) ?_
  refine R_nicmp_lt (x := rh) (y := 6) rfl rfl (by omega) (by omega) (fun h2 => ?_) (fun z => by omega)
  refine R_aload_n rfl rfl ?_
  refine R_gP (x := 37) rfl rfl fp_10_8 rfl ?_
  refine R_aload_n rfl rfl ?_
  refine R_gP (x := 26) rfl rfl fp_10_6 rfl ?_
  refine R_cV (as := [.ref 26]) rfl rfl iv_History_push (sp_pushV (D := (h, w, f, v, rh, rl, pn, I)) hv hH) (by decide) rfl rfl rfl (by decide) rfl rfl (Nat.le_of_ble_eq_true rfl) (fun ρ hρ => ?_)
  obtain ⟨q1, q2⟩ := hρ
  have hv1 : vS ρ 26 h w f v rh rl pn I := q1.vS hv (fun a b _ _ => by unfold plc; omega)
  refine R_aload_n rfl rfl ?_
  refine R_gP (x := 33) rfl rfl fp_0_1 rfl ?_
  refine R_aload_n rfl rfl ?_
  refine R_gP (x := 31) rfl rfl fp_0_0 rfl ?_
  refine R_cV (as := [.ref 31]) rfl rfl iv_Matrix_addLine (sp_Matrix_addLine im33 hv1.2.2.1 (by omega) im31 ⟨by omega, by omega, by omega⟩ hv1.2.1) (by decide) rfl rfl rfl (by decide) rfl rfl (Nat.le_of_ble_eq_true rfl) (fun _ q => ?_)
  obtain rfl := q.symm
  have hv2 : vS (setM ρ 33 (rh + 1) h (adL rl v rh h)) 26 h w f v (rh + 1) (adL rl v rh h) pn I := vS_rel hv1 (smP_setM (fun b => by unfold plc; omega) (fun b => by unfold plc; omega)) (vM_setM (by omega) hh6)
  refine R_aload_n rfl rfl ?_
  refine R_gP (x := 33) rfl rfl fp_0_1 rfl ?_
  refine R_gIN (n := (rh + 1)) rfl rfl fd_4_0 hv2.2.2.1.1.1 ?_
  exact T_ireturn rfl rfl (am_oki rfl (chg_end q1 q2 (smP_setM (p := plc 26 37) (σ := ρ) (k := 33) (h := (rh + 1)) (w := h) (f := (adL rl v rh h)) (fun b => by unfold plc; omega) (fun b => by unfold plc; omega)) hv2 smP.refl))
set_option maxRecDepth 100000 in
set_option maxHeartbeats 4000000 in
theorem sp_D_addRelation_z {σ : am_G} {h w rh pn : Nat} {f v rl : am_Gr} {I : Nat → Int32} (hv : vS σ 26 h w f v rh rl pn I) (hc : cnG v h 1 = 0) : am_Call am_TX 8 1 c_D_addRelation [.ref 0] (mm σ) (am_ThP "java/lang/IllegalStateException" (fun σ1 => smP (plc 17 26) σ σ1)) := by
  have hh6 := hv.1.1.2
  have hw6 := hv.1.2.1.2
  have hr6 := hv.2.2.1.1.2
  have hp6 := hv.2.2.2.1.2
  have hcn : cnG v h 1 ≤ 1 * h := cnG_le 1
  refine ⟨mf_D_addRelation, Nat.le_of_ble_eq_true rfl, ?_⟩
  refine R_aload_n rfl rfl ?_
  refine R_gP (x := 26) rfl rfl fp_10_6 rfl ?_
  refine R_gP (x := 30) rfl rfl fp_9_2 rfl ?_
  refine R_astore_n rfl (by decide) ?_
  refine R_aload_n rfl rfl ?_
  refine R_gP (x := 31) rfl rfl fp_0_0 rfl ?_
  refine R_cV (as := []) rfl rfl iv_Matrix_filledCells (sp_Matrix_filledCells im31 hv.2.1) (by decide) rfl rfl rfl (by decide) rfl rfl (Nat.le_of_ble_eq_true rfl) (fun _ q => ?_)
  obtain rfl := q.symm
  refine R_nif_ne (x := (cnG v h 1)) rfl rfl (by omega) (fun z => by omega) (fun h1 => ?_)
  exact R_throwW (text := "all numbers of the vector are 0") (i := 4) rfl rfl rfl rfl rfl (List.mem_of_getElem? (i := 4) rfl) am_tw0 rfl rfl (Nat.le_refl 1) ⟨_, rfl, smP.refl⟩
set_option maxRecDepth 100000 in
set_option maxHeartbeats 4000000 in
theorem sp_D_addRelation_f {σ : am_G} {h w rh pn : Nat} {f v rl : am_Gr} {I : Nat → Int32} (hv : vS σ 26 h w f v rh rl pn I) (hc : ¬ cnG v h 1 = 0) (h6 : ¬ rh < 6) : am_Call am_TX 8 1 c_D_addRelation [.ref 0] (mm σ) (am_ThP "java/lang/IllegalStateException" (fun σ1 => smP (plc 17 26) σ σ1)) := by
  have hh6 := hv.1.1.2
  have hw6 := hv.1.2.1.2
  have hr6 := hv.2.2.1.1.2
  have hp6 := hv.2.2.2.1.2
  have hcn : cnG v h 1 ≤ 1 * h := cnG_le 1
  refine ⟨mf_D_addRelation, Nat.le_of_ble_eq_true rfl, ?_⟩
  refine R_aload_n rfl rfl ?_
  refine R_gP (x := 26) rfl rfl fp_10_6 rfl ?_
  refine R_gP (x := 30) rfl rfl fp_9_2 rfl ?_
  refine R_astore_n rfl (by decide) ?_
  refine R_aload_n rfl rfl ?_
  refine R_gP (x := 31) rfl rfl fp_0_0 rfl ?_
  refine R_cV (as := []) rfl rfl iv_Matrix_filledCells (sp_Matrix_filledCells im31 hv.2.1) (by decide) rfl rfl rfl (by decide) rfl rfl (Nat.le_of_ble_eq_true rfl) (fun _ q => ?_)
  obtain rfl := q.symm
  refine R_nif_ne (x := (cnG v h 1)) rfl rfl (by omega) (fun h1 => ?_) (fun z => by omega)
  refine R_aload_n rfl rfl ?_
  refine R_gP (x := 33) rfl rfl fp_0_1 rfl ?_
  refine R_gIN (n := rh) rfl rfl fd_4_0 hv.2.2.1.1.1 ?_
  refine R_bipush (v := 6) rfl (by decide) ?_
  refine R_nicmp_lt (x := rh) (y := 6) rfl rfl (by omega) (by omega) (fun z => by omega) (fun h2 => ?_)
  exact R_throwW (text := "there is no room for another relation") (i := 5) rfl rfl rfl rfl rfl (List.mem_of_getElem? (i := 5) rfl) am_tw0 rfl rfl (Nat.le_refl 1) ⟨_, rfl, smP.refl⟩
set_option maxRecDepth 100000 in
set_option maxHeartbeats 4000000 in
theorem sp_D_dropRelation {σ : am_G} {h w rh pn : Nat} {f v rl : am_Gr} {I : Nat → Int32} {n : Nat} {Hs : Nat → am_Sn} {k : Nat} (hv : vS σ 26 h w f v rh rl pn I) (hH : cH σ n Hs) (k_r : k < rh) : am_Call am_TX 8 0 c_D_dropRelation [.ref 0, .int (nI k)] (mm σ) (am_Ok (some (.int (nI (rh - 1)))) (fun σ1 => smP (plc 17 99) σ σ1 ∧ cS σ1 26 (h, w, f, v, (rh - 1), (drL rl k h rh 0), pn, I) ∧ cH σ1 (nxZ n) (hC (h, w, f, v, rh, rl, pn, I) Hs))) := by
  have hh6 := hv.1.1.2
  have hw6 := hv.1.2.1.2
  have hr6 := hv.2.2.1.1.2
  have hp6 := hv.2.2.2.1.2
  refine ⟨mf_D_dropRelation, Nat.le_of_ble_eq_true rfl, ?_⟩
  refine R_aload_n rfl rfl ?_
  refine R_iload_n rfl rfl ?_
  refine R_cV (as := [.int (nI k)]) rfl rfl iv_D_requireRelation (sp_requireRelation (r := k) hv (by omega)) (by decide) rfl rfl rfl (by decide) rfl rfl (Nat.le_of_ble_eq_true rfl) (fun _ q => ?_)
  obtain rfl := q.symm
  refine R_aload_n rfl rfl ?_
  refine R_gP (x := 37) rfl rfl fp_10_8 rfl ?_
  refine R_aload_n rfl rfl ?_
  refine R_gP (x := 26) rfl rfl fp_10_6 rfl ?_
  refine R_cV (as := [.ref 26]) rfl rfl iv_History_push (sp_pushV (D := (h, w, f, v, rh, rl, pn, I)) hv hH) (by decide) rfl rfl rfl (by decide) rfl rfl (Nat.le_of_ble_eq_true rfl) (fun ρ hρ => ?_)
  obtain ⟨q1, q2⟩ := hρ
  have hv1 : vS ρ 26 h w f v rh rl pn I := q1.vS hv (fun a b _ _ => by unfold plc; omega)
  refine R_aload_n rfl rfl ?_
  refine R_gP (x := 26) rfl rfl fp_10_6 rfl ?_
  refine R_gP (x := 30) rfl rfl fp_9_2 rfl ?_
  refine R_gP (x := 33) rfl rfl fp_0_1 rfl ?_
  refine R_iload_n rfl rfl ?_
  refine R_cV (as := [.int (nI k)]) rfl rfl iv_Matrix_dropLine (sp_Matrix_dropLine (l := k) im33 hv1.2.2.1 (by omega)) (by decide) rfl rfl rfl (by decide) rfl rfl (Nat.le_of_ble_eq_true rfl) (fun _ q => ?_)
  obtain rfl := q.symm
  have hv2 : vS (setM ρ 33 (rh - 1) h (drL rl k h rh 0)) 26 h w f v (rh - 1) (drL rl k h rh 0) pn I := vS_rel hv1 (smP_setM (fun b => by unfold plc; omega) (fun b => by unfold plc; omega)) (vM_setM (by omega) hh6)
  refine R_aload_n rfl rfl ?_
  refine R_gP (x := 26) rfl rfl fp_10_6 rfl ?_
  refine R_gP (x := 30) rfl rfl fp_9_2 rfl ?_
  refine R_gP (x := 33) rfl rfl fp_0_1 rfl ?_
  refine R_gIN (n := (rh - 1)) rfl rfl fd_4_0 hv2.2.2.1.1.1 ?_
  exact T_ireturn rfl rfl (am_oki rfl (chg_end q1 q2 (smP_setM (p := plc 26 37) (σ := ρ) (k := 33) (h := (rh - 1)) (w := h) (f := (drL rl k h rh 0)) (fun b => by unfold plc; omega) (fun b => by unfold plc; omega)) hv2 smP.refl))
set_option maxRecDepth 100000 in
set_option maxHeartbeats 4000000 in
theorem sp_D_dropRelation_x0 {σ : am_G} {h w rh pn : Nat} {f v rl : am_Gr} {I : Nat → Int32} {x : Int32} (hv : vS σ 26 h w f v rh rl pn I) (hb : ¬ (0 ≤ x ∧ x < nI rh)) : am_Call am_TX 8 1 c_D_dropRelation [.ref 0, .int x] (mm σ) (am_ThP "java/lang/IndexOutOfBoundsException" (fun σ1 => smP (plc 17 26) σ σ1)) := by
  have hh6 := hv.1.1.2
  have hw6 := hv.1.2.1.2
  have hr6 := hv.2.2.1.1.2
  have hp6 := hv.2.2.2.1.2
  refine ⟨mf_D_dropRelation, Nat.le_of_ble_eq_true rfl, ?_⟩
  refine R_aload_n rfl rfl ?_
  refine R_iload_n rfl rfl ?_
  refine R_cVxP (k := 0) (as := [.int x]) rfl rfl iv_D_requireRelation (sp_requireRelation_x hv hb) (by decide) rfl rfl rfl (by decide) rfl rfl (Nat.le_of_ble_eq_true rfl) (fun σ' hσ' => Rx_out rfl ⟨σ', rfl, by rw [hσ']; exact smP.refl⟩)
theorem vS_tr {σ : am_G} {s h w h2 w2 rh pn : Nat} {f f2 v rl : am_Gr} {I : Nat → Int32} (hS : isState s) (hh : h2 ≤ 6) (hw : w2 ≤ 6) (hv : vS σ s h w f v rh rl pn I) : vS (clS (setM (setM (setM σ (s + 1) h2 w2 f2) (s + 5) 1 h2 (fun _ _ => 0)) (s + 7) 0 h2 (fun _ _ => 0)) (s + 4) (-1) (-1)) s h2 w2 f2 (fun _ _ => 0) 0 (fun _ _ => 0) pn (uJ (uJ I 2 (-1)) 3 (-1)) := by
  refine vS_cl ?_
  have q1 : smP (plc (s + 1) (s + 3)) σ (setM σ (s + 1) h2 w2 f2) := smP_setM (fun b => by unfold plc; omega) (fun b => by unfold plc; omega)
  have q2 : smP (plc (s + 5) (s + 7)) (setM σ (s + 1) h2 w2 f2) (setM (setM σ (s + 1) h2 w2 f2) (s + 5) 1 h2 (fun _ _ => 0)) := smP_setM (fun b => by unfold plc; omega) (fun b => by unfold plc; omega)
  have q3 : smP (plc (s + 7) (s + 9)) (setM (setM σ (s + 1) h2 w2 f2) (s + 5) 1 h2 (fun _ _ => 0)) (setM (setM (setM σ (s + 1) h2 w2 f2) (s + 5) 1 h2 (fun _ _ => 0)) (s + 7) 0 h2 (fun _ _ => 0)) := smP_setM (fun b => by unfold plc; omega) (fun b => by unfold plc; omega)
  obtain ⟨a1, a2, a3, a4, a5, a6, a7, a8, a9, a10⟩ := hv
  have i : ∀ {a b : Nat}, (a < s + 1 ∨ (s + 3 ≤ a ∧ a < s + 5) ∨ s + 9 ≤ a) → (setM (setM (setM σ (s + 1) h2 w2 f2) (s + 5) 1 h2 (fun _ _ => 0)) (s + 7) 0 h2 (fun _ _ => 0)).1 a b = σ.1 a b := fun h => ((q3.i (by unfold plc; omega)).trans (q2.i (by unfold plc; omega))).trans (q1.i (by unfold plc; omega))
  refine ⟨?_, ?_, vM_setM (by omega) hh, ⟨(i (by omega)).trans a4.1, a4.2⟩, (i (by omega)).trans a5, (i (by omega)).trans a6, (i (by omega)).trans a7, (i (by omega)).trans a8, fun j hj => (i (by omega)).trans (a9 j hj), fun j hj => (i (by omega)).trans (a10 j hj)⟩
  · exact q3.vM (q2.vM (vM_setM hh hw) (fun b => by unfold plc; omega) (fun b => by unfold plc; omega)) (fun b => by unfold plc; omega) (fun b => by unfold plc; omega)
  · exact q3.vM (vM_setM (by omega) hh) (fun b => by unfold plc; omega) (fun b => by unfold plc; omega)
theorem chg_end2 {σ ρ μ : am_G} {n : Nat} {Hs : Nat → am_Sn} {D2 : am_Sn} (q1 : smP (plc 37 99) σ ρ) (q2 : cH ρ n Hs) (M : smP (plc 17 37) ρ μ) (hv2 : cS μ 26 D2) : smP (plc 17 99) σ μ ∧ cS μ 26 D2 ∧ cH μ n Hs :=
  ⟨(q1.mono (fun a b => by unfold plc; omega)).trans (M.mono (fun a b => by unfold plc; omega)), hv2, q2.fr M (fun a b _ _ => by unfold plc; omega)⟩
set_option maxRecDepth 100000 in
set_option maxHeartbeats 4000000 in
theorem sp_D_transpose {σ : am_G} {h w rh pn : Nat} {f v rl : am_Gr} {I : Nat → Int32} {n : Nat} {Hs : Nat → am_Sn} (hv : vS σ 26 h w f v rh rl pn I) (hH : cH σ n Hs) : am_Call am_TX 8 0 c_D_transpose [.ref 0] (mm σ) (am_Ok (some (.int (nI w))) (fun σ1 => smP (plc 17 99) σ σ1 ∧ cS σ1 26 (w, h, (tuF f h w 0), (fun _ _ => 0), 0, (fun _ _ => 0), pn, (uJ (uJ I 2 (-1)) 3 (-1))) ∧ cH σ1 (nxZ n) (hC (h, w, f, v, rh, rl, pn, I) Hs))) := by
  have hh6 := hv.1.1.2
  have hw6 := hv.1.2.1.2
  have hr6 := hv.2.2.1.1.2
  have hp6 := hv.2.2.2.1.2
  refine ⟨mf_D_transpose, Nat.le_of_ble_eq_true rfl, ?_⟩
  refine R_aload_n rfl rfl ?_
  refine R_gP (x := 37) rfl rfl fp_10_8 rfl ?_
  refine R_aload_n rfl rfl ?_
  refine R_gP (x := 26) rfl rfl fp_10_6 rfl ?_
  refine R_cV (as := [.ref 26]) rfl rfl iv_History_push (sp_pushV (D := (h, w, f, v, rh, rl, pn, I)) hv hH) (by decide) rfl rfl rfl (by decide) rfl rfl (Nat.le_of_ble_eq_true rfl) (fun ρ hρ => ?_)
  obtain ⟨q1, q2⟩ := hρ
  have hv1 : vS ρ 26 h w f v rh rl pn I := q1.vS hv (fun a b _ _ => by unfold plc; omega)
  refine R_aload_n rfl rfl ?_
  refine R_gP (x := 26) rfl rfl fp_10_6 rfl ?_
  refine R_gP (x := 27) rfl rfl fp_9_0 rfl ?_
  refine R_aload_n rfl rfl ?_
  refine R_gP (x := 16) rfl rfl fp_10_4 rfl ?_
  refine R_aload_n rfl rfl ?_
  refine R_gP (x := 26) rfl rfl fp_10_6 rfl ?_
  refine R_gP (x := 27) rfl rfl fp_9_0 rfl ?_
  refine R_cV (as := [.ref 27]) rfl rfl iv_Reckoner_turned (sp_turned im27 (by omega) hv1.1) (by decide) rfl rfl rfl (by decide) rfl rfl (Nat.le_of_ble_eq_true rfl) (fun _ q => ?_)
  obtain rfl := q.symm
  refine R_cV (as := [.ref 21]) rfl rfl iv_Matrix_copyFrom (sp_Matrix_copyFrom im27 im21 ⟨by omega, by omega, by omega⟩ (vM_setM (σ := ρ) (k := 21) (h := w) (w := h) (f := (tuF f h w 0)) hw6 hh6)) (by decide) rfl rfl rfl (by decide) rfl rfl (Nat.le_of_ble_eq_true rfl) (fun _ q => ?_)
  obtain rfl := q.symm
  refine R_aload_n rfl rfl ?_
  refine R_gP (x := 26) rfl rfl fp_10_6 rfl ?_
  refine R_gP (x := 30) rfl rfl fp_9_2 rfl ?_
  refine R_aload_n rfl rfl ?_
  refine R_gP (x := 26) rfl rfl fp_10_6 rfl ?_
  refine R_gP (x := 27) rfl rfl fp_9_0 rfl ?_
  refine R_gIN (n := w) rfl rfl fd_4_0 (vM_setM (σ := (setM ρ 21 w h (tuF f h w 0))) (k := 27) (h := w) (w := h) (f := (tuF f h w 0)) hw6 hh6).1.1 ?_
  refine R_cV (as := [.int (nI w)]) rfl rfl iv_Certificate_clear (sp_Certificate_clear (n := w) isState_26) (by decide) rfl rfl rfl (by decide) rfl rfl (Nat.le_of_ble_eq_true rfl) (fun _ q => ?_)
  obtain rfl := q.symm
  have hv2 : vS (clS (setM (setM (setM (setM ρ 21 w h (tuF f h w 0)) 27 w h (tuF f h w 0)) 31 1 w (fun _ _ => 0)) 33 0 w (fun _ _ => 0)) 30 (-1) (-1)) 26 w h (tuF f h w 0) (fun _ _ => 0) 0 (fun _ _ => 0) pn (uJ (uJ I 2 (-1)) 3 (-1)) := vS_tr isState_26 hw6 hh6 ((smP_setM (p := plc 21 23) (σ := ρ) (k := 21) (h := w) (w := h) (f := (tuF f h w 0)) (fun b => by unfold plc; omega) (fun b => by unfold plc; omega)).vS hv1 (fun a b _ _ => by unfold plc; omega))
  refine R_aload_n rfl rfl ?_
  refine R_gP (x := 26) rfl rfl fp_10_6 rfl ?_
  refine R_gP (x := 27) rfl rfl fp_9_0 rfl ?_
  refine R_gIN (n := w) rfl rfl fd_4_0 hv2.1.1.1 ?_
  exact T_ireturn rfl rfl (am_oki rfl (chg_end2 q1 q2 ((((smP_setM (p := plc 17 37) (σ := ρ) (k := 21) (h := w) (w := h) (f := (tuF f h w 0)) (fun b => by unfold plc; omega) (fun b => by unfold plc; omega)).trans (smP_setM (fun b => by unfold plc; omega) (fun b => by unfold plc; omega))).trans (smP_setM (fun b => by unfold plc; omega) (fun b => by unfold plc; omega))).trans ((smP_setM (fun b => by unfold plc; omega) (fun b => by unfold plc; omega)).trans (clS_fr (fun b => by unfold plc; omega)))) hv2))
theorem vS_cc {σ : am_G} {h w rh pn : Nat} {f v rl : am_Gr} {I : Nat → Int32} (hv : vS σ 26 h w f v rh rl pn I) : vS (clS (setM (setM σ 31 1 h (fun _ _ => 0)) 33 0 h (fun _ _ => 0)) 30 (-1) (-1)) 26 h w f (fun _ _ => 0) 0 (fun _ _ => 0) pn (uJ (uJ I 2 (-1)) 3 (-1)) :=
  vS_cl (s := 26) (vS_rel (s := 26) (vS_vec (s := 26) hv (smP_setM (fun b => by unfold plc; omega) (fun b => by unfold plc; omega)) (vM_setM (by omega) hv.1.1.2)) (smP_setM (fun b => by unfold plc; omega) (fun b => by unfold plc; omega)) (vM_setM (by omega) hv.1.1.2))
set_option maxRecDepth 100000 in
set_option maxHeartbeats 4000000 in
theorem sp_D_clearCertificate {σ : am_G} {h w rh pn : Nat} {f v rl : am_Gr} {I : Nat → Int32} {n : Nat} {Hs : Nat → am_Sn} (hv : vS σ 26 h w f v rh rl pn I) (hH : cH σ n Hs) : am_Call am_TX 8 0 c_D_clearCertificate [.ref 0] (mm σ) (am_Ok (some (.int (nI rh))) (fun σ1 => smP (plc 17 99) σ σ1 ∧ cS σ1 26 (h, w, f, (fun _ _ => 0), 0, (fun _ _ => 0), pn, (uJ (uJ I 2 (-1)) 3 (-1))) ∧ cH σ1 (nxZ n) (hC (h, w, f, v, rh, rl, pn, I) Hs))) := by
  have hh6 := hv.1.1.2
  have hw6 := hv.1.2.1.2
  have hr6 := hv.2.2.1.1.2
  have hp6 := hv.2.2.2.1.2
  refine ⟨mf_D_clearCertificate, Nat.le_of_ble_eq_true rfl, ?_⟩
  refine R_aload_n rfl rfl ?_
  refine R_gP (x := 37) rfl rfl fp_10_8 rfl ?_
  refine R_aload_n rfl rfl ?_
  refine R_gP (x := 26) rfl rfl fp_10_6 rfl ?_
  refine R_cV (as := [.ref 26]) rfl rfl iv_History_push (sp_pushV (D := (h, w, f, v, rh, rl, pn, I)) hv hH) (by decide) rfl rfl rfl (by decide) rfl rfl (Nat.le_of_ble_eq_true rfl) (fun ρ hρ => ?_)
  obtain ⟨q1, q2⟩ := hρ
  have hv1 : vS ρ 26 h w f v rh rl pn I := q1.vS hv (fun a b _ _ => by unfold plc; omega)
  refine R_aload_n rfl rfl ?_
  refine R_gP (x := 26) rfl rfl fp_10_6 rfl ?_
  refine R_gP (x := 30) rfl rfl fp_9_2 rfl ?_
  refine R_gP (x := 33) rfl rfl fp_0_1 rfl ?_
  refine R_gIN (n := rh) rfl rfl fd_4_0 hv1.2.2.1.1.1 ?_
  refine R_istore_n rfl (by decide) ?_
  refine R_aload_n rfl rfl ?_
  refine R_gP (x := 26) rfl rfl fp_10_6 rfl ?_
  refine R_gP (x := 30) rfl rfl fp_9_2 rfl ?_
  refine R_aload_n rfl rfl ?_
  refine R_gP (x := 26) rfl rfl fp_10_6 rfl ?_
  refine R_gP (x := 27) rfl rfl fp_9_0 rfl ?_
  refine R_gIN (n := h) rfl rfl fd_4_0 hv1.1.1.1 ?_
  refine R_cV (as := [.int (nI h)]) rfl rfl iv_Certificate_clear (sp_Certificate_clear (n := h) isState_26) (by decide) rfl rfl rfl (by decide) rfl rfl (Nat.le_of_ble_eq_true rfl) (fun _ q => ?_)
  obtain rfl := q.symm
  have hv2 : vS (clS (setM (setM ρ 31 1 h (fun _ _ => 0)) 33 0 h (fun _ _ => 0)) 30 (-1) (-1)) 26 h w f (fun _ _ => 0) 0 (fun _ _ => 0) pn (uJ (uJ I 2 (-1)) 3 (-1)) := vS_cc hv1
  refine R_iload_n rfl rfl ?_
  exact T_ireturn rfl rfl (am_oki rfl (chg_end q1 q2 (((smP_setM (p := plc 26 37) (σ := ρ) (k := 31) (h := 1) (w := h) (f := fun _ _ => 0) (fun b => by unfold plc; omega) (fun b => by unfold plc; omega)).trans (smP_setM (fun b => by unfold plc; omega) (fun b => by unfold plc; omega))).trans (clS_fr (fun b => by unfold plc; omega))) hv2 smP.refl))
