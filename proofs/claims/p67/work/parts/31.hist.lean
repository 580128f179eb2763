/-! ===== history, spoilers, guesses ===== -/
theorem isState_ring {t : Nat} (ht : t < 6) : isState (39 + 10 * t) :=
  match t, ht with
  | 0, _ => ⟨rfl, ⟨rfl, rfl, rfl⟩, rfl, rfl, ⟨rfl, rfl, rfl⟩, ⟨rfl, rfl, rfl⟩, rfl, rfl, rfl, rfl, rfl, rfl, rfl⟩
  | 1, _ => ⟨rfl, ⟨rfl, rfl, rfl⟩, rfl, rfl, ⟨rfl, rfl, rfl⟩, ⟨rfl, rfl, rfl⟩, rfl, rfl, rfl, rfl, rfl, rfl, rfl⟩
  | 2, _ => ⟨rfl, ⟨rfl, rfl, rfl⟩, rfl, rfl, ⟨rfl, rfl, rfl⟩, ⟨rfl, rfl, rfl⟩, rfl, rfl, rfl, rfl, rfl, rfl, rfl⟩
  | 3, _ => ⟨rfl, ⟨rfl, rfl, rfl⟩, rfl, rfl, ⟨rfl, rfl, rfl⟩, ⟨rfl, rfl, rfl⟩, rfl, rfl, rfl, rfl, rfl, rfl, rfl⟩
  | 4, _ => ⟨rfl, ⟨rfl, rfl, rfl⟩, rfl, rfl, ⟨rfl, rfl, rfl⟩, ⟨rfl, rfl, rfl⟩, rfl, rfl, rfl, rfl, rfl, rfl, rfl⟩
  | 5, _ => ⟨rfl, ⟨rfl, rfl, rfl⟩, rfl, rfl, ⟨rfl, rfl, rfl⟩, ⟨rfl, rfl, rfl⟩, rfl, rfl, rfl, rfl, rfl, rfl, rfl⟩
  | n + 6, h => absurd h (by omega)
theorem ringP {t ρ : Nat} (ht : t < 6) : am_P ρ 38 t = some (39 + 10 * t) := by
  have key : ∀ t : Nat, t < 6 → am_P0 38 t = some (39 + 10 * t) := by decide
  exact key t ht
set_option maxRecDepth 100000 in
set_option maxHeartbeats 4000000 in
theorem sp_minI {σ : am_G} {x y : Nat} (hx : x < 2 ^ 31) (hy : y < 2 ^ 31) : am_Call am_TX 0 0 c_JMath_min [.int (nI x), .int (nI y)] (mm σ) (am_Ok (some (.int (nI (min x y)))) (fun σ1 => σ1 = σ)) := by
  refine ⟨mf_JMath_min, Nat.le_of_ble_eq_true rfl, ?_⟩
  refine R_iload_n rfl rfl ?_
  refine R_iload_n rfl rfl ?_
  refine R_nicmp_gt (x := x) (y := y) rfl rfl (by omega) (by omega) (fun h1 => ?_) (fun h1 => ?_)
  · refine R_iload_n rfl rfl ?_
    exact T_ireturn rfl rfl (am_oki (congrArg nI (by omega)) rfl)
  · refine R_iload_n rfl rfl ?_
    refine R_goto rfl rfl ?_
    exact T_ireturn rfl rfl (am_oki (congrArg nI (by omega)) rfl)
set_option maxRecDepth 100000 in
set_option maxHeartbeats 4000000 in
theorem sp_stateAt {σ : am_G} {t : Nat} (ht : t < 6) : am_Call am_TX 0 0 c_History_stateAt [.ref 37, .int (nI t)] (mm σ) (am_Ok (some (.ref (39 + 10 * t))) (fun σ1 => σ1 = σ)) := by
  refine ⟨mf_History_stateAt, Nat.le_of_ble_eq_true rfl, ?_⟩
  refine R_iload_n rfl rfl ?_
  refine R_nif_lt (x := t) rfl rfl (by omega) (fun z => by omega) (fun h1 => ?_)
  refine R_iload_n rfl rfl ?_
  refine R_aload_n rfl rfl ?_
  refine R_gP (x := 38) rfl rfl fp_2_2 rfl ?_
  refine R_aln (v := 6) rfl rfl (by decide) (by decide) ?_
  refine R_nicmp_ge (x := t) (y := 6) rfl rfl (by omega) (by omega) (fun z => by omega) (fun h2 => ?_)
  refine R_aload_n rfl rfl ?_
  refine R_gP (x := 38) rfl rfl fp_2_2 rfl ?_
  refine R_iload_n rfl rfl ?_
  refine R_xP (j := t) (x := (39 + 10 * t)) rfl rfl rfl ht (by decide) (ringP ht) ?_
  refine R_goto rfl rfl ?_
  exact T_areturn rfl rfl (am_okr rfl rfl)
def nxT (t : Nat) : Nat := if t + 1 < 6 then t + 1 else 0
def nxZ (z : Nat) : Nat := min (z + 1) 6
set_option maxRecDepth 100000 in
set_option maxHeartbeats 4000000 in
theorem sp_push {σ : am_G} {s h w rh pn t z : Nat} {f v rl : am_Gr} {I : Nat → Int32} (hv : vS σ s h w f v rh rl pn I) (hS : isState s) (ha : s + 10 ≤ 37 ∨ 99 ≤ s) (ht : σ.1 37 1 = nI t) (ht6 : t < 6) (hz : σ.1 37 0 = nI z) (hz6 : z ≤ 6) : am_Call am_TX 3 0 c_History_push [.ref 37, .ref s] (mm σ) (am_Ok none (fun σ1 => σ1 = sI (sI (putS σ (39 + 10 * t) h w f v rh rl pn I) 37 1 (nI (nxT t))) 37 0 (nI (nxZ z)))) := by
  have hRS := isState_ring ht6
  refine ⟨mf_History_push, Nat.le_of_ble_eq_true rfl, ?_⟩
  refine R_aload_n rfl rfl ?_
  refine R_aload_n rfl rfl ?_
  refine R_gIN (n := t) rfl rfl fd_2_1 (ht) ?_
  refine R_cV (as := [.int (nI t)]) rfl rfl iv_History_stateAt (sp_stateAt (t := t) (by omega)) (by decide) rfl rfl rfl (by decide) rfl rfl (Nat.le_of_ble_eq_true rfl) (fun _ q => ?_)
  obtain rfl := q.symm
  refine R_astore_n rfl (by decide) ?_
  refine R_aload_n rfl rfl ?_
  refine R_ifnull rfl ?_
  refine R_aload_n rfl rfl ?_
  refine R_aload_n rfl rfl ?_
  refine R_cV (as := [.ref s]) rfl rfl iv_State_copyFrom (sp_State_copyFrom (isState_ring ht6) hS (by omega) hv) (by decide) rfl rfl hRS.1 (by decide) rfl rfl (Nat.le_of_ble_eq_true rfl) (fun _ q => ?_)
  obtain rfl := q.symm
  refine R_aload_n rfl rfl ?_
  refine R_aload_n rfl rfl ?_
  refine R_gIN (n := t) rfl rfl fd_2_1 (((putS_fr (p := plc 39 99) (fun a b _ _ => by unfold plc; omega)).i (by unfold plc; omega)).trans (ht)) ?_
  refine R_iconst (v := 1) rfl rfl ?_
  refine R_iaddN (x := t) (y := 1) rfl ?_
  refine R_aload_n rfl rfl ?_
  refine R_gP (x := 38) rfl rfl fp_2_2 rfl ?_
  refine R_aln (v := 6) rfl rfl (by decide) (by decide) ?_
  refine R_nicmp_ge (x := (t + 1)) (y := 6) rfl rfl (by omega) (by omega) (fun h1 => ?_) (fun h1 => ?_)
  · refine R_iconst (v := 0) rfl rfl ?_
    refine R_pI rfl rfl fw_2_1 rfl ?_
    refine R_aload_n rfl rfl ?_
    refine R_aload_n rfl rfl ?_
    refine R_gIN (n := z) rfl rfl fd_2_0 ((sI_o (Or.inr (by decide))).trans (((putS_fr (p := plc 39 99) (fun a b _ _ => by unfold plc; omega)).i (by unfold plc; omega)).trans (hz))) ?_
    refine R_iconst (v := 1) rfl rfl ?_
    refine R_iaddN (x := z) (y := 1) rfl ?_
    refine R_aload_n rfl rfl ?_
    refine R_gP (x := 38) rfl rfl fp_2_2 rfl ?_
    refine R_aln (v := 6) rfl rfl (by decide) (by decide) ?_
    refine R_cS (as := [.int (nI (z + 1)), .int 6]) rfl rfl iv_JMath_min (sp_minI (x := (z + 1)) (y := 6) (by omega) (by omega)) (by decide) rfl rfl rfl rfl (Nat.le_of_ble_eq_true rfl) (fun _ q => ?_)
    obtain rfl := q.symm
    refine R_pI rfl rfl fw_2_0 rfl ?_
    exact T_return rfl rfl (am_okv0 (by unfold nxT nxZ; rw [if_neg (by omega)]; rfl))
  · refine R_aload_n rfl rfl ?_
    refine R_gIN (n := t) rfl rfl fd_2_1 (((putS_fr (p := plc 39 99) (fun a b _ _ => by unfold plc; omega)).i (by unfold plc; omega)).trans (ht)) ?_
    refine R_iconst (v := 1) rfl rfl ?_
    refine R_iaddN (x := t) (y := 1) rfl ?_
    refine R_goto rfl rfl ?_
    refine R_pI rfl rfl fw_2_1 rfl ?_
    refine R_aload_n rfl rfl ?_
    refine R_aload_n rfl rfl ?_
    refine R_gIN (n := z) rfl rfl fd_2_0 ((sI_o (Or.inr (by decide))).trans (((putS_fr (p := plc 39 99) (fun a b _ _ => by unfold plc; omega)).i (by unfold plc; omega)).trans (hz))) ?_
    refine R_iconst (v := 1) rfl rfl ?_
    refine R_iaddN (x := z) (y := 1) rfl ?_
    refine R_aload_n rfl rfl ?_
    refine R_gP (x := 38) rfl rfl fp_2_2 rfl ?_
    refine R_aln (v := 6) rfl rfl (by decide) (by decide) ?_
    refine R_cS (as := [.int (nI (z + 1)), .int 6]) rfl rfl iv_JMath_min (sp_minI (x := (z + 1)) (y := 6) (by omega) (by omega)) (by decide) rfl rfl rfl rfl (Nat.le_of_ble_eq_true rfl) (fun _ q => ?_)
    obtain rfl := q.symm
    refine R_pI rfl rfl fw_2_0 rfl ?_
    exact T_return rfl rfl (am_okv0 (by unfold nxT nxZ; rw [if_pos (by omega)]))
