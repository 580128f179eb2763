/-! ===== the model: truncate, outputByte ===== -/
theorem in_le {x : Int32} {n : Nat} (hn : n < 2 ^ 30) : ((0 : Int64) ≤ x.toInt64 ∧ x.toInt64 ≤ (nI n).toInt64) ↔ (0 ≤ x ∧ x ≤ nI n) := by
  rw [l_le, l_le, Int32.toInt_toInt64, Int32.toInt_toInt64, l0, Int32.le_iff_toInt_le, Int32.le_iff_toInt_le]
  exact Iff.rfl
theorem nI_p1 {n : Nat} (hn : n < 2 ^ 30) : (nI n - 1).toInt = (n : Int) - 1 := by
  rw [Int32.toInt_sub, nI_toInt (by omega), show (1 : Int32).toInt = 1 from rfl]
  exact Int.bmod_eq_of_le (by omega) (by omega)
theorem in_lt {x : Int32} {n : Nat} (hn : n < 2 ^ 30) : ((0 : Int64) ≤ x.toInt64 ∧ x.toInt64 ≤ (nI n - 1).toInt64) ↔ (0 ≤ x ∧ x < nI n) := by
  rw [l_le, l_le, Int32.toInt_toInt64, Int32.toInt_toInt64, l0, nI_p1 hn, Int32.le_iff_toInt_le, Int32.lt_iff_toInt_lt, nI_toInt (by omega), show (0 : Int32).toInt = 0 from rfl]
  omega
theorem pass_1 {σ : am_G} : am_Call am_TX 1 0 c_M_passes [.ref 120, .int 1] (mm σ) (am_Ok (some (.int 1)) (fun σ1 => σ1 = sI σ 120 0 0)) := sp_passes (P0 := True)
theorem pass_0 {σ : am_G} : am_Call am_TX 1 0 c_M_passes [.ref 120, .int 0] (mm σ) (am_Ok (some (.int 0)) (fun σ1 => σ1 = sI σ 120 0 1)) := sp_passes (P0 := False)
/-- the model's input: what stands in it, n bytes -/
def iM (σ : am_G) (n : Nat) (B : List Int32) : Prop := B.length = n ∧ σ.1 120 12 = nI n ∧ n ≤ 400 ∧ ∀ i x, B[i]? = some x → σ.1 126 i = x.toInt8.toInt32 ∧ x.toInt8.toInt32 &&& 255 = x
theorem iM.fr {P : Nat → Nat → Prop} {σ σ1 : am_G} (q : smP P σ σ1) {n : Nat} {B : List Int32} (h : iM σ n B) (hp : ¬ P 120 12 ∧ ∀ b, ¬ P 126 b) : iM σ1 n B :=
  ⟨h.1, (q.i hp.1).trans h.2.1, h.2.2.1, fun i x e => ⟨(q.i (hp.2 i)).trans (h.2.2.2 i x e).1, (h.2.2.2 i x e).2⟩⟩
theorem iM_take {σ : am_G} {n k : Nat} {B : List Int32} (h : iM σ n B) (hk : k ≤ n) : iM (sI σ 120 12 (nI k)) k (B.take k) := by
  obtain ⟨h1, h2, h3, h4⟩ := h
  refine ⟨by rw [List.length_take]; omega, sI_s, by omega, fun i x e => ?_⟩
  rw [sI_o (Or.inl (by decide))]
  rw [List.getElem?_take] at e
  split at e
  · exact h4 i x e
  · exact absurd e (by simp)
theorem oM_at {σ : am_G} {L : List Int32} {x : Nat} (h : oM σ L) (hx : x < L.length) : σ.1 131 x = (L[x]?).getD 0 := by
  have e := List.getElem?_eq_getElem hx
  rw [e]
  exact h.2.2 x _ e
set_option maxRecDepth 100000 in
set_option maxHeartbeats 4000000 in
theorem sp_M_truncate {σ : am_G} {n k : Nat} {B : List Int32} (h : iM σ n B) (hk : k ≤ n) : am_Call am_TX 2 0 c_M_truncate [.ref 120, .int (nI k)] (mm σ) (am_Ok none (fun σ1 => smP (fun a b => a = 120 ∧ (b = 0 ∨ b = 12)) σ σ1 ∧ σ1.1 120 0 = 0 ∧ iM σ1 k (B.take k))) := by
  have h400 := h.2.2.1
  have hrg := rg_n hk (by omega)
  refine ⟨mf_M_truncate, Nat.le_of_ble_eq_true rfl, ?_⟩
  refine R_aload_n rfl rfl ?_
  refine R_iload_n rfl rfl ?_
  refine R_i2l rfl ?_
  refine R_lconst (v := 0) rfl rfl ?_
  refine R_aload_n rfl rfl ?_
  refine R_gIN (n := n) rfl rfl fd_11_12 h.2.1 ?_
  refine R_i2l rfl ?_
  refine R_cS (as := [.long ((nI k).toInt64), .long 0, .long ((nI n).toInt64)]) rfl rfl iv_M_in ((by have z := sp_in (v := ((nI k).toInt64)) (lo := 0) (hi := ((nI n).toInt64)) (σ := σ); rw [zP_t ((in_le (by omega)).mpr hrg)] at z; exact z)) (by decide) rfl rfl rfl rfl (Nat.le_of_ble_eq_true rfl) (fun _ q => ?_)
  obtain rfl := q.symm
  refine R_cV (as := [.int 1]) rfl rfl iv_M_passes (pass_1) (by decide) rfl rfl rfl (by decide) rfl rfl (Nat.le_of_ble_eq_true rfl) (fun _ q => ?_)
  obtain rfl := q.symm
  refine R_if_eq rfl rfl (fun z => absurd z (by decide)) (fun _ => ?_)
  refine R_aload_n rfl rfl ?_
  refine R_iload_n rfl rfl ?_
  refine R_pI rfl rfl fw_11_12 rfl ?_
  exact T_return rfl rfl (am_okv0 ⟨(smP_sI ⟨rfl, Or.inl rfl⟩).trans (smP_sI ⟨rfl, Or.inr rfl⟩), (sI_o (Or.inr (by decide))).trans sI_s, iM_take (h.fr (smP_sI (p := fun a b => a = 120 ∧ b = 0) ⟨rfl, rfl⟩) ⟨by omega, fun b => by omega⟩) hk⟩)
set_option maxRecDepth 100000 in
set_option maxHeartbeats 4000000 in
theorem sp_M_truncate_x {σ : am_G} {n : Nat} {B : List Int32} {x : Int32} (h : iM σ n B) (hb : ¬ (0 ≤ x ∧ x ≤ nI n)) : am_Call am_TX 2 0 c_M_truncate [.ref 120, .int x] (mm σ) (am_Ok none (fun σ1 => σ1 = sI σ 120 0 1)) := by
  have h400 := h.2.2.1
  refine ⟨mf_M_truncate, Nat.le_of_ble_eq_true rfl, ?_⟩
  refine R_aload_n rfl rfl ?_
  refine R_iload_n rfl rfl ?_
  refine R_i2l rfl ?_
  refine R_lconst (v := 0) rfl rfl ?_
  refine R_aload_n rfl rfl ?_
  refine R_gIN (n := n) rfl rfl fd_11_12 h.2.1 ?_
  refine R_i2l rfl ?_
  refine R_cS (as := [.long x.toInt64, .long 0, .long ((nI n).toInt64)]) rfl rfl iv_M_in ((by have z := sp_in (v := x.toInt64) (lo := 0) (hi := ((nI n).toInt64)) (σ := σ); rw [zP_f (fun y => hb ((in_le (by omega)).mp y))] at z; exact z)) (by decide) rfl rfl rfl rfl (Nat.le_of_ble_eq_true rfl) (fun _ q => ?_)
  obtain rfl := q.symm
  refine R_cV (as := [.int 0]) rfl rfl iv_M_passes (pass_0) (by decide) rfl rfl rfl (by decide) rfl rfl (Nat.le_of_ble_eq_true rfl) (fun _ q => ?_)
  obtain rfl := q.symm
  refine R_if_eq rfl rfl (fun _ => ?_) (fun z => absurd z (by decide))
  exact T_return rfl rfl (am_okv0 rfl)
set_option maxRecDepth 100000 in
set_option maxHeartbeats 4000000 in
theorem sp_M_outputByte {σ : am_G} {L : List Int32} {x : Nat} (h : oM σ L) (hx : x < L.length) : am_Call am_TX 2 0 c_M_outputByte [.ref 120, .int (nI x)] (mm σ) (am_Ok (some (.int ((L[x]?).getD 0))) (fun σ1 => σ1 = sI σ 120 0 0)) := by
  have h1000 := h.2.1
  have hrg := in_row (x := nI x) (h := L.length) (by omega)
  refine ⟨mf_M_outputByte, Nat.le_of_ble_eq_true rfl, ?_⟩
  refine R_aload_n rfl rfl ?_
  refine R_iload_n rfl rfl ?_
  refine R_i2l rfl ?_
  refine R_lconst (v := 0) rfl rfl ?_
  refine R_aload_n rfl rfl ?_
  refine R_gIN (n := L.length) rfl rfl fd_11_27 h.1 ?_
  refine R_iconst (v := 1) rfl rfl ?_
  refine R_isub rfl ?_
  refine R_i2l rfl ?_
  refine R_cS (as := [.long ((nI x).toInt64), .long 0, .long (((nI L.length) - 1).toInt64)]) rfl rfl iv_M_in ((by have z := sp_in (v := ((nI x).toInt64)) (lo := 0) (hi := (((nI L.length) - 1).toInt64)) (σ := σ); rw [zP_t ((in_lt (by omega)).mpr (hrg.mpr ⟨x, hx, rfl⟩))] at z; exact z)) (by decide) rfl rfl rfl rfl (Nat.le_of_ble_eq_true rfl) (fun _ q => ?_)
  obtain rfl := q.symm
  refine R_cV (as := [.int 1]) rfl rfl iv_M_passes (pass_1) (by decide) rfl rfl rfl (by decide) rfl rfl (Nat.le_of_ble_eq_true rfl) (fun _ q => ?_)
  obtain rfl := q.symm
  refine R_if_eq rfl rfl (fun z => absurd z (by decide)) (fun _ => ?_)
  refine R_aload_n rfl rfl ?_
  refine R_gP (x := 131) rfl rfl fp_11_26 rfl ?_
  refine R_iload_n rfl rfl ?_
  refine R_xB (j := x) rfl rfl rfl (by omega) (by decide) ?_
  refine R_goto rfl rfl ?_
  exact T_ireturn rfl rfl (am_oki ((sI_o (Or.inl (by decide))).trans (oM_at h hx)) rfl)
set_option maxRecDepth 100000 in
set_option maxHeartbeats 4000000 in
theorem sp_M_outputByte_x {σ : am_G} {L : List Int32} {x : Int32} (h : oM σ L) (hb : ¬ (0 ≤ x ∧ x < nI L.length)) : am_Call am_TX 2 0 c_M_outputByte [.ref 120, .int x] (mm σ) (am_Ok (some (.int 0)) (fun σ1 => σ1 = sI σ 120 0 1)) := by
  have h1000 := h.2.1
  refine ⟨mf_M_outputByte, Nat.le_of_ble_eq_true rfl, ?_⟩
  refine R_aload_n rfl rfl ?_
  refine R_iload_n rfl rfl ?_
  refine R_i2l rfl ?_
  refine R_lconst (v := 0) rfl rfl ?_
  refine R_aload_n rfl rfl ?_
  refine R_gIN (n := L.length) rfl rfl fd_11_27 h.1 ?_
  refine R_iconst (v := 1) rfl rfl ?_
  refine R_isub rfl ?_
  refine R_i2l rfl ?_
  refine R_cS (as := [.long x.toInt64, .long 0, .long (((nI L.length) - 1).toInt64)]) rfl rfl iv_M_in ((by have z := sp_in (v := x.toInt64) (lo := 0) (hi := (((nI L.length) - 1).toInt64)) (σ := σ); rw [zP_f (fun y => hb ((in_lt (by omega)).mp y))] at z; exact z)) (by decide) rfl rfl rfl rfl (Nat.le_of_ble_eq_true rfl) (fun _ q => ?_)
  obtain rfl := q.symm
  refine R_cV (as := [.int 0]) rfl rfl iv_M_passes (pass_0) (by decide) rfl rfl rfl (by decide) rfl rfl (Nat.le_of_ble_eq_true rfl) (fun _ q => ?_)
  obtain rfl := q.symm
  refine R_if_eq rfl rfl (fun _ => ?_) (fun z => absurd z (by decide))
  refine R_iconst (v := 0) rfl rfl ?_
  exact T_ireturn rfl rfl (am_oki rfl rfl)
