/-! ===== the model: truth values, the row read, ranges ===== -/
/-- a matrix in a row of the model's -/
def mC (σ : am_G) (p h w : Nat) (f : am_Gr) : Prop := σ.2.1 p 0 = (nI h).toInt64 ∧ σ.2.1 p 1 = (nI w).toInt64 ∧ ∀ i j, i < 6 → j < 6 → σ.2.1 p (14 + 6 * i + j) = f i j
/-- the matrix that the model reads now -/
def mV (σ : am_G) (h w : Nat) (f : am_Gr) : Prop := ((1 ≤ h ∧ h ≤ 6) ∧ 1 ≤ w ∧ w ≤ 6) ∧ (σ.2.2 = 121 ∨ σ.2.2 = 122) ∧ ((σ.1 120 4 = 0 ∧ mC σ σ.2.2 h w f) ∨ (σ.1 120 4 = 1 ∧ mC σ σ.2.2 w h (fun i j => f j i)))
theorem mC.fr {P : Nat → Nat → Prop} {σ σ1 : am_G} (q : smP P σ σ1) {p h w : Nat} {f : am_Gr} (hc : mC σ p h w f) (hp : ∀ b, ¬ P p b) : mC σ1 p h w f :=
  ⟨(q.l (hp 0)).trans hc.1, (q.l (hp 1)).trans hc.2.1, fun i j hi hj => (q.l (hp _)).trans (hc.2.2 i j hi hj)⟩
theorem smP.mV {P : Nat → Nat → Prop} {σ σ1 : am_G} (q : smP P σ σ1) {h w : Nat} {f : am_Gr} (hv : mV σ h w f) (h1 : ∀ b, ¬ P 121 b) (h2 : ∀ b, ¬ P 122 b) (h3 : ¬ P 120 4) : mV σ1 h w f := by
  obtain ⟨a, b, c⟩ := hv
  have e := q.2
  have hp : ∀ b, ¬ P σ.2.2 b := by rcases b with b | b <;> rw [b] <;> assumption
  refine ⟨a, by rw [e]; exact b, ?_⟩
  rw [e, q.i h3]
  rcases c with ⟨c, d⟩ | ⟨c, d⟩
  · exact Or.inl ⟨c, d.fr q hp⟩
  · exact Or.inr ⟨c, d.fr q hp⟩
theorem sh98 {p : Nat} (h : p = 121 ∨ p = 122) : Sh[p]? = some (2, 98) := by rcases h with rfl | rfl <;> rfl
theorem i3264 {x : Int32} : x.toInt64.toInt32 = x := Int32.toInt32_toInt64 x
theorem in_iff {x : Int32} {h : Nat} (h1 : 1 ≤ h) (h6 : h < 2 ^ 31) : ((0 : Int64) ≤ x.toInt64 ∧ x.toInt64 ≤ (nI (h - 1)).toInt64) ↔ (0 ≤ x ∧ x < nI h) := by
  rw [l_le, l_le, Int32.toInt_toInt64, Int32.toInt_toInt64, l0, nI_toInt (by omega), Int32.le_iff_toInt_le, Int32.lt_iff_toInt_lt, nI_toInt h6]
  show 0 ≤ x.toInt ∧ x.toInt ≤ ((h - 1 : Nat) : Int) ↔ (0 : Int32).toInt ≤ x.toInt ∧ x.toInt < (h : Int)
  rw [show (0 : Int32).toInt = 0 from rfl]
  omega
theorem in_row {x : Int32} {h : Nat} (h6 : h < 2 ^ 31) : (0 ≤ x ∧ x < nI h) ↔ ∃ n, n < h ∧ x = nI n := by
  constructor
  · rintro ⟨h1, h2⟩
    rw [Int32.le_iff_toInt_le, show (0 : Int32).toInt = 0 from rfl] at h1
    rw [Int32.lt_iff_toInt_lt, nI_toInt h6] at h2
    refine ⟨x.toInt.toNat, by omega, ?_⟩
    apply Int32.toInt_inj.mp
    rw [nI_toInt (by omega)]; omega
  · rintro ⟨n, hn, rfl⟩
    rw [Int32.le_iff_toInt_le, Int32.lt_iff_toInt_lt, nI_toInt (by omega), nI_toInt h6, show (0 : Int32).toInt = 0 from rfl]
    omega
theorem in_a {a b : Int64} (h : ¬ a < b) : b ≤ a := by rw [l_lt] at h; rw [l_le]; omega
theorem in_b {a b : Int64} (h : a < b) (k : b ≤ a) : False := by rw [l_lt] at h; rw [l_le] at k; omega
set_option maxRecDepth 100000 in
set_option maxHeartbeats 4000000 in
theorem sp_in {σ : am_G} {v lo hi : Int64} : am_Call am_TX 0 0 c_M_in [.long v, .long lo, .long hi] (mm σ) (am_Ok (some (.int (zP (lo ≤ v ∧ v ≤ hi)))) (fun σ1 => σ1 = σ)) := by
  refine ⟨mf_M_in, Nat.le_of_ble_eq_true rfl, ?_⟩
  refine R_lload_n rfl rfl ?_
  refine R_lload_n rfl rfl ?_
  refine R_l_lt rfl rfl rfl (fun h1 => ?_) (fun h1 => ?_)
  · refine R_iconst (v := 0) rfl rfl ?_
    exact T_zreturn rfl rfl rfl (am_oki ((zP_f (fun z => in_b h1 z.1)).symm) rfl)
  · refine R_lload_n rfl rfl ?_
    refine R_lload rfl rfl ?_
    refine R_l_gt rfl rfl rfl (fun h2 => ?_) (fun h2 => ?_)
    · refine R_iconst (v := 0) rfl rfl ?_
      exact T_zreturn rfl rfl rfl (am_oki ((zP_f (fun z => in_b h2 z.2)).symm) rfl)
    · refine R_iconst (v := 1) rfl rfl ?_
      refine R_goto rfl rfl ?_
      exact T_zreturn rfl rfl rfl (am_oki ((zP_t ⟨in_a h1, in_a h2⟩).symm) rfl)
/-- which exception is told -/
def thI (P0 P1 P2 : Prop) [Decidable P0] [Decidable P1] [Decidable P2] : Int32 := if P0 then (if P1 then (if P2 then 0 else 3) else 2) else 1
set_option maxRecDepth 100000 in
set_option maxHeartbeats 4000000 in
theorem sp_passes3 {σ : am_G} {P0 P1 P2 : Prop} {_d0 : Decidable P0} {_d1 : Decidable P1} {_d2 : Decidable P2} : am_Call am_TX 0 0 c_M_passes3 [.ref 120, .int (zP (P0)), .int (zP (P1)), .int (zP (P2))] (mm σ) (am_Ok (some (.int (zP (P0 ∧ P1 ∧ P2)))) (fun σ1 => σ1 = sI σ 120 0 (thI P0 P1 P2))) := by
  refine ⟨mf_M_passes3, Nat.le_of_ble_eq_true rfl, ?_⟩
  refine R_aload_n rfl rfl ?_
  refine R_iload_n rfl rfl ?_
  refine R_zif_ne rfl rfl (fun h1 => ?_) (fun h1 => ?_)
  · refine R_iload_n rfl rfl ?_
    refine R_zif_ne rfl rfl (fun h2 => ?_) (fun h2 => ?_)
    · refine R_iload_n rfl rfl ?_
      refine R_zif_ne rfl rfl (fun h3 => ?_) (fun h3 => ?_)
      · refine R_iconst (v := 0) rfl rfl ?_
        refine R_pI rfl rfl fw_11_0 rfl ?_
        refine R_aload_n rfl rfl ?_
        refine R_gIX (x := 0) rfl rfl fd_11_0 sI_s ?_
        refine R_if_ne rfl rfl (fun z => absurd z (by decide)) (fun _ => ?_)
        refine R_iconst (v := 1) rfl rfl ?_
        refine R_goto rfl rfl ?_
        have eT : thI P0 P1 P2 = 0 := by unfold thI; rw [if_pos h1, if_pos h2, if_pos h3]
        exact T_zreturn rfl rfl rfl (am_oki ((zP_t ⟨h1, h2, h3⟩).symm) (by rw [eT]))
      · refine R_iconst (v := 3) rfl rfl ?_
        refine R_goto rfl rfl ?_
        refine R_pI rfl rfl fw_11_0 rfl ?_
        refine R_aload_n rfl rfl ?_
        refine R_gIX (x := 3) rfl rfl fd_11_0 sI_s ?_
        refine R_if_ne rfl rfl (fun _ => ?_) (fun z => absurd z (by decide))
        refine R_iconst (v := 0) rfl rfl ?_
        have eT : thI P0 P1 P2 = 3 := by unfold thI; rw [if_pos h1, if_pos h2, if_neg h3]
        exact T_zreturn rfl rfl rfl (am_oki ((zP_f (fun z => h3 z.2.2)).symm) (by rw [eT]))
    · refine R_iconst (v := 2) rfl rfl ?_
      refine R_goto rfl rfl ?_
      refine R_pI rfl rfl fw_11_0 rfl ?_
      refine R_aload_n rfl rfl ?_
      refine R_gIX (x := 2) rfl rfl fd_11_0 sI_s ?_
      refine R_if_ne rfl rfl (fun _ => ?_) (fun z => absurd z (by decide))
      refine R_iconst (v := 0) rfl rfl ?_
      have eT : thI P0 P1 P2 = 2 := by unfold thI; rw [if_pos h1, if_neg h2]
      exact T_zreturn rfl rfl rfl (am_oki ((zP_f (fun z => h2 z.2.1)).symm) (by rw [eT]))
  · refine R_iconst (v := 1) rfl rfl ?_
    refine R_goto rfl rfl ?_
    refine R_pI rfl rfl fw_11_0 rfl ?_
    refine R_aload_n rfl rfl ?_
    refine R_gIX (x := 1) rfl rfl fd_11_0 sI_s ?_
    refine R_if_ne rfl rfl (fun _ => ?_) (fun z => absurd z (by decide))
    refine R_iconst (v := 0) rfl rfl ?_
    have eT : thI P0 P1 P2 = 1 := (if_neg h1)
    exact T_zreturn rfl rfl rfl (am_oki ((zP_f (fun z => h1 z.1)).symm) (by rw [eT]))
theorem zP_T : (1 : Int32) = zP True := rfl
theorem thI2 {P0 P1 : Prop} [Decidable P0] [Decidable P1] : thI P0 P1 True = (if P0 then (if P1 then 0 else 2) else 1) := by unfold thI; rw [if_pos trivial]
theorem thI1 {P0 : Prop} [Decidable P0] : thI P0 True True = (if P0 then 0 else 1) := by unfold thI; rw [if_pos trivial, if_pos trivial]
theorem zP_andT {P0 : Prop} [Decidable P0] : zP (P0 ∧ True ∧ True) = zP P0 := zP_c ⟨fun z => z.1, fun z => ⟨z, trivial, trivial⟩⟩
theorem zP_andT2 {P0 P1 : Prop} [Decidable P0] [Decidable P1] : zP (P0 ∧ P1 ∧ True) = zP (P0 ∧ P1) := zP_c ⟨fun z => ⟨z.1, z.2.1⟩, fun z => ⟨z.1, z.2, trivial⟩⟩
set_option maxRecDepth 100000 in
set_option maxHeartbeats 4000000 in
theorem sp_passes2 {σ : am_G} {P0 P1 : Prop} {_d0 : Decidable P0} {_d1 : Decidable P1} : am_Call am_TX 1 0 c_M_passes2 [.ref 120, .int (zP (P0)), .int (zP (P1))] (mm σ) (am_Ok (some (.int (zP (P0 ∧ P1)))) (fun σ1 => σ1 = sI σ 120 0 (if P0 then (if P1 then 0 else 2) else 1))) := by
  refine ⟨mf_M_passes2, Nat.le_of_ble_eq_true rfl, ?_⟩
  refine R_aload_n rfl rfl ?_
  refine R_iload_n rfl rfl ?_
  refine R_iload_n rfl rfl ?_
  refine R_iconst (v := 1) rfl rfl ?_
  refine R_cV (as := [.int (zP P0), .int (zP P1), .int (zP True)]) rfl rfl iv_M_passes3 sp_passes3 (by decide) rfl rfl rfl (by decide) rfl rfl (Nat.le_of_ble_eq_true rfl) (fun _ q => ?_)
  obtain rfl := q.symm
  rw [thI2, zP_andT2]
  exact T_zreturn rfl rfl nr_zP (am_oki rfl rfl)
set_option maxRecDepth 100000 in
set_option maxHeartbeats 4000000 in
theorem sp_passes {σ : am_G} {P0 : Prop} {_d0 : Decidable P0} : am_Call am_TX 1 0 c_M_passes [.ref 120, .int (zP (P0))] (mm σ) (am_Ok (some (.int (zP (P0)))) (fun σ1 => σ1 = sI σ 120 0 (if P0 then 0 else 1))) := by
  refine ⟨mf_M_passes, Nat.le_of_ble_eq_true rfl, ?_⟩
  refine R_aload_n rfl rfl ?_
  refine R_iload_n rfl rfl ?_
  refine R_iconst (v := 1) rfl rfl ?_
  refine R_iconst (v := 1) rfl rfl ?_
  refine R_cV (as := [.int (zP P0), .int (zP True), .int (zP True)]) rfl rfl iv_M_passes3 sp_passes3 (by decide) rfl rfl rfl (by decide) rfl rfl (Nat.le_of_ble_eq_true rfl) (fun _ q => ?_)
  obtain rfl := q.symm
  rw [thI1, zP_andT]
  exact T_zreturn rfl rfl nr_zP (am_oki rfl rfl)
set_option maxRecDepth 100000 in
set_option maxHeartbeats 4000000 in
theorem sp_get {σ : am_G} {p j : Nat} (hr : σ.2.2 = p) (hp : p = 121 ∨ p = 122) (hj : j < 98) : am_Call am_TX 0 0 c_M_get [.ref 120, .int (nI j)] (mm σ) (am_Ok (some (.int (σ.2.1 p j).toInt32)) (fun σ1 => σ1 = σ)) := by
  have hS := sh98 hp
  have hrow : am_P σ.2.2 120 3 = some p := by rw [hr]; rfl
  refine ⟨mf_M_get, Nat.le_of_ble_eq_true rfl, ?_⟩
  refine R_aload_n rfl rfl ?_
  refine R_gP (x := p) rfl rfl fp_11_3 hrow ?_
  refine R_iload_n rfl rfl ?_
  refine R_xL (j := j) rfl hS rfl (by omega) (by decide) ?_
  refine R_l2i rfl ?_
  exact T_ireturn rfl rfl (am_oki rfl rfl)
set_option maxRecDepth 100000 in
set_option maxHeartbeats 4000000 in
theorem sp_rows {σ : am_G} {h w : Nat} {f : am_Gr} (hv : mV σ h w f) : am_Call am_TX 1 0 c_M_rows [.ref 120] (mm σ) (am_Ok (some (.int (nI h))) (fun σ1 => σ1 = σ)) := by
  obtain ⟨⟨⟨h1, h6⟩, w1, w6⟩, hr0, hc⟩ := hv
  refine ⟨mf_M_rows, Nat.le_of_ble_eq_true rfl, ?_⟩
  rcases hc with ⟨ht, hC⟩ | ⟨ht, hC⟩
  · refine R_aload_n rfl rfl ?_
    refine R_gIX (x := 0) rfl rfl fd_11_4 ht ?_
    refine R_if_eq rfl rfl (fun _ => ?_) (fun z => absurd z (by decide))
    refine R_aload_n rfl rfl ?_
    refine R_iconst (v := 0) rfl rfl ?_
    refine R_cV (as := [.int 0]) rfl rfl iv_M_get (sp_get (σ := σ) (p := σ.2.2) (j := 0) rfl hr0 (by omega)) (by decide) rfl rfl rfl (by decide) rfl rfl (Nat.le_of_ble_eq_true rfl) (fun _ q => ?_)
    obtain rfl := q.symm
    exact T_ireturn rfl rfl (am_oki (by rw [hC.1, i3264]) rfl)
  · refine R_aload_n rfl rfl ?_
    refine R_gIX (x := 1) rfl rfl fd_11_4 ht ?_
    refine R_if_eq rfl rfl (fun z => absurd z (by decide)) (fun _ => ?_)
    refine R_aload_n rfl rfl ?_
    refine R_iconst (v := 1) rfl rfl ?_
    refine R_cV (as := [.int 1]) rfl rfl iv_M_get (sp_get (σ := σ) (p := σ.2.2) (j := 1) rfl hr0 (by omega)) (by decide) rfl rfl rfl (by decide) rfl rfl (Nat.le_of_ble_eq_true rfl) (fun _ q => ?_)
    obtain rfl := q.symm
    refine R_goto rfl rfl ?_
    exact T_ireturn rfl rfl (am_oki (by rw [hC.2.1, i3264]) rfl)
set_option maxRecDepth 100000 in
set_option maxHeartbeats 4000000 in
theorem sp_columns {σ : am_G} {h w : Nat} {f : am_Gr} (hv : mV σ h w f) : am_Call am_TX 1 0 c_M_columns [.ref 120] (mm σ) (am_Ok (some (.int (nI w))) (fun σ1 => σ1 = σ)) := by
  obtain ⟨⟨⟨h1, h6⟩, w1, w6⟩, hr0, hc⟩ := hv
  refine ⟨mf_M_columns, Nat.le_of_ble_eq_true rfl, ?_⟩
  rcases hc with ⟨ht, hC⟩ | ⟨ht, hC⟩
  · refine R_aload_n rfl rfl ?_
    refine R_gIX (x := 0) rfl rfl fd_11_4 ht ?_
    refine R_if_eq rfl rfl (fun _ => ?_) (fun z => absurd z (by decide))
    refine R_aload_n rfl rfl ?_
    refine R_iconst (v := 1) rfl rfl ?_
    refine R_cV (as := [.int 1]) rfl rfl iv_M_get (sp_get (σ := σ) (p := σ.2.2) (j := 1) rfl hr0 (by omega)) (by decide) rfl rfl rfl (by decide) rfl rfl (Nat.le_of_ble_eq_true rfl) (fun _ q => ?_)
    obtain rfl := q.symm
    exact T_ireturn rfl rfl (am_oki (by rw [hC.2.1, i3264]) rfl)
  · refine R_aload_n rfl rfl ?_
    refine R_gIX (x := 1) rfl rfl fd_11_4 ht ?_
    refine R_if_eq rfl rfl (fun z => absurd z (by decide)) (fun _ => ?_)
    refine R_aload_n rfl rfl ?_
    refine R_iconst (v := 0) rfl rfl ?_
    refine R_cV (as := [.int 0]) rfl rfl iv_M_get (sp_get (σ := σ) (p := σ.2.2) (j := 0) rfl hr0 (by omega)) (by decide) rfl rfl rfl (by decide) rfl rfl (Nat.le_of_ble_eq_true rfl) (fun _ q => ?_)
    obtain rfl := q.symm
    refine R_goto rfl rfl ?_
    exact T_ireturn rfl rfl (am_oki (by rw [hC.1, i3264]) rfl)
set_option maxRecDepth 100000 in
set_option maxHeartbeats 4000000 in
theorem sp_at {σ : am_G} {h w : Nat} {f : am_Gr} {i j : Nat} (hv : mV σ h w f) (hi : i < 6) (hj : j < 6) : am_Call am_TX 1 0 c_M_at [.ref 120, .int (nI i), .int (nI j)] (mm σ) (am_Ok (some (.int (f i j).toInt32)) (fun σ1 => σ1 = σ)) := by
  obtain ⟨⟨⟨h1, h6⟩, w1, w6⟩, hr0, hc⟩ := hv
  refine ⟨mf_M_at, Nat.le_of_ble_eq_true rfl, ?_⟩
  rcases hc with ⟨ht, hC⟩ | ⟨ht, hC⟩
  · refine R_aload_n rfl rfl ?_
    refine R_gIX (x := 0) rfl rfl fd_11_4 ht ?_
    refine R_if_eq rfl rfl (fun _ => ?_) (fun z => absurd z (by decide))
    refine R_aload_n rfl rfl ?_
    refine R_bipush (v := 14) rfl (by decide) ?_
    refine R_bipush (v := 6) rfl (by decide) ?_
    refine R_iload_n rfl rfl ?_
    refine R_imulN (x := 6) (y := i) rfl ?_
    refine R_iaddN (x := 14) (y := (6 * i)) rfl ?_
    refine R_iload_n rfl rfl ?_
    refine R_iaddN (x := (14 + (6 * i))) (y := j) rfl ?_
    refine R_cV (as := [.int (nI ((14 + (6 * i)) + j))]) rfl rfl iv_M_get (sp_get (σ := σ) (p := σ.2.2) (j := ((14 + (6 * i)) + j)) rfl hr0 (by omega)) (by decide) rfl rfl rfl (by decide) rfl rfl (Nat.le_of_ble_eq_true rfl) (fun _ q => ?_)
    obtain rfl := q.symm
    exact T_ireturn rfl rfl (am_oki (by rw [hC.2.2 i j hi hj]) rfl)
  · refine R_aload_n rfl rfl ?_
    refine R_gIX (x := 1) rfl rfl fd_11_4 ht ?_
    refine R_if_eq rfl rfl (fun z => absurd z (by decide)) (fun _ => ?_)
    refine R_aload_n rfl rfl ?_
    refine R_bipush (v := 14) rfl (by decide) ?_
    refine R_bipush (v := 6) rfl (by decide) ?_
    refine R_iload_n rfl rfl ?_
    refine R_imulN (x := 6) (y := j) rfl ?_
    refine R_iaddN (x := 14) (y := (6 * j)) rfl ?_
    refine R_iload_n rfl rfl ?_
    refine R_iaddN (x := (14 + (6 * j))) (y := i) rfl ?_
    refine R_cV (as := [.int (nI ((14 + (6 * j)) + i))]) rfl rfl iv_M_get (sp_get (σ := σ) (p := σ.2.2) (j := ((14 + (6 * j)) + i)) rfl hr0 (by omega)) (by decide) rfl rfl rfl (by decide) rfl rfl (Nat.le_of_ble_eq_true rfl) (fun _ q => ?_)
    obtain rfl := q.symm
    refine R_goto rfl rfl ?_
    exact T_ireturn rfl rfl (am_oki (by rw [hC.2.2 j i hj hi]) rfl)
set_option maxRecDepth 100000 in
set_option maxHeartbeats 4000000 in
theorem sp_isRow {σ : am_G} {h w : Nat} {f : am_Gr} {x : Int32} (hv : mV σ h w f) : am_Call am_TX 2 0 c_M_isRow [.ref 120, .int x] (mm σ) (am_Ok (some (.int (zP (0 ≤ x ∧ x < nI h)))) (fun σ1 => σ1 = σ)) := by
  have hh1 := hv.1.1.1
  have hh6 := hv.1.1.2
  have hw1 := hv.1.2.1
  have hw6 := hv.1.2.2
  refine ⟨mf_M_isRow, Nat.le_of_ble_eq_true rfl, ?_⟩
  refine R_iload_n rfl rfl ?_
  refine R_i2l rfl ?_
  refine R_lconst (v := 0) rfl rfl ?_
  refine R_aload_n rfl rfl ?_
  refine R_cV (as := []) rfl rfl iv_M_rows (sp_rows hv) (by decide) rfl rfl rfl (by decide) rfl rfl (Nat.le_of_ble_eq_true rfl) (fun _ q => ?_)
  obtain rfl := q.symm
  refine R_iconst (v := 1) rfl rfl ?_
  refine R_isubN (x := h) (y := 1) rfl (by omega) ?_
  refine R_i2l rfl ?_
  refine R_cS (as := [.long x.toInt64, .long 0, .long ((nI (h - 1)).toInt64)]) rfl rfl iv_M_in (sp_in) (by decide) rfl rfl rfl rfl (Nat.le_of_ble_eq_true rfl) (fun _ q => ?_)
  obtain rfl := q.symm
  exact T_zreturn rfl rfl nr_zP (am_oki (zP_c (in_iff (by omega) (by omega))) rfl)
set_option maxRecDepth 100000 in
set_option maxHeartbeats 4000000 in
theorem sp_isColumn {σ : am_G} {h w : Nat} {f : am_Gr} {x : Int32} (hv : mV σ h w f) : am_Call am_TX 2 0 c_M_isColumn [.ref 120, .int x] (mm σ) (am_Ok (some (.int (zP (0 ≤ x ∧ x < nI w)))) (fun σ1 => σ1 = σ)) := by
  have hh1 := hv.1.1.1
  have hh6 := hv.1.1.2
  have hw1 := hv.1.2.1
  have hw6 := hv.1.2.2
  refine ⟨mf_M_isColumn, Nat.le_of_ble_eq_true rfl, ?_⟩
  refine R_iload_n rfl rfl ?_
  refine R_i2l rfl ?_
  refine R_lconst (v := 0) rfl rfl ?_
  refine R_aload_n rfl rfl ?_
  refine R_cV (as := []) rfl rfl iv_M_columns (sp_columns hv) (by decide) rfl rfl rfl (by decide) rfl rfl (Nat.le_of_ble_eq_true rfl) (fun _ q => ?_)
  obtain rfl := q.symm
  refine R_iconst (v := 1) rfl rfl ?_
  refine R_isubN (x := w) (y := 1) rfl (by omega) ?_
  refine R_i2l rfl ?_
  refine R_cS (as := [.long x.toInt64, .long 0, .long ((nI (w - 1)).toInt64)]) rfl rfl iv_M_in (sp_in) (by decide) rfl rfl rfl rfl (Nat.le_of_ble_eq_true rfl) (fun _ q => ?_)
  obtain rfl := q.symm
  exact T_zreturn rfl rfl nr_zP (am_oki (zP_c (in_iff (by omega) (by omega))) rfl)
set_option maxRecDepth 100000 in
set_option maxHeartbeats 4000000 in
theorem sp_mallRows {σ : am_G} {h w : Nat} {f : am_Gr} (hv : mV σ h w f) : am_Call am_TX 2 0 c_M_allRows [.ref 120] (mm σ) (am_Ok (some (.int (nI (2 ^ h - 1)))) (fun σ1 => σ1 = σ)) := by
  have hh1 := hv.1.1.1
  have hh6 := hv.1.1.2
  have hw1 := hv.1.2.1
  have hw6 := hv.1.2.2
  refine ⟨mf_M_allRows, Nat.le_of_ble_eq_true rfl, ?_⟩
  refine R_iconst (v := 1) rfl rfl ?_
  refine R_aload_n rfl rfl ?_
  refine R_cV (as := []) rfl rfl iv_M_rows (sp_rows hv) (by decide) rfl rfl rfl (by decide) rfl rfl (Nat.le_of_ble_eq_true rfl) (fun _ q => ?_)
  obtain rfl := q.symm
  refine R_shl1N (y := h) rfl (by omega) ?_
  refine R_iconst (v := 1) rfl rfl ?_
  refine R_isubN (x := (2 ^ h)) (y := 1) rfl (Nat.pos_of_ne_zero (by simp)) ?_
  exact T_ireturn rfl rfl (am_oki rfl rfl)
set_option maxRecDepth 100000 in
set_option maxHeartbeats 4000000 in
theorem sp_mallColumns {σ : am_G} {h w : Nat} {f : am_Gr} (hv : mV σ h w f) : am_Call am_TX 2 0 c_M_allColumns [.ref 120] (mm σ) (am_Ok (some (.int (nI (2 ^ w - 1)))) (fun σ1 => σ1 = σ)) := by
  have hh1 := hv.1.1.1
  have hh6 := hv.1.1.2
  have hw1 := hv.1.2.1
  have hw6 := hv.1.2.2
  refine ⟨mf_M_allColumns, Nat.le_of_ble_eq_true rfl, ?_⟩
  refine R_iconst (v := 1) rfl rfl ?_
  refine R_aload_n rfl rfl ?_
  refine R_cV (as := []) rfl rfl iv_M_columns (sp_columns hv) (by decide) rfl rfl rfl (by decide) rfl rfl (Nat.le_of_ble_eq_true rfl) (fun _ q => ?_)
  obtain rfl := q.symm
  refine R_shl1N (y := w) rfl (by omega) ?_
  refine R_iconst (v := 1) rfl rfl ?_
  refine R_isubN (x := (2 ^ w)) (y := 1) rfl (Nat.pos_of_ne_zero (by simp)) ?_
  exact T_ireturn rfl rfl (am_oki rfl rfl)
set_option maxRecDepth 100000 in
set_option maxHeartbeats 4000000 in
theorem sp_areRows {σ : am_G} {h w : Nat} {f : am_Gr} {x : Int32} (hv : mV σ h w f) : am_Call am_TX 3 0 c_M_areRows [.ref 120, .int x] (mm σ) (am_Ok (some (.int (zP (x &&& (nI (2 ^ h - 1) ^^^ (-1)) = 0)))) (fun σ1 => σ1 = σ)) := by
  have hh1 := hv.1.1.1
  have hh6 := hv.1.1.2
  have hw1 := hv.1.2.1
  have hw6 := hv.1.2.2
  refine ⟨mf_M_areRows, Nat.le_of_ble_eq_true rfl, ?_⟩
  refine R_iload_n rfl rfl ?_
  refine R_aload_n rfl rfl ?_
  refine R_cV (as := []) rfl rfl iv_M_allRows (sp_mallRows hv) (by decide) rfl rfl rfl (by decide) rfl rfl (Nat.le_of_ble_eq_true rfl) (fun _ q => ?_)
  obtain rfl := q.symm
  refine R_iconst (v := -1) rfl rfl ?_
  refine R_ixor rfl ?_
  refine R_iand rfl ?_
  refine R_if_ne rfl rfl (fun h1 => ?_) (fun h1 => ?_)
  · refine R_iconst (v := 0) rfl rfl ?_
    exact T_zreturn rfl rfl rfl (am_oki ((zP_f (h1)).symm) rfl)
  · refine R_iconst (v := 1) rfl rfl ?_
    refine R_goto rfl rfl ?_
    exact T_zreturn rfl rfl rfl (am_oki ((zP_t (h1)).symm) rfl)
set_option maxRecDepth 100000 in
set_option maxHeartbeats 4000000 in
theorem sp_areColumns {σ : am_G} {h w : Nat} {f : am_Gr} {x : Int32} (hv : mV σ h w f) : am_Call am_TX 3 0 c_M_areColumns [.ref 120, .int x] (mm σ) (am_Ok (some (.int (zP (x &&& (nI (2 ^ w - 1) ^^^ (-1)) = 0)))) (fun σ1 => σ1 = σ)) := by
  have hh1 := hv.1.1.1
  have hh6 := hv.1.1.2
  have hw1 := hv.1.2.1
  have hw6 := hv.1.2.2
  refine ⟨mf_M_areColumns, Nat.le_of_ble_eq_true rfl, ?_⟩
  refine R_iload_n rfl rfl ?_
  refine R_aload_n rfl rfl ?_
  refine R_cV (as := []) rfl rfl iv_M_allColumns (sp_mallColumns hv) (by decide) rfl rfl rfl (by decide) rfl rfl (Nat.le_of_ble_eq_true rfl) (fun _ q => ?_)
  obtain rfl := q.symm
  refine R_iconst (v := -1) rfl rfl ?_
  refine R_ixor rfl ?_
  refine R_iand rfl ?_
  refine R_if_ne rfl rfl (fun h1 => ?_) (fun h1 => ?_)
  · refine R_iconst (v := 0) rfl rfl ?_
    exact T_zreturn rfl rfl rfl (am_oki ((zP_f (h1)).symm) rfl)
  · refine R_iconst (v := 1) rfl rfl ?_
    refine R_goto rfl rfl ?_
    exact T_zreturn rfl rfl rfl (am_oki ((zP_t (h1)).symm) rfl)
