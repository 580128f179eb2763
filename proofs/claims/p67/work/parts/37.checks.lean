theorem i_nlt {x y : Int32} (h : ¬ x < y) : y ≤ x := by
  rw [Int32.lt_iff_toInt_lt] at h
  rw [Int32.le_iff_toInt_le]; omega
theorem i_lt_f {x y : Int32} (h : x < y) (k : y ≤ x) : False := by
  rw [Int32.lt_iff_toInt_lt] at h
  rw [Int32.le_iff_toInt_le] at k; omega
set_option maxRecDepth 100000 in
set_option maxHeartbeats 4000000 in
theorem sp_requireRow {σ : am_G} {h w rh pn : Nat} {f v rl : am_Gr} {I : Nat → Int32} {r : Nat} (hv : vS σ 26 h w f v rh rl pn I) (hr : r < h) : am_Call am_TX 0 0 c_D_requireRow [.ref 0, .int (nI r)] (mm σ) (am_Ok none (fun σ1 => σ1 = σ)) := by
  have hh6 := hv.1.1.2
  have hw6 := hv.1.2.1.2
  have hr6 := hv.2.2.1.1.2
  have hp6 := hv.2.2.2.1.2
  refine ⟨mf_D_requireRow, Nat.le_of_ble_eq_true rfl, ?_⟩
  refine R_iload_n rfl rfl ?_
  refine R_nif_lt (x := r) rfl rfl (by omega) (fun z => by omega) (fun h1 => ?_)
  refine R_iload_n rfl rfl ?_
  refine R_aload_n rfl rfl ?_
  refine R_gP (x := 26) rfl rfl fp_10_6 rfl ?_
  refine R_gP (x := 27) rfl rfl fp_9_0 rfl ?_
  refine R_gIN (n := h) rfl rfl fd_4_0 hv.1.1.1 ?_
  refine R_nicmp_lt (x := r) (y := h) rfl rfl (by omega) (by omega) (fun h2 => ?_) (fun z => by omega)
  exact T_return rfl rfl (am_okv0 rfl)
set_option maxRecDepth 100000 in
set_option maxHeartbeats 4000000 in
theorem sp_requireColumn {σ : am_G} {h w rh pn : Nat} {f v rl : am_Gr} {I : Nat → Int32} {r : Nat} (hv : vS σ 26 h w f v rh rl pn I) (hr : r < w) : am_Call am_TX 0 0 c_D_requireColumn [.ref 0, .int (nI r)] (mm σ) (am_Ok none (fun σ1 => σ1 = σ)) := by
  have hh6 := hv.1.1.2
  have hw6 := hv.1.2.1.2
  have hr6 := hv.2.2.1.1.2
  have hp6 := hv.2.2.2.1.2
  refine ⟨mf_D_requireColumn, Nat.le_of_ble_eq_true rfl, ?_⟩
  refine R_iload_n rfl rfl ?_
  refine R_nif_lt (x := r) rfl rfl (by omega) (fun z => by omega) (fun h1 => ?_)
  refine R_iload_n rfl rfl ?_
  refine R_aload_n rfl rfl ?_
  refine R_gP (x := 26) rfl rfl fp_10_6 rfl ?_
  refine R_gP (x := 27) rfl rfl fp_9_0 rfl ?_
  refine R_gIN (n := w) rfl rfl fd_4_1 hv.1.2.1.1 ?_
  refine R_nicmp_lt (x := r) (y := w) rfl rfl (by omega) (by omega) (fun h2 => ?_) (fun z => by omega)
  exact T_return rfl rfl (am_okv0 rfl)
set_option maxRecDepth 100000 in
set_option maxHeartbeats 4000000 in
theorem sp_requirePlace {σ : am_G} {h w rh pn : Nat} {f v rl : am_Gr} {I : Nat → Int32} {r : Nat} (hv : vS σ 26 h w f v rh rl pn I) (hr : r < pn) : am_Call am_TX 0 0 c_D_requirePlace [.ref 0, .int (nI r)] (mm σ) (am_Ok none (fun σ1 => σ1 = σ)) := by
  have hh6 := hv.1.1.2
  have hw6 := hv.1.2.1.2
  have hr6 := hv.2.2.1.1.2
  have hp6 := hv.2.2.2.1.2
  refine ⟨mf_D_requirePlace, Nat.le_of_ble_eq_true rfl, ?_⟩
  refine R_iload_n rfl rfl ?_
  refine R_nif_lt (x := r) rfl rfl (by omega) (fun z => by omega) (fun h1 => ?_)
  refine R_iload_n rfl rfl ?_
  refine R_aload_n rfl rfl ?_
  refine R_gP (x := 26) rfl rfl fp_10_6 rfl ?_
  refine R_gIN (n := pn) rfl rfl fd_9_3 hv.2.2.2.1.1 ?_
  refine R_nicmp_lt (x := r) (y := pn) rfl rfl (by omega) (by omega) (fun h2 => ?_) (fun z => by omega)
  exact T_return rfl rfl (am_okv0 rfl)
set_option maxRecDepth 100000 in
set_option maxHeartbeats 4000000 in
theorem sp_requireRange {σ : am_G} {x lo hi : Int32} (hr : lo ≤ x ∧ x ≤ hi) : am_Call am_TX 0 0 c_D_requireRange [.ref 0, .int x, .int lo, .int hi] (mm σ) (am_Ok none (fun σ1 => σ1 = σ)) := by
  refine ⟨mf_D_requireRange, Nat.le_of_ble_eq_true rfl, ?_⟩
  refine R_iload_n rfl rfl ?_
  refine R_iload_n rfl rfl ?_
  refine R_icmp_lt rfl rfl (fun z => (i_lt_f z hr.1).elim) (fun h1 => ?_)
  refine R_iload_n rfl rfl ?_
  refine R_iload_n rfl rfl ?_
  refine R_icmp_le rfl rfl (fun h2 => ?_) (fun z => absurd hr.2 z)
  exact T_return rfl rfl (am_okv0 rfl)
set_option maxRecDepth 100000 in
set_option maxHeartbeats 4000000 in
theorem sp_requirePrimeModulus {σ : am_G} {m : Nat} (hp : m ∈ prL) : am_Call am_TX 1 0 c_D_requirePrimeModulus [.ref 0, .int (nI m)] (mm σ) (am_Ok none (fun σ1 => σ1 = σ)) := by
  have hb := prL_le m hp
  refine ⟨mf_D_requirePrimeModulus, Nat.le_of_ble_eq_true rfl, ?_⟩
  refine R_iload_n rfl rfl ?_
  refine R_iconst (v := 2) rfl rfl ?_
  refine R_nicmp_lt (x := m) (y := 2) rfl rfl (by omega) (by omega) (fun z => by omega) (fun h1 => ?_)
  refine R_iload_n rfl rfl ?_
  refine R_bipush (v := 97) rfl (by decide) ?_
  refine R_nicmp_gt (x := m) (y := 97) rfl rfl (by omega) (by omega) (fun z => by omega) (fun h2 => ?_)
  refine R_iload_n rfl rfl ?_
  refine R_cS (as := [.int (nI m)]) rfl rfl iv_D_isPrime (sp_prime (n := m) (by omega) (by omega)) (by decide) rfl rfl rfl rfl (Nat.le_of_ble_eq_true rfl) (fun _ q => ?_)
  obtain rfl := q.symm
  refine R_if_ne rfl rfl (fun h3 => ?_) (fun z => absurd hp (zP_0 z))
  exact T_return rfl rfl (am_okv0 rfl)
theorem md_pr {m : Nat} (h : m ∈ mdL) (h0 : ¬ m = 0) : m ∈ prL := (List.mem_cons.mp h).resolve_left h0
theorem md_97 {m : Nat} (h : m ∈ mdL) : m ≤ 97 := (md_dom h).2
set_option maxRecDepth 100000 in
set_option maxHeartbeats 4000000 in
theorem sp_requireModulus {σ : am_G} {m : Nat} (hm : m ∈ mdL) : am_Call am_TX 2 0 c_D_requireModulus [.ref 0, .int (nI m)] (mm σ) (am_Ok none (fun σ1 => σ1 = σ)) := by
  have h97 := md_97 hm
  refine ⟨mf_D_requireModulus, Nat.le_of_ble_eq_true rfl, ?_⟩
  refine R_iload_n rfl rfl ?_
  refine R_nif_eq (x := m) rfl rfl (by omega) (fun h1 => ?_) (fun h1 => ?_)
  · exact T_return rfl rfl (am_okv0 rfl)
  · refine R_aload_n rfl rfl ?_
    refine R_iload_n rfl rfl ?_
    refine R_cV (as := [.int (nI m)]) rfl rfl iv_D_requirePrimeModulus (sp_requirePrimeModulus (m := m) (md_pr hm h1)) (by decide) rfl rfl rfl (by decide) rfl rfl (Nat.le_of_ble_eq_true rfl) (fun _ q => ?_)
    obtain rfl := q.symm
    exact T_return rfl rfl (am_okv0 rfl)
theorem msk_raw : ∀ h : Nat, h < 7 → ∀ s : Nat, s < 64 → (s < 2 ^ h → nI s &&& (nI (2 ^ h - 1) ^^^ (-1)) = 0) := by decide +kernel
theorem msk_ok {h s : Nat} (hh : h ≤ 6) (hs : s < 2 ^ h) : nI s &&& (nI (2 ^ h - 1) ^^^ (-1)) = 0 := msk_raw h (by omega) s (p2_64 hs hh) hs
set_option maxRecDepth 100000 in
set_option maxHeartbeats 4000000 in
theorem sp_requireRowSet {σ : am_G} {h w rh pn : Nat} {f v rl : am_Gr} {I : Nat → Int32} {x : Int32} (hv : vS σ 26 h w f v rh rl pn I) (hs : x &&& (nI (2 ^ h - 1) ^^^ (-1)) = 0) : am_Call am_TX 2 0 c_D_requireRowSet [.ref 0, .int x] (mm σ) (am_Ok none (fun σ1 => σ1 = σ)) := by
  have hh6 := hv.1.1.2
  have hw6 := hv.1.2.1.2
  have hr6 := hv.2.2.1.1.2
  have hp6 := hv.2.2.2.1.2
  refine ⟨mf_D_requireRowSet, Nat.le_of_ble_eq_true rfl, ?_⟩
  refine R_iload_n rfl rfl ?_
  refine R_aload_n rfl rfl ?_
  refine R_gP (x := 26) rfl rfl fp_10_6 rfl ?_
  refine R_gP (x := 27) rfl rfl fp_9_0 rfl ?_
  refine R_cV (as := []) rfl rfl iv_Matrix_allRows (sp_Matrix_allRows ⟨rfl, rfl, rfl⟩ hv.1.1.1 hv.1.1.2) (by decide) rfl rfl rfl (by decide) rfl rfl (Nat.le_of_ble_eq_true rfl) (fun _ q => ?_)
  obtain rfl := q.symm
  refine R_iconst (v := -1) rfl rfl ?_
  refine R_ixor rfl ?_
  refine R_iand rfl ?_
  refine R_if_eq rfl rfl (fun h1 => ?_) (fun z => absurd hs z)
  exact T_return rfl rfl (am_okv0 rfl)
set_option maxRecDepth 100000 in
set_option maxHeartbeats 4000000 in
theorem sp_requireColumnSet {σ : am_G} {h w rh pn : Nat} {f v rl : am_Gr} {I : Nat → Int32} {x : Int32} (hv : vS σ 26 h w f v rh rl pn I) (hs : x &&& (nI (2 ^ w - 1) ^^^ (-1)) = 0) : am_Call am_TX 2 0 c_D_requireColumnSet [.ref 0, .int x] (mm σ) (am_Ok none (fun σ1 => σ1 = σ)) := by
  have hh6 := hv.1.1.2
  have hw6 := hv.1.2.1.2
  have hr6 := hv.2.2.1.1.2
  have hp6 := hv.2.2.2.1.2
  refine ⟨mf_D_requireColumnSet, Nat.le_of_ble_eq_true rfl, ?_⟩
  refine R_iload_n rfl rfl ?_
  refine R_aload_n rfl rfl ?_
  refine R_gP (x := 26) rfl rfl fp_10_6 rfl ?_
  refine R_gP (x := 27) rfl rfl fp_9_0 rfl ?_
  refine R_cV (as := []) rfl rfl iv_Matrix_allColumns (sp_Matrix_allColumns ⟨rfl, rfl, rfl⟩ hv.1.2.1.1 hv.1.2.1.2) (by decide) rfl rfl rfl (by decide) rfl rfl (Nat.le_of_ble_eq_true rfl) (fun _ q => ?_)
  obtain rfl := q.symm
  refine R_iconst (v := -1) rfl rfl ?_
  refine R_ixor rfl ?_
  refine R_iand rfl ?_
  refine R_if_eq rfl rfl (fun h1 => ?_) (fun z => absurd hs z)
  exact T_return rfl rfl (am_okv0 rfl)
set_option maxRecDepth 100000 in
set_option maxHeartbeats 4000000 in
theorem sp_requireCell {σ : am_G} {h w rh pn : Nat} {f v rl : am_Gr} {I : Nat → Int32} {i j : Nat} (hv : vS σ 26 h w f v rh rl pn I) (hi : i < h) (hj : j < w) : am_Call am_TX 1 0 c_D_requireCell [.ref 0, .int (nI i), .int (nI j)] (mm σ) (am_Ok none (fun σ1 => σ1 = σ)) := by
  refine ⟨mf_D_requireCell, Nat.le_of_ble_eq_true rfl, ?_⟩
  refine R_aload_n rfl rfl ?_
  refine R_iload_n rfl rfl ?_
  refine R_cV (as := [.int (nI i)]) rfl rfl iv_D_requireRow (sp_requireRow (r := i) hv (by omega)) (by decide) rfl rfl rfl (by decide) rfl rfl (Nat.le_of_ble_eq_true rfl) (fun _ q => ?_)
  obtain rfl := q.symm
  refine R_aload_n rfl rfl ?_
  refine R_iload_n rfl rfl ?_
  refine R_cV (as := [.int (nI j)]) rfl rfl iv_D_requireColumn (sp_requireColumn (r := j) hv (by omega)) (by decide) rfl rfl rfl (by decide) rfl rfl (Nat.le_of_ble_eq_true rfl) (fun _ q => ?_)
  obtain rfl := q.symm
  exact T_return rfl rfl (am_okv0 rfl)
set_option maxRecDepth 100000 in
set_option maxHeartbeats 4000000 in
theorem sp_requireSquare {σ : am_G} {h w rh pn : Nat} {f v rl : am_Gr} {I : Nat → Int32} {S T : Nat} (hv : vS σ 26 h w f v rh rl pn I) (hS : S < 2 ^ h) (hT : T < 2 ^ w) (hc : pc S = pc T) : am_Call am_TX 3 0 c_D_requireSquare [.ref 0, .int (nI S), .int (nI T)] (mm σ) (am_Ok none (fun σ1 => σ1 = σ)) := by
  have hh6 := hv.1.1.2
  have hw6 := hv.1.2.1.2
  have hr6 := hv.2.2.1.1.2
  have hp6 := hv.2.2.2.1.2
  have hS6 := p2_64 hS hh6
  have hT6 := p2_64 hT hw6
  have q1 := @pc_le S
  have q2 := @pc_le T
  refine ⟨mf_D_requireSquare, Nat.le_of_ble_eq_true rfl, ?_⟩
  refine R_aload_n rfl rfl ?_
  refine R_iload_n rfl rfl ?_
  refine R_cV (as := [.int (nI S)]) rfl rfl iv_D_requireRowSet (sp_requireRowSet hv (msk_ok hv.1.1.2 hS)) (by decide) rfl rfl rfl (by decide) rfl rfl (Nat.le_of_ble_eq_true rfl) (fun _ q => ?_)
  obtain rfl := q.symm
  refine R_aload_n rfl rfl ?_
  refine R_iload_n rfl rfl ?_
  refine R_cV (as := [.int (nI T)]) rfl rfl iv_D_requireColumnSet (sp_requireColumnSet hv (msk_ok hv.1.2.1.2 hT)) (by decide) rfl rfl rfl (by decide) rfl rfl (Nat.le_of_ble_eq_true rfl) (fun _ q => ?_)
  obtain rfl := q.symm
  refine R_iload_n rfl rfl ?_
  refine R_cS (as := [.int (nI S)]) rfl rfl iv_JInteger_bitCount (sp_bitCount (s := S) (by first | assumption | exact lw_lt (by omega) | exact wi_lt (by first | assumption | omega) (by omega) | exact wo_lt (by first | assumption | omega) (by omega) | omega)) (by decide) rfl rfl rfl rfl (Nat.le_of_ble_eq_true rfl) (fun _ q => ?_)
  obtain rfl := q.symm
  refine R_iload_n rfl rfl ?_
  refine R_cS (as := [.int (nI T)]) rfl rfl iv_JInteger_bitCount (sp_bitCount (s := T) (by first | assumption | exact lw_lt (by omega) | exact wi_lt (by first | assumption | omega) (by omega) | exact wo_lt (by first | assumption | omega) (by omega) | omega)) (by decide) rfl rfl rfl rfl (Nat.le_of_ble_eq_true rfl) (fun _ q => ?_)
  obtain rfl := q.symm
  refine R_nicmp_eq (x := (pc S)) (y := (pc T)) rfl rfl (by omega) (by omega) (fun h1 => ?_) (fun z => by omega)
  exact T_return rfl rfl (am_okv0 rfl)
