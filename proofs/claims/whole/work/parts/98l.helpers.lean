/-! ===== the law's helpers ===== -/
theorem tk_132 : Sh[132]? = some (2, 1) := by decide +kernel
theorem tk_0 : Sh[0]? = some (0, 10) := by decide +kernel
def gB (b : Int32) : Int64 := if b = 0 then 0 else 1
theorem lk_13 : Cond.classLink "RankDeskLaw" 13 "java/lang/IllegalStateException" ∈ am_W := am_Wmem (List.mem_of_getElem? (i := 875) (by decide +kernel)) rfl
theorem ck_13 : Cond.castable "java/lang/IllegalStateException" "java/lang/IllegalStateException" ∈ am_N := am_Nmem (List.mem_of_getElem? (i := 886) (by decide +kernel)) rfl
theorem lk_19 : Cond.classLink "RankDeskLaw" 19 "java/lang/IllegalArgumentException" ∈ am_W := am_Wmem (List.mem_of_getElem? (i := 959) (by decide +kernel)) rfl
theorem ck_19 : Cond.castable "java/lang/IllegalArgumentException" "java/lang/IllegalArgumentException" ∈ am_N := am_Nmem (List.mem_of_getElem? (i := 970) (by decide +kernel)) rfl
theorem lk_28 : Cond.classLink "RankDeskLaw" 28 "java/lang/IndexOutOfBoundsException" ∈ am_W := am_Wmem (List.mem_of_getElem? (i := 998) (by decide +kernel)) rfl
theorem ck_28 : Cond.castable "java/lang/IndexOutOfBoundsException" "java/lang/IndexOutOfBoundsException" ∈ am_N := am_Nmem (List.mem_of_getElem? (i := 1009) (by decide +kernel)) rfl
theorem lk_64 : Cond.classLink "RankDeskLaw" 64 "java/util/NoSuchElementException" ∈ am_W := am_Wmem (List.mem_of_getElem? (i := 1143) (by decide +kernel)) rfl
theorem ck_64 : Cond.castable "java/util/NoSuchElementException" "java/util/NoSuchElementException" ∈ am_N := am_Nmem (List.mem_of_getElem? (i := 1154) (by decide +kernel)) rfl
theorem lok_append {σ : am_G} {a1 a2 a3 a4 a5 : Int32} {b : Int32} {P : am_G → Prop} (hD : am_Call am_TX 8 0 c_D_append [.ref 0, .int a1, .int a2, .int a3, .int a4, .int a5] (mm σ) (am_Ok (some (.int b)) P)) : am_Call am_TX 9 0 c_L_append [.ref 0, .int a1, .int a2, .int a3, .int a4, .int a5, .ref 132] (mm σ) (am_Ok (some (.int 0)) (fun σ2 => ∃ σ1, P σ1 ∧ σ2 = sL σ1 132 0 (b.toInt64))) := by
  refine ⟨mf_L_append, Nat.le_of_ble_eq_true rfl, ?_⟩
  show am_R _ _ _ _ 0 [some (.ref 0), some (.int a1), some (.int a2), some (.int a3), some (.int a4), some (.int a5), some (.ref 132), none] [] _ _
  refine R_aload rfl rfl ?_
  refine R_iconst (v := 0) rfl rfl ?_
  refine R_aload_n rfl rfl ?_
  refine R_iload_n rfl rfl ?_
  refine R_iload_n rfl rfl ?_
  refine R_iload_n rfl rfl ?_
  refine R_iload rfl rfl ?_
  refine R_iload rfl rfl ?_
  refine R_cV (as := [.int a1, .int a2, .int a3, .int a4, .int a5]) rfl rfl iv_D_append hD (by decide) rfl rfl tk_0 (by decide) rfl rfl (Nat.le_of_ble_eq_true rfl) (fun σ1 q => ?_)
  refine R_i2l rfl ?_
  refine R_wL (j := 0) rfl tk_132 rfl (by decide) (by decide) ?_
  refine R_goto rfl rfl ?_
  refine R_iconst (v := 0) rfl rfl ?_
  exact T_ireturn rfl rfl ⟨_, rfl, σ1, q, rfl⟩
theorem lth_append_1 {σ : am_G} {a1 a2 a3 a4 a5 : Int32} {P : am_G → Prop} (hD : am_Call am_TX 8 1 c_D_append [.ref 0, .int a1, .int a2, .int a3, .int a4, .int a5] (mm σ) (am_ThP "java/lang/IllegalStateException" P)) : am_Call am_TX 9 1 c_L_append [.ref 0, .int a1, .int a2, .int a3, .int a4, .int a5, .ref 132] (mm σ) (am_Ok (some (.int 1)) P) := by
  refine ⟨mf_L_append, Nat.le_of_ble_eq_true rfl, ?_⟩
  show am_R _ _ _ _ 0 [some (.ref 0), some (.int a1), some (.int a2), some (.int a3), some (.int a4), some (.int a5), some (.ref 132), none] [] _ _
  refine R_aload rfl rfl ?_
  refine R_iconst (v := 0) rfl rfl ?_
  refine R_aload_n rfl rfl ?_
  refine R_iload_n rfl rfl ?_
  refine R_iload_n rfl rfl ?_
  refine R_iload_n rfl rfl ?_
  refine R_iload rfl rfl ?_
  refine R_iload rfl rfl ?_
  refine R_cVxP (k := 0) (as := [.int a1, .int a2, .int a3, .int a4, .int a5]) rfl rfl iv_D_append hD (by decide) rfl rfl tk_0 (by decide) rfl rfl (Nat.le_of_ble_eq_true rfl) (fun σ1 q => ?_)
  refine Rx_catch (i := 7) (hh := [(0, 16, 19, 13)]) rfl [] [] ⟨0, 16, 19, 13⟩ rfl (fun z hz => by cases hz) (by decide) (by decide) lk_13 ck_13 (Or.inl ⟨rfl, rfl⟩) (by decide) ?_
  refine R_iconst (v := 1) rfl rfl ?_
  exact T_ireturn rfl rfl ⟨σ1, rfl, q⟩
theorem lok_truncate {σ : am_G} {a1 : Int32} {P : am_G → Prop} (hD : am_Call am_TX 8 0 c_D_truncate [.ref 0, .int a1] (mm σ) (am_Ok none P)) : am_Call am_TX 9 0 c_L_truncate [.ref 0, .int a1] (mm σ) (am_Ok (some (.int 0)) P) := by
  refine ⟨mf_L_truncate, Nat.le_of_ble_eq_true rfl, ?_⟩
  show am_R _ _ _ _ 0 [some (.ref 0), some (.int a1), none] [] _ _
  refine R_aload_n rfl rfl ?_
  refine R_iload_n rfl rfl ?_
  refine R_cV (as := [.int a1]) rfl rfl iv_D_truncate hD (by decide) rfl rfl tk_0 (by decide) rfl rfl (Nat.le_of_ble_eq_true rfl) (fun σ1 q => ?_)
  refine R_goto rfl rfl ?_
  refine R_iconst (v := 0) rfl rfl ?_
  exact T_ireturn rfl rfl ⟨σ1, rfl, q⟩
theorem lth_truncate_1 {σ : am_G} {a1 : Int32} {P : am_G → Prop} (hD : am_Call am_TX 8 1 c_D_truncate [.ref 0, .int a1] (mm σ) (am_ThP "java/lang/IllegalArgumentException" P)) : am_Call am_TX 9 1 c_L_truncate [.ref 0, .int a1] (mm σ) (am_Ok (some (.int 1)) P) := by
  refine ⟨mf_L_truncate, Nat.le_of_ble_eq_true rfl, ?_⟩
  show am_R _ _ _ _ 0 [some (.ref 0), some (.int a1), none] [] _ _
  refine R_aload_n rfl rfl ?_
  refine R_iload_n rfl rfl ?_
  refine R_cVxP (k := 0) (as := [.int a1]) rfl rfl iv_D_truncate hD (by decide) rfl rfl tk_0 (by decide) rfl rfl (Nat.le_of_ble_eq_true rfl) (fun σ1 q => ?_)
  refine Rx_catch (i := 2) (hh := [(0, 5, 8, 19)]) rfl [] [] ⟨0, 5, 8, 19⟩ rfl (fun z hz => by cases hz) (by decide) (by decide) lk_19 ck_19 (Or.inr ⟨⟨2, rfl, rfl⟩, rfl⟩) (by decide) ?_
  refine R_iconst (v := 1) rfl rfl ?_
  exact T_ireturn rfl rfl ⟨σ1, rfl, q⟩
theorem lok_count {σ : am_G} {a1 : Int32} {b : Int32} {P : am_G → Prop} (hD : am_Call am_TX 8 0 c_D_count [.ref 0, .int a1] (mm σ) (am_Ok (some (.int b)) P)) : am_Call am_TX 9 0 c_L_count [.ref 0, .int a1, .ref 132] (mm σ) (am_Ok (some (.int 0)) (fun σ2 => ∃ σ1, P σ1 ∧ σ2 = sL σ1 132 0 (b.toInt64))) := by
  refine ⟨mf_L_count, Nat.le_of_ble_eq_true rfl, ?_⟩
  show am_R _ _ _ _ 0 [some (.ref 0), some (.int a1), some (.ref 132), none] [] _ _
  refine R_aload_n rfl rfl ?_
  refine R_iconst (v := 0) rfl rfl ?_
  refine R_aload_n rfl rfl ?_
  refine R_iload_n rfl rfl ?_
  refine R_cV (as := [.int a1]) rfl rfl iv_D_count hD (by decide) rfl rfl tk_0 (by decide) rfl rfl (Nat.le_of_ble_eq_true rfl) (fun σ1 q => ?_)
  refine R_i2l rfl ?_
  refine R_wL (j := 0) rfl tk_132 rfl (by decide) (by decide) ?_
  refine R_goto rfl rfl ?_
  refine R_iconst (v := 0) rfl rfl ?_
  exact T_ireturn rfl rfl ⟨_, rfl, σ1, q, rfl⟩
theorem lth_count_1 {σ : am_G} {a1 : Int32} {P : am_G → Prop} (hD : am_Call am_TX 8 1 c_D_count [.ref 0, .int a1] (mm σ) (am_ThP "java/lang/IllegalArgumentException" P)) : am_Call am_TX 9 1 c_L_count [.ref 0, .int a1, .ref 132] (mm σ) (am_Ok (some (.int 1)) P) := by
  refine ⟨mf_L_count, Nat.le_of_ble_eq_true rfl, ?_⟩
  show am_R _ _ _ _ 0 [some (.ref 0), some (.int a1), some (.ref 132), none] [] _ _
  refine R_aload_n rfl rfl ?_
  refine R_iconst (v := 0) rfl rfl ?_
  refine R_aload_n rfl rfl ?_
  refine R_iload_n rfl rfl ?_
  refine R_cVxP (k := 0) (as := [.int a1]) rfl rfl iv_D_count hD (by decide) rfl rfl tk_0 (by decide) rfl rfl (Nat.le_of_ble_eq_true rfl) (fun σ1 q => ?_)
  refine Rx_catch (i := 3) (hh := [(0, 9, 12, 19)]) rfl [] [] ⟨0, 9, 12, 19⟩ rfl (fun z hz => by cases hz) (by decide) (by decide) lk_19 ck_19 (Or.inr ⟨⟨3, rfl, rfl⟩, rfl⟩) (by decide) ?_
  refine R_iconst (v := 1) rfl rfl ?_
  exact T_ireturn rfl rfl ⟨σ1, rfl, q⟩
theorem lok_prime {σ : am_G} {a1 : Int32} {b : Int32} {P : am_G → Prop} (hD : am_Call am_TX 8 0 c_D_prime [.ref 0, .int a1] (mm σ) (am_Ok (some (.int b)) P)) : am_Call am_TX 9 0 c_L_prime [.ref 0, .int a1, .ref 132] (mm σ) (am_Ok (some (.int 0)) (fun σ2 => ∃ σ1, P σ1 ∧ σ2 = sL σ1 132 0 (b.toInt64))) := by
  refine ⟨mf_L_prime, Nat.le_of_ble_eq_true rfl, ?_⟩
  show am_R _ _ _ _ 0 [some (.ref 0), some (.int a1), some (.ref 132), none] [] _ _
  refine R_aload_n rfl rfl ?_
  refine R_iconst (v := 0) rfl rfl ?_
  refine R_aload_n rfl rfl ?_
  refine R_iload_n rfl rfl ?_
  refine R_cV (as := [.int a1]) rfl rfl iv_D_prime hD (by decide) rfl rfl tk_0 (by decide) rfl rfl (Nat.le_of_ble_eq_true rfl) (fun σ1 q => ?_)
  refine R_i2l rfl ?_
  refine R_wL (j := 0) rfl tk_132 rfl (by decide) (by decide) ?_
  refine R_goto rfl rfl ?_
  refine R_iconst (v := 0) rfl rfl ?_
  exact T_ireturn rfl rfl ⟨_, rfl, σ1, q, rfl⟩
theorem lth_prime_1 {σ : am_G} {a1 : Int32} {P : am_G → Prop} (hD : am_Call am_TX 8 1 c_D_prime [.ref 0, .int a1] (mm σ) (am_ThP "java/lang/IndexOutOfBoundsException" P)) : am_Call am_TX 9 1 c_L_prime [.ref 0, .int a1, .ref 132] (mm σ) (am_Ok (some (.int 1)) P) := by
  refine ⟨mf_L_prime, Nat.le_of_ble_eq_true rfl, ?_⟩
  show am_R _ _ _ _ 0 [some (.ref 0), some (.int a1), some (.ref 132), none] [] _ _
  refine R_aload_n rfl rfl ?_
  refine R_iconst (v := 0) rfl rfl ?_
  refine R_aload_n rfl rfl ?_
  refine R_iload_n rfl rfl ?_
  refine R_cVxP (k := 0) (as := [.int a1]) rfl rfl iv_D_prime hD (by decide) rfl rfl tk_0 (by decide) rfl rfl (Nat.le_of_ble_eq_true rfl) (fun σ1 q => ?_)
  refine Rx_catch (i := 3) (hh := [(0, 9, 12, 28)]) rfl [] [] ⟨0, 9, 12, 28⟩ rfl (fun z hz => by cases hz) (by decide) (by decide) lk_28 ck_28 (Or.inr ⟨⟨3, rfl, rfl⟩, rfl⟩) (by decide) ?_
  refine R_iconst (v := 1) rfl rfl ?_
  exact T_ireturn rfl rfl ⟨σ1, rfl, q⟩
theorem lok_entry {σ : am_G} {a1 a2 : Int32} {b : Int32} {P : am_G → Prop} (hD : am_Call am_TX 8 0 c_D_entry [.ref 0, .int a1, .int a2] (mm σ) (am_Ok (some (.int b)) P)) : am_Call am_TX 9 0 c_L_entry [.ref 0, .int a1, .int a2, .ref 132] (mm σ) (am_Ok (some (.int 0)) (fun σ2 => ∃ σ1, P σ1 ∧ σ2 = sL σ1 132 0 (b.toInt64))) := by
  refine ⟨mf_L_entry, Nat.le_of_ble_eq_true rfl, ?_⟩
  show am_R _ _ _ _ 0 [some (.ref 0), some (.int a1), some (.int a2), some (.ref 132), none] [] _ _
  refine R_aload_n rfl rfl ?_
  refine R_iconst (v := 0) rfl rfl ?_
  refine R_aload_n rfl rfl ?_
  refine R_iload_n rfl rfl ?_
  refine R_iload_n rfl rfl ?_
  refine R_cV (as := [.int a1, .int a2]) rfl rfl iv_D_entry hD (by decide) rfl rfl tk_0 (by decide) rfl rfl (Nat.le_of_ble_eq_true rfl) (fun σ1 q => ?_)
  refine R_i2l rfl ?_
  refine R_wL (j := 0) rfl tk_132 rfl (by decide) (by decide) ?_
  refine R_goto rfl rfl ?_
  refine R_iconst (v := 0) rfl rfl ?_
  exact T_ireturn rfl rfl ⟨_, rfl, σ1, q, rfl⟩
theorem lth_entry_1 {σ : am_G} {a1 a2 : Int32} {P : am_G → Prop} (hD : am_Call am_TX 8 1 c_D_entry [.ref 0, .int a1, .int a2] (mm σ) (am_ThP "java/lang/IndexOutOfBoundsException" P)) : am_Call am_TX 9 1 c_L_entry [.ref 0, .int a1, .int a2, .ref 132] (mm σ) (am_Ok (some (.int 1)) P) := by
  refine ⟨mf_L_entry, Nat.le_of_ble_eq_true rfl, ?_⟩
  show am_R _ _ _ _ 0 [some (.ref 0), some (.int a1), some (.int a2), some (.ref 132), none] [] _ _
  refine R_aload_n rfl rfl ?_
  refine R_iconst (v := 0) rfl rfl ?_
  refine R_aload_n rfl rfl ?_
  refine R_iload_n rfl rfl ?_
  refine R_iload_n rfl rfl ?_
  refine R_cVxP (k := 0) (as := [.int a1, .int a2]) rfl rfl iv_D_entry hD (by decide) rfl rfl tk_0 (by decide) rfl rfl (Nat.le_of_ble_eq_true rfl) (fun σ1 q => ?_)
  refine Rx_catch (i := 4) (hh := [(0, 10, 13, 28)]) rfl [] [] ⟨0, 10, 13, 28⟩ rfl (fun z hz => by cases hz) (by decide) (by decide) lk_28 ck_28 (Or.inl ⟨rfl, rfl⟩) (by decide) ?_
  refine R_iconst (v := 1) rfl rfl ?_
  exact T_ireturn rfl rfl ⟨σ1, rfl, q⟩
theorem lok_rank {σ : am_G} {a1 : Int32} {b : Int32} {P : am_G → Prop} (hD : am_Call am_TX 8 0 c_D_rank [.ref 0, .int a1] (mm σ) (am_Ok (some (.int b)) P)) : am_Call am_TX 9 0 c_L_rank [.ref 0, .int a1, .ref 132] (mm σ) (am_Ok (some (.int 0)) (fun σ2 => ∃ σ1, P σ1 ∧ σ2 = sL σ1 132 0 (b.toInt64))) := by
  refine ⟨mf_L_rank, Nat.le_of_ble_eq_true rfl, ?_⟩
  show am_R _ _ _ _ 0 [some (.ref 0), some (.int a1), some (.ref 132), none] [] _ _
  refine R_aload_n rfl rfl ?_
  refine R_iconst (v := 0) rfl rfl ?_
  refine R_aload_n rfl rfl ?_
  refine R_iload_n rfl rfl ?_
  refine R_cV (as := [.int a1]) rfl rfl iv_D_rank hD (by decide) rfl rfl tk_0 (by decide) rfl rfl (Nat.le_of_ble_eq_true rfl) (fun σ1 q => ?_)
  refine R_i2l rfl ?_
  refine R_wL (j := 0) rfl tk_132 rfl (by decide) (by decide) ?_
  refine R_goto rfl rfl ?_
  refine R_iconst (v := 0) rfl rfl ?_
  exact T_ireturn rfl rfl ⟨_, rfl, σ1, q, rfl⟩
theorem lth_rank_1 {σ : am_G} {a1 : Int32} {P : am_G → Prop} (hD : am_Call am_TX 8 1 c_D_rank [.ref 0, .int a1] (mm σ) (am_ThP "java/lang/IllegalArgumentException" P)) : am_Call am_TX 9 1 c_L_rank [.ref 0, .int a1, .ref 132] (mm σ) (am_Ok (some (.int 1)) P) := by
  refine ⟨mf_L_rank, Nat.le_of_ble_eq_true rfl, ?_⟩
  show am_R _ _ _ _ 0 [some (.ref 0), some (.int a1), some (.ref 132), none] [] _ _
  refine R_aload_n rfl rfl ?_
  refine R_iconst (v := 0) rfl rfl ?_
  refine R_aload_n rfl rfl ?_
  refine R_iload_n rfl rfl ?_
  refine R_cVxP (k := 0) (as := [.int a1]) rfl rfl iv_D_rank hD (by decide) rfl rfl tk_0 (by decide) rfl rfl (Nat.le_of_ble_eq_true rfl) (fun σ1 q => ?_)
  refine Rx_catch (i := 3) (hh := [(0, 9, 12, 19)]) rfl [] [] ⟨0, 9, 12, 19⟩ rfl (fun z hz => by cases hz) (by decide) (by decide) lk_19 ck_19 (Or.inr ⟨⟨3, rfl, rfl⟩, rfl⟩) (by decide) ?_
  refine R_iconst (v := 1) rfl rfl ?_
  exact T_ireturn rfl rfl ⟨σ1, rfl, q⟩
theorem lok_rankOf {σ : am_G} {a1 a2 a3 : Int32} {b : Int32} {P : am_G → Prop} (hD : am_Call am_TX 8 0 c_D_rankOf [.ref 0, .int a1, .int a2, .int a3] (mm σ) (am_Ok (some (.int b)) P)) : am_Call am_TX 9 0 c_L_rankOf [.ref 0, .int a1, .int a2, .int a3, .ref 132] (mm σ) (am_Ok (some (.int 0)) (fun σ2 => ∃ σ1, P σ1 ∧ σ2 = sL σ1 132 0 (b.toInt64))) := by
  refine ⟨mf_L_rankOf, Nat.le_of_ble_eq_true rfl, ?_⟩
  show am_R _ _ _ _ 0 [some (.ref 0), some (.int a1), some (.int a2), some (.int a3), some (.ref 132), none] [] _ _
  refine R_aload rfl rfl ?_
  refine R_iconst (v := 0) rfl rfl ?_
  refine R_aload_n rfl rfl ?_
  refine R_iload_n rfl rfl ?_
  refine R_iload_n rfl rfl ?_
  refine R_iload_n rfl rfl ?_
  refine R_cV (as := [.int a1, .int a2, .int a3]) rfl rfl iv_D_rankOf hD (by decide) rfl rfl tk_0 (by decide) rfl rfl (Nat.le_of_ble_eq_true rfl) (fun σ1 q => ?_)
  refine R_i2l rfl ?_
  refine R_wL (j := 0) rfl tk_132 rfl (by decide) (by decide) ?_
  refine R_goto rfl rfl ?_
  refine R_iconst (v := 0) rfl rfl ?_
  exact T_ireturn rfl rfl ⟨_, rfl, σ1, q, rfl⟩
theorem lth_rankOf_1 {σ : am_G} {a1 a2 a3 : Int32} {P : am_G → Prop} (hD : am_Call am_TX 8 1 c_D_rankOf [.ref 0, .int a1, .int a2, .int a3] (mm σ) (am_ThP "java/lang/IllegalArgumentException" P)) : am_Call am_TX 9 1 c_L_rankOf [.ref 0, .int a1, .int a2, .int a3, .ref 132] (mm σ) (am_Ok (some (.int 1)) P) := by
  refine ⟨mf_L_rankOf, Nat.le_of_ble_eq_true rfl, ?_⟩
  show am_R _ _ _ _ 0 [some (.ref 0), some (.int a1), some (.int a2), some (.int a3), some (.ref 132), none] [] _ _
  refine R_aload rfl rfl ?_
  refine R_iconst (v := 0) rfl rfl ?_
  refine R_aload_n rfl rfl ?_
  refine R_iload_n rfl rfl ?_
  refine R_iload_n rfl rfl ?_
  refine R_iload_n rfl rfl ?_
  refine R_cVxP (k := 0) (as := [.int a1, .int a2, .int a3]) rfl rfl iv_D_rankOf hD (by decide) rfl rfl tk_0 (by decide) rfl rfl (Nat.le_of_ble_eq_true rfl) (fun σ1 q => ?_)
  refine Rx_catch (i := 5) (hh := [(0, 12, 15, 19)]) rfl [] [] ⟨0, 12, 15, 19⟩ rfl (fun z hz => by cases hz) (by decide) (by decide) lk_19 ck_19 (Or.inl ⟨rfl, rfl⟩) (by decide) ?_
  refine R_iconst (v := 1) rfl rfl ?_
  exact T_ireturn rfl rfl ⟨σ1, rfl, q⟩
theorem lok_minor {σ : am_G} {a1 a2 : Int32} {b : Int64} {P : am_G → Prop} (hD : am_Call am_TX 8 0 c_D_minor [.ref 0, .int a1, .int a2] (mm σ) (am_Ok (some (.long b)) P)) : am_Call am_TX 9 0 c_L_minor [.ref 0, .int a1, .int a2, .ref 132] (mm σ) (am_Ok (some (.int 0)) (fun σ2 => ∃ σ1, P σ1 ∧ σ2 = sL σ1 132 0 (b))) := by
  refine ⟨mf_L_minor, Nat.le_of_ble_eq_true rfl, ?_⟩
  show am_R _ _ _ _ 0 [some (.ref 0), some (.int a1), some (.int a2), some (.ref 132), none] [] _ _
  refine R_aload_n rfl rfl ?_
  refine R_iconst (v := 0) rfl rfl ?_
  refine R_aload_n rfl rfl ?_
  refine R_iload_n rfl rfl ?_
  refine R_iload_n rfl rfl ?_
  refine R_cV (as := [.int a1, .int a2]) rfl rfl iv_D_minor hD (by decide) rfl rfl tk_0 (by decide) rfl rfl (Nat.le_of_ble_eq_true rfl) (fun σ1 q => ?_)
  refine R_wL (j := 0) rfl tk_132 rfl (by decide) (by decide) ?_
  refine R_goto rfl rfl ?_
  refine R_iconst (v := 0) rfl rfl ?_
  exact T_ireturn rfl rfl ⟨_, rfl, σ1, q, rfl⟩
theorem lth_minor_1 {σ : am_G} {a1 a2 : Int32} {P : am_G → Prop} (hD : am_Call am_TX 8 1 c_D_minor [.ref 0, .int a1, .int a2] (mm σ) (am_ThP "java/lang/IllegalArgumentException" P)) : am_Call am_TX 9 1 c_L_minor [.ref 0, .int a1, .int a2, .ref 132] (mm σ) (am_Ok (some (.int 1)) P) := by
  refine ⟨mf_L_minor, Nat.le_of_ble_eq_true rfl, ?_⟩
  show am_R _ _ _ _ 0 [some (.ref 0), some (.int a1), some (.int a2), some (.ref 132), none] [] _ _
  refine R_aload_n rfl rfl ?_
  refine R_iconst (v := 0) rfl rfl ?_
  refine R_aload_n rfl rfl ?_
  refine R_iload_n rfl rfl ?_
  refine R_iload_n rfl rfl ?_
  refine R_cVxP (k := 0) (as := [.int a1, .int a2]) rfl rfl iv_D_minor hD (by decide) rfl rfl tk_0 (by decide) rfl rfl (Nat.le_of_ble_eq_true rfl) (fun σ1 q => ?_)
  refine Rx_catch (i := 4) (hh := [(0, 9, 12, 19)]) rfl [] [] ⟨0, 9, 12, 19⟩ rfl (fun z hz => by cases hz) (by decide) (by decide) lk_19 ck_19 (Or.inl ⟨rfl, rfl⟩) (by decide) ?_
  refine R_iconst (v := 1) rfl rfl ?_
  exact T_ireturn rfl rfl ⟨σ1, rfl, q⟩
theorem lok_rowProfile {σ : am_G} {a1 : Int32} {b : Int32} {P : am_G → Prop} (hD : am_Call am_TX 8 0 c_D_rowProfile [.ref 0, .int a1] (mm σ) (am_Ok (some (.int b)) P)) : am_Call am_TX 9 0 c_L_rowProfile [.ref 0, .int a1, .ref 132] (mm σ) (am_Ok (some (.int 0)) (fun σ2 => ∃ σ1, P σ1 ∧ σ2 = sL σ1 132 0 (b.toInt64))) := by
  refine ⟨mf_L_rowProfile, Nat.le_of_ble_eq_true rfl, ?_⟩
  show am_R _ _ _ _ 0 [some (.ref 0), some (.int a1), some (.ref 132), none] [] _ _
  refine R_aload_n rfl rfl ?_
  refine R_iconst (v := 0) rfl rfl ?_
  refine R_aload_n rfl rfl ?_
  refine R_iload_n rfl rfl ?_
  refine R_cV (as := [.int a1]) rfl rfl iv_D_rowProfile hD (by decide) rfl rfl tk_0 (by decide) rfl rfl (Nat.le_of_ble_eq_true rfl) (fun σ1 q => ?_)
  refine R_i2l rfl ?_
  refine R_wL (j := 0) rfl tk_132 rfl (by decide) (by decide) ?_
  refine R_goto rfl rfl ?_
  refine R_iconst (v := 0) rfl rfl ?_
  exact T_ireturn rfl rfl ⟨_, rfl, σ1, q, rfl⟩
theorem lth_rowProfile_1 {σ : am_G} {a1 : Int32} {P : am_G → Prop} (hD : am_Call am_TX 8 1 c_D_rowProfile [.ref 0, .int a1] (mm σ) (am_ThP "java/lang/IllegalArgumentException" P)) : am_Call am_TX 9 1 c_L_rowProfile [.ref 0, .int a1, .ref 132] (mm σ) (am_Ok (some (.int 1)) P) := by
  refine ⟨mf_L_rowProfile, Nat.le_of_ble_eq_true rfl, ?_⟩
  show am_R _ _ _ _ 0 [some (.ref 0), some (.int a1), some (.ref 132), none] [] _ _
  refine R_aload_n rfl rfl ?_
  refine R_iconst (v := 0) rfl rfl ?_
  refine R_aload_n rfl rfl ?_
  refine R_iload_n rfl rfl ?_
  refine R_cVxP (k := 0) (as := [.int a1]) rfl rfl iv_D_rowProfile hD (by decide) rfl rfl tk_0 (by decide) rfl rfl (Nat.le_of_ble_eq_true rfl) (fun σ1 q => ?_)
  refine Rx_catch (i := 3) (hh := [(0, 9, 12, 19)]) rfl [] [] ⟨0, 9, 12, 19⟩ rfl (fun z hz => by cases hz) (by decide) (by decide) lk_19 ck_19 (Or.inr ⟨⟨3, rfl, rfl⟩, rfl⟩) (by decide) ?_
  refine R_iconst (v := 1) rfl rfl ?_
  exact T_ireturn rfl rfl ⟨σ1, rfl, q⟩
theorem lok_columnProfile {σ : am_G} {a1 : Int32} {b : Int32} {P : am_G → Prop} (hD : am_Call am_TX 8 0 c_D_columnProfile [.ref 0, .int a1] (mm σ) (am_Ok (some (.int b)) P)) : am_Call am_TX 9 0 c_L_columnProfile [.ref 0, .int a1, .ref 132] (mm σ) (am_Ok (some (.int 0)) (fun σ2 => ∃ σ1, P σ1 ∧ σ2 = sL σ1 132 0 (b.toInt64))) := by
  refine ⟨mf_L_columnProfile, Nat.le_of_ble_eq_true rfl, ?_⟩
  show am_R _ _ _ _ 0 [some (.ref 0), some (.int a1), some (.ref 132), none] [] _ _
  refine R_aload_n rfl rfl ?_
  refine R_iconst (v := 0) rfl rfl ?_
  refine R_aload_n rfl rfl ?_
  refine R_iload_n rfl rfl ?_
  refine R_cV (as := [.int a1]) rfl rfl iv_D_columnProfile hD (by decide) rfl rfl tk_0 (by decide) rfl rfl (Nat.le_of_ble_eq_true rfl) (fun σ1 q => ?_)
  refine R_i2l rfl ?_
  refine R_wL (j := 0) rfl tk_132 rfl (by decide) (by decide) ?_
  refine R_goto rfl rfl ?_
  refine R_iconst (v := 0) rfl rfl ?_
  exact T_ireturn rfl rfl ⟨_, rfl, σ1, q, rfl⟩
theorem lth_columnProfile_1 {σ : am_G} {a1 : Int32} {P : am_G → Prop} (hD : am_Call am_TX 8 1 c_D_columnProfile [.ref 0, .int a1] (mm σ) (am_ThP "java/lang/IllegalArgumentException" P)) : am_Call am_TX 9 1 c_L_columnProfile [.ref 0, .int a1, .ref 132] (mm σ) (am_Ok (some (.int 1)) P) := by
  refine ⟨mf_L_columnProfile, Nat.le_of_ble_eq_true rfl, ?_⟩
  show am_R _ _ _ _ 0 [some (.ref 0), some (.int a1), some (.ref 132), none] [] _ _
  refine R_aload_n rfl rfl ?_
  refine R_iconst (v := 0) rfl rfl ?_
  refine R_aload_n rfl rfl ?_
  refine R_iload_n rfl rfl ?_
  refine R_cVxP (k := 0) (as := [.int a1]) rfl rfl iv_D_columnProfile hD (by decide) rfl rfl tk_0 (by decide) rfl rfl (Nat.le_of_ble_eq_true rfl) (fun σ1 q => ?_)
  refine Rx_catch (i := 3) (hh := [(0, 9, 12, 19)]) rfl [] [] ⟨0, 9, 12, 19⟩ rfl (fun z hz => by cases hz) (by decide) (by decide) lk_19 ck_19 (Or.inr ⟨⟨3, rfl, rfl⟩, rfl⟩) (by decide) ?_
  refine R_iconst (v := 1) rfl rfl ?_
  exact T_ireturn rfl rfl ⟨σ1, rfl, q⟩
theorem lok_pivot {σ : am_G} {a1 a2 : Int32} {b : Int32} {P : am_G → Prop} (hD : am_Call am_TX 8 0 c_D_pivot [.ref 0, .int a1, .int a2] (mm σ) (am_Ok (some (.int b)) P)) : am_Call am_TX 9 0 c_L_pivot [.ref 0, .int a1, .int a2, .ref 132] (mm σ) (am_Ok (some (.int 0)) (fun σ2 => ∃ σ1, P σ1 ∧ σ2 = sL σ1 132 0 (b.toInt64))) := by
  refine ⟨mf_L_pivot, Nat.le_of_ble_eq_true rfl, ?_⟩
  show am_R _ _ _ _ 0 [some (.ref 0), some (.int a1), some (.int a2), some (.ref 132), none] [] _ _
  refine R_aload_n rfl rfl ?_
  refine R_iconst (v := 0) rfl rfl ?_
  refine R_aload_n rfl rfl ?_
  refine R_iload_n rfl rfl ?_
  refine R_iload_n rfl rfl ?_
  refine R_cV (as := [.int a1, .int a2]) rfl rfl iv_D_pivot hD (by decide) rfl rfl tk_0 (by decide) rfl rfl (Nat.le_of_ble_eq_true rfl) (fun σ1 q => ?_)
  refine R_i2l rfl ?_
  refine R_wL (j := 0) rfl tk_132 rfl (by decide) (by decide) ?_
  refine R_goto rfl rfl ?_
  refine R_iconst (v := 0) rfl rfl ?_
  exact T_ireturn rfl rfl ⟨_, rfl, σ1, q, rfl⟩
theorem lth_pivot_1 {σ : am_G} {a1 a2 : Int32} {P : am_G → Prop} (hD : am_Call am_TX 8 1 c_D_pivot [.ref 0, .int a1, .int a2] (mm σ) (am_ThP "java/lang/IndexOutOfBoundsException" P)) : am_Call am_TX 9 1 c_L_pivot [.ref 0, .int a1, .int a2, .ref 132] (mm σ) (am_Ok (some (.int 1)) P) := by
  refine ⟨mf_L_pivot, Nat.le_of_ble_eq_true rfl, ?_⟩
  show am_R _ _ _ _ 0 [some (.ref 0), some (.int a1), some (.int a2), some (.ref 132), none] [] _ _
  refine R_aload_n rfl rfl ?_
  refine R_iconst (v := 0) rfl rfl ?_
  refine R_aload_n rfl rfl ?_
  refine R_iload_n rfl rfl ?_
  refine R_iload_n rfl rfl ?_
  refine R_cVxP (k := 0) (as := [.int a1, .int a2]) rfl rfl iv_D_pivot hD (by decide) rfl rfl tk_0 (by decide) rfl rfl (Nat.le_of_ble_eq_true rfl) (fun σ1 q => ?_)
  refine Rx_catch (i := 4) (hh := [(0, 10, 13, 28), (0, 10, 17, 19)]) rfl [] [⟨0, 10, 17, 19⟩] ⟨0, 10, 13, 28⟩ rfl (fun z hz => by cases hz) (by decide) (by decide) lk_28 ck_28 (Or.inl ⟨rfl, rfl⟩) (by decide) ?_
  refine R_iconst (v := 1) rfl rfl ?_
  exact T_ireturn rfl rfl ⟨σ1, rfl, q⟩
theorem lth_pivot_2 {σ : am_G} {a1 a2 : Int32} {P : am_G → Prop} (hD : am_Call am_TX 8 1 c_D_pivot [.ref 0, .int a1, .int a2] (mm σ) (am_ThP "java/lang/IllegalArgumentException" P)) : am_Call am_TX 9 1 c_L_pivot [.ref 0, .int a1, .int a2, .ref 132] (mm σ) (am_Ok (some (.int 2)) P) := by
  refine ⟨mf_L_pivot, Nat.le_of_ble_eq_true rfl, ?_⟩
  show am_R _ _ _ _ 0 [some (.ref 0), some (.int a1), some (.int a2), some (.ref 132), none] [] _ _
  refine R_aload_n rfl rfl ?_
  refine R_iconst (v := 0) rfl rfl ?_
  refine R_aload_n rfl rfl ?_
  refine R_iload_n rfl rfl ?_
  refine R_iload_n rfl rfl ?_
  refine R_cVxP (k := 0) (as := [.int a1, .int a2]) rfl rfl iv_D_pivot hD (by decide) rfl rfl tk_0 (by decide) rfl rfl (Nat.le_of_ble_eq_true rfl) (fun σ1 q => ?_)
  refine Rx_catch (i := 4) (hh := [(0, 10, 13, 28), (0, 10, 17, 19)]) rfl [⟨0, 10, 13, 28⟩] [] ⟨0, 10, 17, 19⟩ rfl (fun z hz => by
    rcases List.mem_cons.mp hz with rfl | hz
    · exact Or.inr ⟨by decide, "java/lang/IndexOutOfBoundsException", lk_28, List.mem_of_getElem? (i := 0) rfl⟩
    cases hz) (by decide) (by decide) lk_19 ck_19 (Or.inl ⟨rfl, rfl⟩) (by decide) ?_
  refine R_iconst (v := 2) rfl rfl ?_
  exact T_ireturn rfl rfl ⟨σ1, rfl, q⟩
theorem lok_divisor {σ : am_G} {a1 : Int32} {b : Int64} {P : am_G → Prop} (hD : am_Call am_TX 8 0 c_D_divisor [.ref 0, .int a1] (mm σ) (am_Ok (some (.long b)) P)) : am_Call am_TX 9 0 c_L_divisor [.ref 0, .int a1, .ref 132] (mm σ) (am_Ok (some (.int 0)) (fun σ2 => ∃ σ1, P σ1 ∧ σ2 = sL σ1 132 0 (b))) := by
  refine ⟨mf_L_divisor, Nat.le_of_ble_eq_true rfl, ?_⟩
  show am_R _ _ _ _ 0 [some (.ref 0), some (.int a1), some (.ref 132), none] [] _ _
  refine R_aload_n rfl rfl ?_
  refine R_iconst (v := 0) rfl rfl ?_
  refine R_aload_n rfl rfl ?_
  refine R_iload_n rfl rfl ?_
  refine R_cV (as := [.int a1]) rfl rfl iv_D_divisor hD (by decide) rfl rfl tk_0 (by decide) rfl rfl (Nat.le_of_ble_eq_true rfl) (fun σ1 q => ?_)
  refine R_wL (j := 0) rfl tk_132 rfl (by decide) (by decide) ?_
  refine R_goto rfl rfl ?_
  refine R_iconst (v := 0) rfl rfl ?_
  exact T_ireturn rfl rfl ⟨_, rfl, σ1, q, rfl⟩
theorem lth_divisor_1 {σ : am_G} {a1 : Int32} {P : am_G → Prop} (hD : am_Call am_TX 8 1 c_D_divisor [.ref 0, .int a1] (mm σ) (am_ThP "java/lang/IllegalArgumentException" P)) : am_Call am_TX 9 1 c_L_divisor [.ref 0, .int a1, .ref 132] (mm σ) (am_Ok (some (.int 1)) P) := by
  refine ⟨mf_L_divisor, Nat.le_of_ble_eq_true rfl, ?_⟩
  show am_R _ _ _ _ 0 [some (.ref 0), some (.int a1), some (.ref 132), none] [] _ _
  refine R_aload_n rfl rfl ?_
  refine R_iconst (v := 0) rfl rfl ?_
  refine R_aload_n rfl rfl ?_
  refine R_iload_n rfl rfl ?_
  refine R_cVxP (k := 0) (as := [.int a1]) rfl rfl iv_D_divisor hD (by decide) rfl rfl tk_0 (by decide) rfl rfl (Nat.le_of_ble_eq_true rfl) (fun σ1 q => ?_)
  refine Rx_catch (i := 3) (hh := [(0, 8, 11, 19)]) rfl [] [] ⟨0, 8, 11, 19⟩ rfl (fun z hz => by cases hz) (by decide) (by decide) lk_19 ck_19 (Or.inr ⟨⟨3, rfl, rfl⟩, rfl⟩) (by decide) ?_
  refine R_iconst (v := 1) rfl rfl ?_
  exact T_ireturn rfl rfl ⟨σ1, rfl, q⟩
theorem lok_nextUnlucky {σ : am_G} {a1 : Int32} {b : Int32} {P : am_G → Prop} (hD : am_Call am_TX 8 0 c_D_nextUnlucky [.ref 0, .int a1] (mm σ) (am_Ok (some (.int b)) P)) : am_Call am_TX 9 0 c_L_nextUnlucky [.ref 0, .int a1, .ref 132] (mm σ) (am_Ok (some (.int 0)) (fun σ2 => ∃ σ1, P σ1 ∧ σ2 = sL σ1 132 0 (b.toInt64))) := by
  refine ⟨mf_L_nextUnlucky, Nat.le_of_ble_eq_true rfl, ?_⟩
  show am_R _ _ _ _ 0 [some (.ref 0), some (.int a1), some (.ref 132), none] [] _ _
  refine R_aload_n rfl rfl ?_
  refine R_iconst (v := 0) rfl rfl ?_
  refine R_aload_n rfl rfl ?_
  refine R_iload_n rfl rfl ?_
  refine R_cV (as := [.int a1]) rfl rfl iv_D_nextUnlucky hD (by decide) rfl rfl tk_0 (by decide) rfl rfl (Nat.le_of_ble_eq_true rfl) (fun σ1 q => ?_)
  refine R_i2l rfl ?_
  refine R_wL (j := 0) rfl tk_132 rfl (by decide) (by decide) ?_
  refine R_goto rfl rfl ?_
  refine R_iconst (v := 0) rfl rfl ?_
  exact T_ireturn rfl rfl ⟨_, rfl, σ1, q, rfl⟩
theorem lth_nextUnlucky_1 {σ : am_G} {a1 : Int32} {P : am_G → Prop} (hD : am_Call am_TX 8 1 c_D_nextUnlucky [.ref 0, .int a1] (mm σ) (am_ThP "java/lang/IllegalArgumentException" P)) : am_Call am_TX 9 1 c_L_nextUnlucky [.ref 0, .int a1, .ref 132] (mm σ) (am_Ok (some (.int 1)) P) := by
  refine ⟨mf_L_nextUnlucky, Nat.le_of_ble_eq_true rfl, ?_⟩
  show am_R _ _ _ _ 0 [some (.ref 0), some (.int a1), some (.ref 132), none] [] _ _
  refine R_aload_n rfl rfl ?_
  refine R_iconst (v := 0) rfl rfl ?_
  refine R_aload_n rfl rfl ?_
  refine R_iload_n rfl rfl ?_
  refine R_cVxP (k := 0) (as := [.int a1]) rfl rfl iv_D_nextUnlucky hD (by decide) rfl rfl tk_0 (by decide) rfl rfl (Nat.le_of_ble_eq_true rfl) (fun σ1 q => ?_)
  refine Rx_catch (i := 3) (hh := [(0, 9, 12, 19)]) rfl [] [] ⟨0, 9, 12, 19⟩ rfl (fun z hz => by cases hz) (by decide) (by decide) lk_19 ck_19 (Or.inr ⟨⟨3, rfl, rfl⟩, rfl⟩) (by decide) ?_
  refine R_iconst (v := 1) rfl rfl ?_
  exact T_ireturn rfl rfl ⟨σ1, rfl, q⟩
theorem lok_relation {σ : am_G} {a1 a2 : Int32} {b : Int64} {P : am_G → Prop} (hD : am_Call am_TX 8 0 c_D_relation [.ref 0, .int a1, .int a2] (mm σ) (am_Ok (some (.long b)) P)) : am_Call am_TX 9 0 c_L_relation [.ref 0, .int a1, .int a2, .ref 132] (mm σ) (am_Ok (some (.int 0)) (fun σ2 => ∃ σ1, P σ1 ∧ σ2 = sL σ1 132 0 (b))) := by
  refine ⟨mf_L_relation, Nat.le_of_ble_eq_true rfl, ?_⟩
  show am_R _ _ _ _ 0 [some (.ref 0), some (.int a1), some (.int a2), some (.ref 132), none] [] _ _
  refine R_aload_n rfl rfl ?_
  refine R_iconst (v := 0) rfl rfl ?_
  refine R_aload_n rfl rfl ?_
  refine R_iload_n rfl rfl ?_
  refine R_iload_n rfl rfl ?_
  refine R_cV (as := [.int a1, .int a2]) rfl rfl iv_D_relation hD (by decide) rfl rfl tk_0 (by decide) rfl rfl (Nat.le_of_ble_eq_true rfl) (fun σ1 q => ?_)
  refine R_wL (j := 0) rfl tk_132 rfl (by decide) (by decide) ?_
  refine R_goto rfl rfl ?_
  refine R_iconst (v := 0) rfl rfl ?_
  exact T_ireturn rfl rfl ⟨_, rfl, σ1, q, rfl⟩
theorem lth_relation_1 {σ : am_G} {a1 a2 : Int32} {P : am_G → Prop} (hD : am_Call am_TX 8 1 c_D_relation [.ref 0, .int a1, .int a2] (mm σ) (am_ThP "java/lang/IndexOutOfBoundsException" P)) : am_Call am_TX 9 1 c_L_relation [.ref 0, .int a1, .int a2, .ref 132] (mm σ) (am_Ok (some (.int 1)) P) := by
  refine ⟨mf_L_relation, Nat.le_of_ble_eq_true rfl, ?_⟩
  show am_R _ _ _ _ 0 [some (.ref 0), some (.int a1), some (.int a2), some (.ref 132), none] [] _ _
  refine R_aload_n rfl rfl ?_
  refine R_iconst (v := 0) rfl rfl ?_
  refine R_aload_n rfl rfl ?_
  refine R_iload_n rfl rfl ?_
  refine R_iload_n rfl rfl ?_
  refine R_cVxP (k := 0) (as := [.int a1, .int a2]) rfl rfl iv_D_relation hD (by decide) rfl rfl tk_0 (by decide) rfl rfl (Nat.le_of_ble_eq_true rfl) (fun σ1 q => ?_)
  refine Rx_catch (i := 4) (hh := [(0, 9, 12, 28), (0, 9, 16, 64)]) rfl [] [⟨0, 9, 16, 64⟩] ⟨0, 9, 12, 28⟩ rfl (fun z hz => by cases hz) (by decide) (by decide) lk_28 ck_28 (Or.inl ⟨rfl, rfl⟩) (by decide) ?_
  refine R_iconst (v := 1) rfl rfl ?_
  exact T_ireturn rfl rfl ⟨σ1, rfl, q⟩
theorem lth_relation_2 {σ : am_G} {a1 a2 : Int32} {P : am_G → Prop} (hD : am_Call am_TX 8 1 c_D_relation [.ref 0, .int a1, .int a2] (mm σ) (am_ThP "java/util/NoSuchElementException" P)) : am_Call am_TX 9 1 c_L_relation [.ref 0, .int a1, .int a2, .ref 132] (mm σ) (am_Ok (some (.int 2)) P) := by
  refine ⟨mf_L_relation, Nat.le_of_ble_eq_true rfl, ?_⟩
  show am_R _ _ _ _ 0 [some (.ref 0), some (.int a1), some (.int a2), some (.ref 132), none] [] _ _
  refine R_aload_n rfl rfl ?_
  refine R_iconst (v := 0) rfl rfl ?_
  refine R_aload_n rfl rfl ?_
  refine R_iload_n rfl rfl ?_
  refine R_iload_n rfl rfl ?_
  refine R_cVxP (k := 0) (as := [.int a1, .int a2]) rfl rfl iv_D_relation hD (by decide) rfl rfl tk_0 (by decide) rfl rfl (Nat.le_of_ble_eq_true rfl) (fun σ1 q => ?_)
  refine Rx_catch (i := 4) (hh := [(0, 9, 12, 28), (0, 9, 16, 64)]) rfl [⟨0, 9, 12, 28⟩] [] ⟨0, 9, 16, 64⟩ rfl (fun z hz => by
    rcases List.mem_cons.mp hz with rfl | hz
    · exact Or.inr ⟨by decide, "java/lang/IndexOutOfBoundsException", lk_28, List.mem_of_getElem? (i := 1) rfl⟩
    cases hz) (by decide) (by decide) lk_64 ck_64 (Or.inl ⟨rfl, rfl⟩) (by decide) ?_
  refine R_iconst (v := 2) rfl rfl ?_
  exact T_ireturn rfl rfl ⟨σ1, rfl, q⟩
theorem lok_columnRelation {σ : am_G} {a1 a2 : Int32} {b : Int64} {P : am_G → Prop} (hD : am_Call am_TX 8 0 c_D_columnRelation [.ref 0, .int a1, .int a2] (mm σ) (am_Ok (some (.long b)) P)) : am_Call am_TX 9 0 c_L_columnRelation [.ref 0, .int a1, .int a2, .ref 132] (mm σ) (am_Ok (some (.int 0)) (fun σ2 => ∃ σ1, P σ1 ∧ σ2 = sL σ1 132 0 (b))) := by
  refine ⟨mf_L_columnRelation, Nat.le_of_ble_eq_true rfl, ?_⟩
  show am_R _ _ _ _ 0 [some (.ref 0), some (.int a1), some (.int a2), some (.ref 132), none] [] _ _
  refine R_aload_n rfl rfl ?_
  refine R_iconst (v := 0) rfl rfl ?_
  refine R_aload_n rfl rfl ?_
  refine R_iload_n rfl rfl ?_
  refine R_iload_n rfl rfl ?_
  refine R_cV (as := [.int a1, .int a2]) rfl rfl iv_D_columnRelation hD (by decide) rfl rfl tk_0 (by decide) rfl rfl (Nat.le_of_ble_eq_true rfl) (fun σ1 q => ?_)
  refine R_wL (j := 0) rfl tk_132 rfl (by decide) (by decide) ?_
  refine R_goto rfl rfl ?_
  refine R_iconst (v := 0) rfl rfl ?_
  exact T_ireturn rfl rfl ⟨_, rfl, σ1, q, rfl⟩
theorem lth_columnRelation_1 {σ : am_G} {a1 a2 : Int32} {P : am_G → Prop} (hD : am_Call am_TX 8 1 c_D_columnRelation [.ref 0, .int a1, .int a2] (mm σ) (am_ThP "java/lang/IndexOutOfBoundsException" P)) : am_Call am_TX 9 1 c_L_columnRelation [.ref 0, .int a1, .int a2, .ref 132] (mm σ) (am_Ok (some (.int 1)) P) := by
  refine ⟨mf_L_columnRelation, Nat.le_of_ble_eq_true rfl, ?_⟩
  show am_R _ _ _ _ 0 [some (.ref 0), some (.int a1), some (.int a2), some (.ref 132), none] [] _ _
  refine R_aload_n rfl rfl ?_
  refine R_iconst (v := 0) rfl rfl ?_
  refine R_aload_n rfl rfl ?_
  refine R_iload_n rfl rfl ?_
  refine R_iload_n rfl rfl ?_
  refine R_cVxP (k := 0) (as := [.int a1, .int a2]) rfl rfl iv_D_columnRelation hD (by decide) rfl rfl tk_0 (by decide) rfl rfl (Nat.le_of_ble_eq_true rfl) (fun σ1 q => ?_)
  refine Rx_catch (i := 4) (hh := [(0, 9, 12, 28), (0, 9, 16, 64)]) rfl [] [⟨0, 9, 16, 64⟩] ⟨0, 9, 12, 28⟩ rfl (fun z hz => by cases hz) (by decide) (by decide) lk_28 ck_28 (Or.inl ⟨rfl, rfl⟩) (by decide) ?_
  refine R_iconst (v := 1) rfl rfl ?_
  exact T_ireturn rfl rfl ⟨σ1, rfl, q⟩
theorem lth_columnRelation_2 {σ : am_G} {a1 a2 : Int32} {P : am_G → Prop} (hD : am_Call am_TX 8 1 c_D_columnRelation [.ref 0, .int a1, .int a2] (mm σ) (am_ThP "java/util/NoSuchElementException" P)) : am_Call am_TX 9 1 c_L_columnRelation [.ref 0, .int a1, .int a2, .ref 132] (mm σ) (am_Ok (some (.int 2)) P) := by
  refine ⟨mf_L_columnRelation, Nat.le_of_ble_eq_true rfl, ?_⟩
  show am_R _ _ _ _ 0 [some (.ref 0), some (.int a1), some (.int a2), some (.ref 132), none] [] _ _
  refine R_aload_n rfl rfl ?_
  refine R_iconst (v := 0) rfl rfl ?_
  refine R_aload_n rfl rfl ?_
  refine R_iload_n rfl rfl ?_
  refine R_iload_n rfl rfl ?_
  refine R_cVxP (k := 0) (as := [.int a1, .int a2]) rfl rfl iv_D_columnRelation hD (by decide) rfl rfl tk_0 (by decide) rfl rfl (Nat.le_of_ble_eq_true rfl) (fun σ1 q => ?_)
  refine Rx_catch (i := 4) (hh := [(0, 9, 12, 28), (0, 9, 16, 64)]) rfl [⟨0, 9, 12, 28⟩] [] ⟨0, 9, 16, 64⟩ rfl (fun z hz => by
    rcases List.mem_cons.mp hz with rfl | hz
    · exact Or.inr ⟨by decide, "java/lang/IndexOutOfBoundsException", lk_28, List.mem_of_getElem? (i := 1) rfl⟩
    cases hz) (by decide) (by decide) lk_64 ck_64 (Or.inl ⟨rfl, rfl⟩) (by decide) ?_
  refine R_iconst (v := 2) rfl rfl ?_
  exact T_ireturn rfl rfl ⟨σ1, rfl, q⟩
theorem lok_relationMod {σ : am_G} {a1 a2 a3 : Int32} {b : Int32} {P : am_G → Prop} (hD : am_Call am_TX 8 0 c_D_relationMod [.ref 0, .int a1, .int a2, .int a3] (mm σ) (am_Ok (some (.int b)) P)) : am_Call am_TX 9 0 c_L_relationMod [.ref 0, .int a1, .int a2, .int a3, .ref 132] (mm σ) (am_Ok (some (.int 0)) (fun σ2 => ∃ σ1, P σ1 ∧ σ2 = sL σ1 132 0 (b.toInt64))) := by
  refine ⟨mf_L_relationMod, Nat.le_of_ble_eq_true rfl, ?_⟩
  show am_R _ _ _ _ 0 [some (.ref 0), some (.int a1), some (.int a2), some (.int a3), some (.ref 132), none] [] _ _
  refine R_aload rfl rfl ?_
  refine R_iconst (v := 0) rfl rfl ?_
  refine R_aload_n rfl rfl ?_
  refine R_iload_n rfl rfl ?_
  refine R_iload_n rfl rfl ?_
  refine R_iload_n rfl rfl ?_
  refine R_cV (as := [.int a1, .int a2, .int a3]) rfl rfl iv_D_relationMod hD (by decide) rfl rfl tk_0 (by decide) rfl rfl (Nat.le_of_ble_eq_true rfl) (fun σ1 q => ?_)
  refine R_i2l rfl ?_
  refine R_wL (j := 0) rfl tk_132 rfl (by decide) (by decide) ?_
  refine R_goto rfl rfl ?_
  refine R_iconst (v := 0) rfl rfl ?_
  exact T_ireturn rfl rfl ⟨_, rfl, σ1, q, rfl⟩
theorem lth_relationMod_1 {σ : am_G} {a1 a2 a3 : Int32} {P : am_G → Prop} (hD : am_Call am_TX 8 1 c_D_relationMod [.ref 0, .int a1, .int a2, .int a3] (mm σ) (am_ThP "java/lang/IndexOutOfBoundsException" P)) : am_Call am_TX 9 1 c_L_relationMod [.ref 0, .int a1, .int a2, .int a3, .ref 132] (mm σ) (am_Ok (some (.int 1)) P) := by
  refine ⟨mf_L_relationMod, Nat.le_of_ble_eq_true rfl, ?_⟩
  show am_R _ _ _ _ 0 [some (.ref 0), some (.int a1), some (.int a2), some (.int a3), some (.ref 132), none] [] _ _
  refine R_aload rfl rfl ?_
  refine R_iconst (v := 0) rfl rfl ?_
  refine R_aload_n rfl rfl ?_
  refine R_iload_n rfl rfl ?_
  refine R_iload_n rfl rfl ?_
  refine R_iload_n rfl rfl ?_
  refine R_cVxP (k := 0) (as := [.int a1, .int a2, .int a3]) rfl rfl iv_D_relationMod hD (by decide) rfl rfl tk_0 (by decide) rfl rfl (Nat.le_of_ble_eq_true rfl) (fun σ1 q => ?_)
  refine Rx_catch (i := 5) (hh := [(0, 12, 15, 28), (0, 12, 19, 19), (0, 12, 23, 64)]) rfl [] [⟨0, 12, 19, 19⟩, ⟨0, 12, 23, 64⟩] ⟨0, 12, 15, 28⟩ rfl (fun z hz => by cases hz) (by decide) (by decide) lk_28 ck_28 (Or.inl ⟨rfl, rfl⟩) (by decide) ?_
  refine R_iconst (v := 1) rfl rfl ?_
  exact T_ireturn rfl rfl ⟨σ1, rfl, q⟩
theorem lth_relationMod_2 {σ : am_G} {a1 a2 a3 : Int32} {P : am_G → Prop} (hD : am_Call am_TX 8 1 c_D_relationMod [.ref 0, .int a1, .int a2, .int a3] (mm σ) (am_ThP "java/lang/IllegalArgumentException" P)) : am_Call am_TX 9 1 c_L_relationMod [.ref 0, .int a1, .int a2, .int a3, .ref 132] (mm σ) (am_Ok (some (.int 2)) P) := by
  refine ⟨mf_L_relationMod, Nat.le_of_ble_eq_true rfl, ?_⟩
  show am_R _ _ _ _ 0 [some (.ref 0), some (.int a1), some (.int a2), some (.int a3), some (.ref 132), none] [] _ _
  refine R_aload rfl rfl ?_
  refine R_iconst (v := 0) rfl rfl ?_
  refine R_aload_n rfl rfl ?_
  refine R_iload_n rfl rfl ?_
  refine R_iload_n rfl rfl ?_
  refine R_iload_n rfl rfl ?_
  refine R_cVxP (k := 0) (as := [.int a1, .int a2, .int a3]) rfl rfl iv_D_relationMod hD (by decide) rfl rfl tk_0 (by decide) rfl rfl (Nat.le_of_ble_eq_true rfl) (fun σ1 q => ?_)
  refine Rx_catch (i := 5) (hh := [(0, 12, 15, 28), (0, 12, 19, 19), (0, 12, 23, 64)]) rfl [⟨0, 12, 15, 28⟩] [⟨0, 12, 23, 64⟩] ⟨0, 12, 19, 19⟩ rfl (fun z hz => by
    rcases List.mem_cons.mp hz with rfl | hz
    · exact Or.inr ⟨by decide, "java/lang/IndexOutOfBoundsException", lk_28, List.mem_of_getElem? (i := 0) rfl⟩
    cases hz) (by decide) (by decide) lk_19 ck_19 (Or.inl ⟨rfl, rfl⟩) (by decide) ?_
  refine R_iconst (v := 2) rfl rfl ?_
  exact T_ireturn rfl rfl ⟨σ1, rfl, q⟩
theorem lth_relationMod_3 {σ : am_G} {a1 a2 a3 : Int32} {P : am_G → Prop} (hD : am_Call am_TX 8 1 c_D_relationMod [.ref 0, .int a1, .int a2, .int a3] (mm σ) (am_ThP "java/util/NoSuchElementException" P)) : am_Call am_TX 9 1 c_L_relationMod [.ref 0, .int a1, .int a2, .int a3, .ref 132] (mm σ) (am_Ok (some (.int 3)) P) := by
  refine ⟨mf_L_relationMod, Nat.le_of_ble_eq_true rfl, ?_⟩
  show am_R _ _ _ _ 0 [some (.ref 0), some (.int a1), some (.int a2), some (.int a3), some (.ref 132), none] [] _ _
  refine R_aload rfl rfl ?_
  refine R_iconst (v := 0) rfl rfl ?_
  refine R_aload_n rfl rfl ?_
  refine R_iload_n rfl rfl ?_
  refine R_iload_n rfl rfl ?_
  refine R_iload_n rfl rfl ?_
  refine R_cVxP (k := 0) (as := [.int a1, .int a2, .int a3]) rfl rfl iv_D_relationMod hD (by decide) rfl rfl tk_0 (by decide) rfl rfl (Nat.le_of_ble_eq_true rfl) (fun σ1 q => ?_)
  refine Rx_catch (i := 5) (hh := [(0, 12, 15, 28), (0, 12, 19, 19), (0, 12, 23, 64)]) rfl [⟨0, 12, 15, 28⟩, ⟨0, 12, 19, 19⟩] [] ⟨0, 12, 23, 64⟩ rfl (fun z hz => by
    rcases List.mem_cons.mp hz with rfl | hz
    · exact Or.inr ⟨by decide, "java/lang/IndexOutOfBoundsException", lk_28, List.mem_of_getElem? (i := 1) rfl⟩
    rcases List.mem_cons.mp hz with rfl | hz
    · exact Or.inr ⟨by decide, "java/lang/IllegalArgumentException", lk_19, List.mem_of_getElem? (i := 3) rfl⟩
    cases hz) (by decide) (by decide) lk_64 ck_64 (Or.inl ⟨rfl, rfl⟩) (by decide) ?_
  refine R_iconst (v := 3) rfl rfl ?_
  exact T_ireturn rfl rfl ⟨σ1, rfl, q⟩
theorem lok_weight {σ : am_G} {a1 : Int32} {b : Int64} {P : am_G → Prop} (hD : am_Call am_TX 8 0 c_D_weight [.ref 0, .int a1] (mm σ) (am_Ok (some (.long b)) P)) : am_Call am_TX 9 0 c_L_weight [.ref 0, .int a1, .ref 132] (mm σ) (am_Ok (some (.int 0)) (fun σ2 => ∃ σ1, P σ1 ∧ σ2 = sL σ1 132 0 (b))) := by
  refine ⟨mf_L_weight, Nat.le_of_ble_eq_true rfl, ?_⟩
  show am_R _ _ _ _ 0 [some (.ref 0), some (.int a1), some (.ref 132), none] [] _ _
  refine R_aload_n rfl rfl ?_
  refine R_iconst (v := 0) rfl rfl ?_
  refine R_aload_n rfl rfl ?_
  refine R_iload_n rfl rfl ?_
  refine R_cV (as := [.int a1]) rfl rfl iv_D_weight hD (by decide) rfl rfl tk_0 (by decide) rfl rfl (Nat.le_of_ble_eq_true rfl) (fun σ1 q => ?_)
  refine R_wL (j := 0) rfl tk_132 rfl (by decide) (by decide) ?_
  refine R_goto rfl rfl ?_
  refine R_iconst (v := 0) rfl rfl ?_
  exact T_ireturn rfl rfl ⟨_, rfl, σ1, q, rfl⟩
theorem lth_weight_1 {σ : am_G} {a1 : Int32} {P : am_G → Prop} (hD : am_Call am_TX 8 1 c_D_weight [.ref 0, .int a1] (mm σ) (am_ThP "java/lang/IndexOutOfBoundsException" P)) : am_Call am_TX 9 1 c_L_weight [.ref 0, .int a1, .ref 132] (mm σ) (am_Ok (some (.int 1)) P) := by
  refine ⟨mf_L_weight, Nat.le_of_ble_eq_true rfl, ?_⟩
  show am_R _ _ _ _ 0 [some (.ref 0), some (.int a1), some (.ref 132), none] [] _ _
  refine R_aload_n rfl rfl ?_
  refine R_iconst (v := 0) rfl rfl ?_
  refine R_aload_n rfl rfl ?_
  refine R_iload_n rfl rfl ?_
  refine R_cVxP (k := 0) (as := [.int a1]) rfl rfl iv_D_weight hD (by decide) rfl rfl tk_0 (by decide) rfl rfl (Nat.le_of_ble_eq_true rfl) (fun σ1 q => ?_)
  refine Rx_catch (i := 3) (hh := [(0, 8, 11, 28), (0, 8, 14, 64)]) rfl [] [⟨0, 8, 14, 64⟩] ⟨0, 8, 11, 28⟩ rfl (fun z hz => by cases hz) (by decide) (by decide) lk_28 ck_28 (Or.inr ⟨⟨3, rfl, rfl⟩, rfl⟩) (by decide) ?_
  refine R_iconst (v := 1) rfl rfl ?_
  exact T_ireturn rfl rfl ⟨σ1, rfl, q⟩
theorem lth_weight_2 {σ : am_G} {a1 : Int32} {P : am_G → Prop} (hD : am_Call am_TX 8 1 c_D_weight [.ref 0, .int a1] (mm σ) (am_ThP "java/util/NoSuchElementException" P)) : am_Call am_TX 9 1 c_L_weight [.ref 0, .int a1, .ref 132] (mm σ) (am_Ok (some (.int 2)) P) := by
  refine ⟨mf_L_weight, Nat.le_of_ble_eq_true rfl, ?_⟩
  show am_R _ _ _ _ 0 [some (.ref 0), some (.int a1), some (.ref 132), none] [] _ _
  refine R_aload_n rfl rfl ?_
  refine R_iconst (v := 0) rfl rfl ?_
  refine R_aload_n rfl rfl ?_
  refine R_iload_n rfl rfl ?_
  refine R_cVxP (k := 0) (as := [.int a1]) rfl rfl iv_D_weight hD (by decide) rfl rfl tk_0 (by decide) rfl rfl (Nat.le_of_ble_eq_true rfl) (fun σ1 q => ?_)
  refine Rx_catch (i := 3) (hh := [(0, 8, 11, 28), (0, 8, 14, 64)]) rfl [⟨0, 8, 11, 28⟩] [] ⟨0, 8, 14, 64⟩ rfl (fun z hz => by
    rcases List.mem_cons.mp hz with rfl | hz
    · exact Or.inr ⟨by decide, "java/lang/IndexOutOfBoundsException", lk_28, List.mem_of_getElem? (i := 1) rfl⟩
    cases hz) (by decide) (by decide) lk_64 ck_64 (Or.inr ⟨⟨3, rfl, rfl⟩, rfl⟩) (by decide) ?_
  refine R_iconst (v := 2) rfl rfl ?_
  exact T_ireturn rfl rfl ⟨σ1, rfl, q⟩
theorem lok_nullity {σ : am_G} {a1 : Int32} {b : Int32} {P : am_G → Prop} (hD : am_Call am_TX 8 0 c_D_nullity [.ref 0, .int a1] (mm σ) (am_Ok (some (.int b)) P)) : am_Call am_TX 9 0 c_L_nullity [.ref 0, .int a1, .ref 132] (mm σ) (am_Ok (some (.int 0)) (fun σ2 => ∃ σ1, P σ1 ∧ σ2 = sL σ1 132 0 (b.toInt64))) := by
  refine ⟨mf_L_nullity, Nat.le_of_ble_eq_true rfl, ?_⟩
  show am_R _ _ _ _ 0 [some (.ref 0), some (.int a1), some (.ref 132), none] [] _ _
  refine R_aload_n rfl rfl ?_
  refine R_iconst (v := 0) rfl rfl ?_
  refine R_aload_n rfl rfl ?_
  refine R_iload_n rfl rfl ?_
  refine R_cV (as := [.int a1]) rfl rfl iv_D_nullity hD (by decide) rfl rfl tk_0 (by decide) rfl rfl (Nat.le_of_ble_eq_true rfl) (fun σ1 q => ?_)
  refine R_i2l rfl ?_
  refine R_wL (j := 0) rfl tk_132 rfl (by decide) (by decide) ?_
  refine R_goto rfl rfl ?_
  refine R_iconst (v := 0) rfl rfl ?_
  exact T_ireturn rfl rfl ⟨_, rfl, σ1, q, rfl⟩
theorem lth_nullity_1 {σ : am_G} {a1 : Int32} {P : am_G → Prop} (hD : am_Call am_TX 8 1 c_D_nullity [.ref 0, .int a1] (mm σ) (am_ThP "java/lang/IllegalArgumentException" P)) : am_Call am_TX 9 1 c_L_nullity [.ref 0, .int a1, .ref 132] (mm σ) (am_Ok (some (.int 1)) P) := by
  refine ⟨mf_L_nullity, Nat.le_of_ble_eq_true rfl, ?_⟩
  show am_R _ _ _ _ 0 [some (.ref 0), some (.int a1), some (.ref 132), none] [] _ _
  refine R_aload_n rfl rfl ?_
  refine R_iconst (v := 0) rfl rfl ?_
  refine R_aload_n rfl rfl ?_
  refine R_iload_n rfl rfl ?_
  refine R_cVxP (k := 0) (as := [.int a1]) rfl rfl iv_D_nullity hD (by decide) rfl rfl tk_0 (by decide) rfl rfl (Nat.le_of_ble_eq_true rfl) (fun σ1 q => ?_)
  refine Rx_catch (i := 3) (hh := [(0, 9, 12, 19)]) rfl [] [] ⟨0, 9, 12, 19⟩ rfl (fun z hz => by cases hz) (by decide) (by decide) lk_19 ck_19 (Or.inr ⟨⟨3, rfl, rfl⟩, rfl⟩) (by decide) ?_
  refine R_iconst (v := 1) rfl rfl ?_
  exact T_ireturn rfl rfl ⟨σ1, rfl, q⟩
theorem lok_isNeeded {σ : am_G} {a1 a2 : Int32} {b : Int32} {P : am_G → Prop} (hD : am_Call am_TX 8 0 c_D_isNeeded [.ref 0, .int a1, .int a2] (mm σ) (am_Ok (some (.int b)) P)) : am_Call am_TX 9 0 c_L_isNeeded [.ref 0, .int a1, .int a2, .ref 132] (mm σ) (am_Ok (some (.int 0)) (fun σ2 => ∃ σ1, P σ1 ∧ σ2 = sL σ1 132 0 (gB b))) := by
  refine ⟨mf_L_isNeeded, Nat.le_of_ble_eq_true rfl, ?_⟩
  show am_R _ _ _ _ 0 [some (.ref 0), some (.int a1), some (.int a2), some (.ref 132), none] [] _ _
  refine R_aload_n rfl rfl ?_
  refine R_iconst (v := 0) rfl rfl ?_
  refine R_aload_n rfl rfl ?_
  refine R_iload_n rfl rfl ?_
  refine R_iload_n rfl rfl ?_
  refine R_cV (as := [.int a1, .int a2]) rfl rfl iv_D_isNeeded hD (by decide) rfl rfl tk_0 (by decide) rfl rfl (Nat.le_of_ble_eq_true rfl) (fun σ1 q => ?_)
  refine R_if_eq rfl rfl (fun hz => ?_) (fun hz => ?_)
  · refine R_lconst (v := 0) rfl rfl ?_
    refine R_wL (j := 0) rfl tk_132 rfl (by decide) (by decide) ?_
    refine R_goto rfl rfl ?_
    refine R_iconst (v := 0) rfl rfl ?_
    exact T_ireturn rfl rfl ⟨_, rfl, σ1, q, by rw [gB, if_pos hz]⟩
  · refine R_lconst (v := 1) rfl rfl ?_
    refine R_goto rfl rfl ?_
    refine R_wL (j := 0) rfl tk_132 rfl (by decide) (by decide) ?_
    refine R_goto rfl rfl ?_
    refine R_iconst (v := 0) rfl rfl ?_
    exact T_ireturn rfl rfl ⟨_, rfl, σ1, q, by rw [gB, if_neg hz]⟩
theorem lth_isNeeded_1 {σ : am_G} {a1 a2 : Int32} {P : am_G → Prop} (hD : am_Call am_TX 8 1 c_D_isNeeded [.ref 0, .int a1, .int a2] (mm σ) (am_ThP "java/lang/IndexOutOfBoundsException" P)) : am_Call am_TX 9 1 c_L_isNeeded [.ref 0, .int a1, .int a2, .ref 132] (mm σ) (am_Ok (some (.int 1)) P) := by
  refine ⟨mf_L_isNeeded, Nat.le_of_ble_eq_true rfl, ?_⟩
  show am_R _ _ _ _ 0 [some (.ref 0), some (.int a1), some (.int a2), some (.ref 132), none] [] _ _
  refine R_aload_n rfl rfl ?_
  refine R_iconst (v := 0) rfl rfl ?_
  refine R_aload_n rfl rfl ?_
  refine R_iload_n rfl rfl ?_
  refine R_iload_n rfl rfl ?_
  refine R_cVxP (k := 0) (as := [.int a1, .int a2]) rfl rfl iv_D_isNeeded hD (by decide) rfl rfl tk_0 (by decide) rfl rfl (Nat.le_of_ble_eq_true rfl) (fun σ1 q => ?_)
  refine Rx_catch (i := 4) (hh := [(0, 17, 20, 28), (0, 17, 24, 19)]) rfl [] [⟨0, 17, 24, 19⟩] ⟨0, 17, 20, 28⟩ rfl (fun z hz => by cases hz) (by decide) (by decide) lk_28 ck_28 (Or.inl ⟨rfl, rfl⟩) (by decide) ?_
  refine R_iconst (v := 1) rfl rfl ?_
  exact T_ireturn rfl rfl ⟨σ1, rfl, q⟩
theorem lth_isNeeded_2 {σ : am_G} {a1 a2 : Int32} {P : am_G → Prop} (hD : am_Call am_TX 8 1 c_D_isNeeded [.ref 0, .int a1, .int a2] (mm σ) (am_ThP "java/lang/IllegalArgumentException" P)) : am_Call am_TX 9 1 c_L_isNeeded [.ref 0, .int a1, .int a2, .ref 132] (mm σ) (am_Ok (some (.int 2)) P) := by
  refine ⟨mf_L_isNeeded, Nat.le_of_ble_eq_true rfl, ?_⟩
  show am_R _ _ _ _ 0 [some (.ref 0), some (.int a1), some (.int a2), some (.ref 132), none] [] _ _
  refine R_aload_n rfl rfl ?_
  refine R_iconst (v := 0) rfl rfl ?_
  refine R_aload_n rfl rfl ?_
  refine R_iload_n rfl rfl ?_
  refine R_iload_n rfl rfl ?_
  refine R_cVxP (k := 0) (as := [.int a1, .int a2]) rfl rfl iv_D_isNeeded hD (by decide) rfl rfl tk_0 (by decide) rfl rfl (Nat.le_of_ble_eq_true rfl) (fun σ1 q => ?_)
  refine Rx_catch (i := 4) (hh := [(0, 17, 20, 28), (0, 17, 24, 19)]) rfl [⟨0, 17, 20, 28⟩] [] ⟨0, 17, 24, 19⟩ rfl (fun z hz => by
    rcases List.mem_cons.mp hz with rfl | hz
    · exact Or.inr ⟨by decide, "java/lang/IndexOutOfBoundsException", lk_28, List.mem_of_getElem? (i := 0) rfl⟩
    cases hz) (by decide) (by decide) lk_19 ck_19 (Or.inl ⟨rfl, rfl⟩) (by decide) ?_
  refine R_iconst (v := 2) rfl rfl ?_
  exact T_ireturn rfl rfl ⟨σ1, rfl, q⟩
theorem lok_areIndependent {σ : am_G} {a1 a2 : Int32} {b : Int32} {P : am_G → Prop} (hD : am_Call am_TX 8 0 c_D_areIndependent [.ref 0, .int a1, .int a2] (mm σ) (am_Ok (some (.int b)) P)) : am_Call am_TX 9 0 c_L_areIndependent [.ref 0, .int a1, .int a2, .ref 132] (mm σ) (am_Ok (some (.int 0)) (fun σ2 => ∃ σ1, P σ1 ∧ σ2 = sL σ1 132 0 (gB b))) := by
  refine ⟨mf_L_areIndependent, Nat.le_of_ble_eq_true rfl, ?_⟩
  show am_R _ _ _ _ 0 [some (.ref 0), some (.int a1), some (.int a2), some (.ref 132), none] [] _ _
  refine R_aload_n rfl rfl ?_
  refine R_iconst (v := 0) rfl rfl ?_
  refine R_aload_n rfl rfl ?_
  refine R_iload_n rfl rfl ?_
  refine R_iload_n rfl rfl ?_
  refine R_cV (as := [.int a1, .int a2]) rfl rfl iv_D_areIndependent hD (by decide) rfl rfl tk_0 (by decide) rfl rfl (Nat.le_of_ble_eq_true rfl) (fun σ1 q => ?_)
  refine R_if_eq rfl rfl (fun hz => ?_) (fun hz => ?_)
  · refine R_lconst (v := 0) rfl rfl ?_
    refine R_wL (j := 0) rfl tk_132 rfl (by decide) (by decide) ?_
    refine R_goto rfl rfl ?_
    refine R_iconst (v := 0) rfl rfl ?_
    exact T_ireturn rfl rfl ⟨_, rfl, σ1, q, by rw [gB, if_pos hz]⟩
  · refine R_lconst (v := 1) rfl rfl ?_
    refine R_goto rfl rfl ?_
    refine R_wL (j := 0) rfl tk_132 rfl (by decide) (by decide) ?_
    refine R_goto rfl rfl ?_
    refine R_iconst (v := 0) rfl rfl ?_
    exact T_ireturn rfl rfl ⟨_, rfl, σ1, q, by rw [gB, if_neg hz]⟩
theorem lth_areIndependent_1 {σ : am_G} {a1 a2 : Int32} {P : am_G → Prop} (hD : am_Call am_TX 8 1 c_D_areIndependent [.ref 0, .int a1, .int a2] (mm σ) (am_ThP "java/lang/IllegalArgumentException" P)) : am_Call am_TX 9 1 c_L_areIndependent [.ref 0, .int a1, .int a2, .ref 132] (mm σ) (am_Ok (some (.int 1)) P) := by
  refine ⟨mf_L_areIndependent, Nat.le_of_ble_eq_true rfl, ?_⟩
  show am_R _ _ _ _ 0 [some (.ref 0), some (.int a1), some (.int a2), some (.ref 132), none] [] _ _
  refine R_aload_n rfl rfl ?_
  refine R_iconst (v := 0) rfl rfl ?_
  refine R_aload_n rfl rfl ?_
  refine R_iload_n rfl rfl ?_
  refine R_iload_n rfl rfl ?_
  refine R_cVxP (k := 0) (as := [.int a1, .int a2]) rfl rfl iv_D_areIndependent hD (by decide) rfl rfl tk_0 (by decide) rfl rfl (Nat.le_of_ble_eq_true rfl) (fun σ1 q => ?_)
  refine Rx_catch (i := 4) (hh := [(0, 17, 20, 19)]) rfl [] [] ⟨0, 17, 20, 19⟩ rfl (fun z hz => by cases hz) (by decide) (by decide) lk_19 ck_19 (Or.inl ⟨rfl, rfl⟩) (by decide) ?_
  refine R_iconst (v := 1) rfl rfl ?_
  exact T_ireturn rfl rfl ⟨σ1, rfl, q⟩
theorem lok_bases {σ : am_G} {a1 : Int32} {b : Int32} {P : am_G → Prop} (hD : am_Call am_TX 8 0 c_D_bases [.ref 0, .int a1] (mm σ) (am_Ok (some (.int b)) P)) : am_Call am_TX 9 0 c_L_bases [.ref 0, .int a1, .ref 132] (mm σ) (am_Ok (some (.int 0)) (fun σ2 => ∃ σ1, P σ1 ∧ σ2 = sL σ1 132 0 (b.toInt64))) := by
  refine ⟨mf_L_bases, Nat.le_of_ble_eq_true rfl, ?_⟩
  show am_R _ _ _ _ 0 [some (.ref 0), some (.int a1), some (.ref 132), none] [] _ _
  refine R_aload_n rfl rfl ?_
  refine R_iconst (v := 0) rfl rfl ?_
  refine R_aload_n rfl rfl ?_
  refine R_iload_n rfl rfl ?_
  refine R_cV (as := [.int a1]) rfl rfl iv_D_bases hD (by decide) rfl rfl tk_0 (by decide) rfl rfl (Nat.le_of_ble_eq_true rfl) (fun σ1 q => ?_)
  refine R_i2l rfl ?_
  refine R_wL (j := 0) rfl tk_132 rfl (by decide) (by decide) ?_
  refine R_goto rfl rfl ?_
  refine R_iconst (v := 0) rfl rfl ?_
  exact T_ireturn rfl rfl ⟨_, rfl, σ1, q, rfl⟩
theorem lth_bases_1 {σ : am_G} {a1 : Int32} {P : am_G → Prop} (hD : am_Call am_TX 8 1 c_D_bases [.ref 0, .int a1] (mm σ) (am_ThP "java/lang/IllegalArgumentException" P)) : am_Call am_TX 9 1 c_L_bases [.ref 0, .int a1, .ref 132] (mm σ) (am_Ok (some (.int 1)) P) := by
  refine ⟨mf_L_bases, Nat.le_of_ble_eq_true rfl, ?_⟩
  show am_R _ _ _ _ 0 [some (.ref 0), some (.int a1), some (.ref 132), none] [] _ _
  refine R_aload_n rfl rfl ?_
  refine R_iconst (v := 0) rfl rfl ?_
  refine R_aload_n rfl rfl ?_
  refine R_iload_n rfl rfl ?_
  refine R_cVxP (k := 0) (as := [.int a1]) rfl rfl iv_D_bases hD (by decide) rfl rfl tk_0 (by decide) rfl rfl (Nat.le_of_ble_eq_true rfl) (fun σ1 q => ?_)
  refine Rx_catch (i := 3) (hh := [(0, 9, 12, 19)]) rfl [] [] ⟨0, 9, 12, 19⟩ rfl (fun z hz => by cases hz) (by decide) (by decide) lk_19 ck_19 (Or.inr ⟨⟨3, rfl, rfl⟩, rfl⟩) (by decide) ?_
  refine R_iconst (v := 1) rfl rfl ?_
  exact T_ireturn rfl rfl ⟨σ1, rfl, q⟩
theorem lok_extensions {σ : am_G} {a1 a2 : Int32} {b : Int32} {P : am_G → Prop} (hD : am_Call am_TX 8 0 c_D_extensions [.ref 0, .int a1, .int a2] (mm σ) (am_Ok (some (.int b)) P)) : am_Call am_TX 9 0 c_L_extensions [.ref 0, .int a1, .int a2, .ref 132] (mm σ) (am_Ok (some (.int 0)) (fun σ2 => ∃ σ1, P σ1 ∧ σ2 = sL σ1 132 0 (b.toInt64))) := by
  refine ⟨mf_L_extensions, Nat.le_of_ble_eq_true rfl, ?_⟩
  show am_R _ _ _ _ 0 [some (.ref 0), some (.int a1), some (.int a2), some (.ref 132), none] [] _ _
  refine R_aload_n rfl rfl ?_
  refine R_iconst (v := 0) rfl rfl ?_
  refine R_aload_n rfl rfl ?_
  refine R_iload_n rfl rfl ?_
  refine R_iload_n rfl rfl ?_
  refine R_cV (as := [.int a1, .int a2]) rfl rfl iv_D_extensions hD (by decide) rfl rfl tk_0 (by decide) rfl rfl (Nat.le_of_ble_eq_true rfl) (fun σ1 q => ?_)
  refine R_i2l rfl ?_
  refine R_wL (j := 0) rfl tk_132 rfl (by decide) (by decide) ?_
  refine R_goto rfl rfl ?_
  refine R_iconst (v := 0) rfl rfl ?_
  exact T_ireturn rfl rfl ⟨_, rfl, σ1, q, rfl⟩
theorem lth_extensions_1 {σ : am_G} {a1 a2 : Int32} {P : am_G → Prop} (hD : am_Call am_TX 8 1 c_D_extensions [.ref 0, .int a1, .int a2] (mm σ) (am_ThP "java/lang/IllegalArgumentException" P)) : am_Call am_TX 9 1 c_L_extensions [.ref 0, .int a1, .int a2, .ref 132] (mm σ) (am_Ok (some (.int 1)) P) := by
  refine ⟨mf_L_extensions, Nat.le_of_ble_eq_true rfl, ?_⟩
  show am_R _ _ _ _ 0 [some (.ref 0), some (.int a1), some (.int a2), some (.ref 132), none] [] _ _
  refine R_aload_n rfl rfl ?_
  refine R_iconst (v := 0) rfl rfl ?_
  refine R_aload_n rfl rfl ?_
  refine R_iload_n rfl rfl ?_
  refine R_iload_n rfl rfl ?_
  refine R_cVxP (k := 0) (as := [.int a1, .int a2]) rfl rfl iv_D_extensions hD (by decide) rfl rfl tk_0 (by decide) rfl rfl (Nat.le_of_ble_eq_true rfl) (fun σ1 q => ?_)
  refine Rx_catch (i := 4) (hh := [(0, 10, 13, 19)]) rfl [] [] ⟨0, 10, 13, 19⟩ rfl (fun z hz => by cases hz) (by decide) (by decide) lk_19 ck_19 (Or.inl ⟨rfl, rfl⟩) (by decide) ?_
  refine R_iconst (v := 1) rfl rfl ?_
  exact T_ireturn rfl rfl ⟨σ1, rfl, q⟩
theorem lok_closure {σ : am_G} {a1 a2 : Int32} {b : Int32} {P : am_G → Prop} (hD : am_Call am_TX 8 0 c_D_closure [.ref 0, .int a1, .int a2] (mm σ) (am_Ok (some (.int b)) P)) : am_Call am_TX 9 0 c_L_closure [.ref 0, .int a1, .int a2, .ref 132] (mm σ) (am_Ok (some (.int 0)) (fun σ2 => ∃ σ1, P σ1 ∧ σ2 = sL σ1 132 0 (b.toInt64))) := by
  refine ⟨mf_L_closure, Nat.le_of_ble_eq_true rfl, ?_⟩
  show am_R _ _ _ _ 0 [some (.ref 0), some (.int a1), some (.int a2), some (.ref 132), none] [] _ _
  refine R_aload_n rfl rfl ?_
  refine R_iconst (v := 0) rfl rfl ?_
  refine R_aload_n rfl rfl ?_
  refine R_iload_n rfl rfl ?_
  refine R_iload_n rfl rfl ?_
  refine R_cV (as := [.int a1, .int a2]) rfl rfl iv_D_closure hD (by decide) rfl rfl tk_0 (by decide) rfl rfl (Nat.le_of_ble_eq_true rfl) (fun σ1 q => ?_)
  refine R_i2l rfl ?_
  refine R_wL (j := 0) rfl tk_132 rfl (by decide) (by decide) ?_
  refine R_goto rfl rfl ?_
  refine R_iconst (v := 0) rfl rfl ?_
  exact T_ireturn rfl rfl ⟨_, rfl, σ1, q, rfl⟩
theorem lth_closure_1 {σ : am_G} {a1 a2 : Int32} {P : am_G → Prop} (hD : am_Call am_TX 8 1 c_D_closure [.ref 0, .int a1, .int a2] (mm σ) (am_ThP "java/lang/IllegalArgumentException" P)) : am_Call am_TX 9 1 c_L_closure [.ref 0, .int a1, .int a2, .ref 132] (mm σ) (am_Ok (some (.int 1)) P) := by
  refine ⟨mf_L_closure, Nat.le_of_ble_eq_true rfl, ?_⟩
  show am_R _ _ _ _ 0 [some (.ref 0), some (.int a1), some (.int a2), some (.ref 132), none] [] _ _
  refine R_aload_n rfl rfl ?_
  refine R_iconst (v := 0) rfl rfl ?_
  refine R_aload_n rfl rfl ?_
  refine R_iload_n rfl rfl ?_
  refine R_iload_n rfl rfl ?_
  refine R_cVxP (k := 0) (as := [.int a1, .int a2]) rfl rfl iv_D_closure hD (by decide) rfl rfl tk_0 (by decide) rfl rfl (Nat.le_of_ble_eq_true rfl) (fun σ1 q => ?_)
  refine Rx_catch (i := 4) (hh := [(0, 10, 13, 19)]) rfl [] [] ⟨0, 10, 13, 19⟩ rfl (fun z hz => by cases hz) (by decide) (by decide) lk_19 ck_19 (Or.inl ⟨rfl, rfl⟩) (by decide) ?_
  refine R_iconst (v := 1) rfl rfl ?_
  exact T_ireturn rfl rfl ⟨σ1, rfl, q⟩
theorem lok_invariant {σ : am_G} {a1 : Int32} {b : Int64} {P : am_G → Prop} (hD : am_Call am_TX 8 0 c_D_invariant [.ref 0, .int a1] (mm σ) (am_Ok (some (.long b)) P)) : am_Call am_TX 9 0 c_L_invariant [.ref 0, .int a1, .ref 132] (mm σ) (am_Ok (some (.int 0)) (fun σ2 => ∃ σ1, P σ1 ∧ σ2 = sL σ1 132 0 (b))) := by
  refine ⟨mf_L_invariant, Nat.le_of_ble_eq_true rfl, ?_⟩
  show am_R _ _ _ _ 0 [some (.ref 0), some (.int a1), some (.ref 132), none] [] _ _
  refine R_aload_n rfl rfl ?_
  refine R_iconst (v := 0) rfl rfl ?_
  refine R_aload_n rfl rfl ?_
  refine R_iload_n rfl rfl ?_
  refine R_cV (as := [.int a1]) rfl rfl iv_D_invariant hD (by decide) rfl rfl tk_0 (by decide) rfl rfl (Nat.le_of_ble_eq_true rfl) (fun σ1 q => ?_)
  refine R_wL (j := 0) rfl tk_132 rfl (by decide) (by decide) ?_
  refine R_goto rfl rfl ?_
  refine R_iconst (v := 0) rfl rfl ?_
  exact T_ireturn rfl rfl ⟨_, rfl, σ1, q, rfl⟩
theorem lth_invariant_1 {σ : am_G} {a1 : Int32} {P : am_G → Prop} (hD : am_Call am_TX 8 1 c_D_invariant [.ref 0, .int a1] (mm σ) (am_ThP "java/lang/IllegalArgumentException" P)) : am_Call am_TX 9 1 c_L_invariant [.ref 0, .int a1, .ref 132] (mm σ) (am_Ok (some (.int 1)) P) := by
  refine ⟨mf_L_invariant, Nat.le_of_ble_eq_true rfl, ?_⟩
  show am_R _ _ _ _ 0 [some (.ref 0), some (.int a1), some (.ref 132), none] [] _ _
  refine R_aload_n rfl rfl ?_
  refine R_iconst (v := 0) rfl rfl ?_
  refine R_aload_n rfl rfl ?_
  refine R_iload_n rfl rfl ?_
  refine R_cVxP (k := 0) (as := [.int a1]) rfl rfl iv_D_invariant hD (by decide) rfl rfl tk_0 (by decide) rfl rfl (Nat.le_of_ble_eq_true rfl) (fun σ1 q => ?_)
  refine Rx_catch (i := 3) (hh := [(0, 8, 11, 19)]) rfl [] [] ⟨0, 8, 11, 19⟩ rfl (fun z hz => by cases hz) (by decide) (by decide) lk_19 ck_19 (Or.inr ⟨⟨3, rfl, rfl⟩, rfl⟩) (by decide) ?_
  refine R_iconst (v := 1) rfl rfl ?_
  exact T_ireturn rfl rfl ⟨σ1, rfl, q⟩
theorem lok_circuits {σ : am_G} {a1 : Int32} {b : Int32} {P : am_G → Prop} (hD : am_Call am_TX 8 0 c_D_circuits [.ref 0, .int a1] (mm σ) (am_Ok (some (.int b)) P)) : am_Call am_TX 9 0 c_L_circuits [.ref 0, .int a1, .ref 132] (mm σ) (am_Ok (some (.int 0)) (fun σ2 => ∃ σ1, P σ1 ∧ σ2 = sL σ1 132 0 (b.toInt64))) := by
  refine ⟨mf_L_circuits, Nat.le_of_ble_eq_true rfl, ?_⟩
  show am_R _ _ _ _ 0 [some (.ref 0), some (.int a1), some (.ref 132), none] [] _ _
  refine R_aload_n rfl rfl ?_
  refine R_iconst (v := 0) rfl rfl ?_
  refine R_aload_n rfl rfl ?_
  refine R_iload_n rfl rfl ?_
  refine R_cV (as := [.int a1]) rfl rfl iv_D_circuits hD (by decide) rfl rfl tk_0 (by decide) rfl rfl (Nat.le_of_ble_eq_true rfl) (fun σ1 q => ?_)
  refine R_i2l rfl ?_
  refine R_wL (j := 0) rfl tk_132 rfl (by decide) (by decide) ?_
  refine R_goto rfl rfl ?_
  refine R_iconst (v := 0) rfl rfl ?_
  exact T_ireturn rfl rfl ⟨_, rfl, σ1, q, rfl⟩
theorem lth_circuits_1 {σ : am_G} {a1 : Int32} {P : am_G → Prop} (hD : am_Call am_TX 8 1 c_D_circuits [.ref 0, .int a1] (mm σ) (am_ThP "java/lang/IllegalArgumentException" P)) : am_Call am_TX 9 1 c_L_circuits [.ref 0, .int a1, .ref 132] (mm σ) (am_Ok (some (.int 1)) P) := by
  refine ⟨mf_L_circuits, Nat.le_of_ble_eq_true rfl, ?_⟩
  show am_R _ _ _ _ 0 [some (.ref 0), some (.int a1), some (.ref 132), none] [] _ _
  refine R_aload_n rfl rfl ?_
  refine R_iconst (v := 0) rfl rfl ?_
  refine R_aload_n rfl rfl ?_
  refine R_iload_n rfl rfl ?_
  refine R_cVxP (k := 0) (as := [.int a1]) rfl rfl iv_D_circuits hD (by decide) rfl rfl tk_0 (by decide) rfl rfl (Nat.le_of_ble_eq_true rfl) (fun σ1 q => ?_)
  refine Rx_catch (i := 3) (hh := [(0, 9, 12, 19)]) rfl [] [] ⟨0, 9, 12, 19⟩ rfl (fun z hz => by cases hz) (by decide) (by decide) lk_19 ck_19 (Or.inr ⟨⟨3, rfl, rfl⟩, rfl⟩) (by decide) ?_
  refine R_iconst (v := 1) rfl rfl ?_
  exact T_ireturn rfl rfl ⟨σ1, rfl, q⟩
theorem lok_circuit {σ : am_G} {a1 a2 : Int32} {b : Int32} {P : am_G → Prop} (hD : am_Call am_TX 8 0 c_D_circuit [.ref 0, .int a1, .int a2] (mm σ) (am_Ok (some (.int b)) P)) : am_Call am_TX 9 0 c_L_circuit [.ref 0, .int a1, .int a2, .ref 132] (mm σ) (am_Ok (some (.int 0)) (fun σ2 => ∃ σ1, P σ1 ∧ σ2 = sL σ1 132 0 (b.toInt64))) := by
  refine ⟨mf_L_circuit, Nat.le_of_ble_eq_true rfl, ?_⟩
  show am_R _ _ _ _ 0 [some (.ref 0), some (.int a1), some (.int a2), some (.ref 132), none] [] _ _
  refine R_aload_n rfl rfl ?_
  refine R_iconst (v := 0) rfl rfl ?_
  refine R_aload_n rfl rfl ?_
  refine R_iload_n rfl rfl ?_
  refine R_iload_n rfl rfl ?_
  refine R_cV (as := [.int a1, .int a2]) rfl rfl iv_D_circuit hD (by decide) rfl rfl tk_0 (by decide) rfl rfl (Nat.le_of_ble_eq_true rfl) (fun σ1 q => ?_)
  refine R_i2l rfl ?_
  refine R_wL (j := 0) rfl tk_132 rfl (by decide) (by decide) ?_
  refine R_goto rfl rfl ?_
  refine R_iconst (v := 0) rfl rfl ?_
  exact T_ireturn rfl rfl ⟨_, rfl, σ1, q, rfl⟩
theorem lth_circuit_1 {σ : am_G} {a1 a2 : Int32} {P : am_G → Prop} (hD : am_Call am_TX 8 1 c_D_circuit [.ref 0, .int a1, .int a2] (mm σ) (am_ThP "java/lang/IndexOutOfBoundsException" P)) : am_Call am_TX 9 1 c_L_circuit [.ref 0, .int a1, .int a2, .ref 132] (mm σ) (am_Ok (some (.int 1)) P) := by
  refine ⟨mf_L_circuit, Nat.le_of_ble_eq_true rfl, ?_⟩
  show am_R _ _ _ _ 0 [some (.ref 0), some (.int a1), some (.int a2), some (.ref 132), none] [] _ _
  refine R_aload_n rfl rfl ?_
  refine R_iconst (v := 0) rfl rfl ?_
  refine R_aload_n rfl rfl ?_
  refine R_iload_n rfl rfl ?_
  refine R_iload_n rfl rfl ?_
  refine R_cVxP (k := 0) (as := [.int a1, .int a2]) rfl rfl iv_D_circuit hD (by decide) rfl rfl tk_0 (by decide) rfl rfl (Nat.le_of_ble_eq_true rfl) (fun σ1 q => ?_)
  refine Rx_catch (i := 4) (hh := [(0, 10, 13, 28), (0, 10, 17, 19)]) rfl [] [⟨0, 10, 17, 19⟩] ⟨0, 10, 13, 28⟩ rfl (fun z hz => by cases hz) (by decide) (by decide) lk_28 ck_28 (Or.inl ⟨rfl, rfl⟩) (by decide) ?_
  refine R_iconst (v := 1) rfl rfl ?_
  exact T_ireturn rfl rfl ⟨σ1, rfl, q⟩
theorem lth_circuit_2 {σ : am_G} {a1 a2 : Int32} {P : am_G → Prop} (hD : am_Call am_TX 8 1 c_D_circuit [.ref 0, .int a1, .int a2] (mm σ) (am_ThP "java/lang/IllegalArgumentException" P)) : am_Call am_TX 9 1 c_L_circuit [.ref 0, .int a1, .int a2, .ref 132] (mm σ) (am_Ok (some (.int 2)) P) := by
  refine ⟨mf_L_circuit, Nat.le_of_ble_eq_true rfl, ?_⟩
  show am_R _ _ _ _ 0 [some (.ref 0), some (.int a1), some (.int a2), some (.ref 132), none] [] _ _
  refine R_aload_n rfl rfl ?_
  refine R_iconst (v := 0) rfl rfl ?_
  refine R_aload_n rfl rfl ?_
  refine R_iload_n rfl rfl ?_
  refine R_iload_n rfl rfl ?_
  refine R_cVxP (k := 0) (as := [.int a1, .int a2]) rfl rfl iv_D_circuit hD (by decide) rfl rfl tk_0 (by decide) rfl rfl (Nat.le_of_ble_eq_true rfl) (fun σ1 q => ?_)
  refine Rx_catch (i := 4) (hh := [(0, 10, 13, 28), (0, 10, 17, 19)]) rfl [⟨0, 10, 13, 28⟩] [] ⟨0, 10, 17, 19⟩ rfl (fun z hz => by
    rcases List.mem_cons.mp hz with rfl | hz
    · exact Or.inr ⟨by decide, "java/lang/IndexOutOfBoundsException", lk_28, List.mem_of_getElem? (i := 0) rfl⟩
    cases hz) (by decide) (by decide) lk_19 ck_19 (Or.inl ⟨rfl, rfl⟩) (by decide) ?_
  refine R_iconst (v := 2) rfl rfl ?_
  exact T_ireturn rfl rfl ⟨σ1, rfl, q⟩
theorem lok_spoils {σ : am_G} {a1 a2 : Int32} {b : Int32} {P : am_G → Prop} (hD : am_Call am_TX 8 0 c_D_spoils [.ref 0, .int a1, .int a2] (mm σ) (am_Ok (some (.int b)) P)) : am_Call am_TX 9 0 c_L_spoils [.ref 0, .int a1, .int a2, .ref 132] (mm σ) (am_Ok (some (.int 0)) (fun σ2 => ∃ σ1, P σ1 ∧ σ2 = sL σ1 132 0 (b.toInt64))) := by
  refine ⟨mf_L_spoils, Nat.le_of_ble_eq_true rfl, ?_⟩
  show am_R _ _ _ _ 0 [some (.ref 0), some (.int a1), some (.int a2), some (.ref 132), none] [] _ _
  refine R_aload_n rfl rfl ?_
  refine R_iconst (v := 0) rfl rfl ?_
  refine R_aload_n rfl rfl ?_
  refine R_iload_n rfl rfl ?_
  refine R_iload_n rfl rfl ?_
  refine R_cV (as := [.int a1, .int a2]) rfl rfl iv_D_spoils hD (by decide) rfl rfl tk_0 (by decide) rfl rfl (Nat.le_of_ble_eq_true rfl) (fun σ1 q => ?_)
  refine R_i2l rfl ?_
  refine R_wL (j := 0) rfl tk_132 rfl (by decide) (by decide) ?_
  refine R_goto rfl rfl ?_
  refine R_iconst (v := 0) rfl rfl ?_
  exact T_ireturn rfl rfl ⟨_, rfl, σ1, q, rfl⟩
theorem lth_spoils_1 {σ : am_G} {a1 a2 : Int32} {P : am_G → Prop} (hD : am_Call am_TX 8 1 c_D_spoils [.ref 0, .int a1, .int a2] (mm σ) (am_ThP "java/lang/IndexOutOfBoundsException" P)) : am_Call am_TX 9 1 c_L_spoils [.ref 0, .int a1, .int a2, .ref 132] (mm σ) (am_Ok (some (.int 1)) P) := by
  refine ⟨mf_L_spoils, Nat.le_of_ble_eq_true rfl, ?_⟩
  show am_R _ _ _ _ 0 [some (.ref 0), some (.int a1), some (.int a2), some (.ref 132), none] [] _ _
  refine R_aload_n rfl rfl ?_
  refine R_iconst (v := 0) rfl rfl ?_
  refine R_aload_n rfl rfl ?_
  refine R_iload_n rfl rfl ?_
  refine R_iload_n rfl rfl ?_
  refine R_cVxP (k := 0) (as := [.int a1, .int a2]) rfl rfl iv_D_spoils hD (by decide) rfl rfl tk_0 (by decide) rfl rfl (Nat.le_of_ble_eq_true rfl) (fun σ1 q => ?_)
  refine Rx_catch (i := 4) (hh := [(0, 10, 13, 28)]) rfl [] [] ⟨0, 10, 13, 28⟩ rfl (fun z hz => by cases hz) (by decide) (by decide) lk_28 ck_28 (Or.inl ⟨rfl, rfl⟩) (by decide) ?_
  refine R_iconst (v := 1) rfl rfl ?_
  exact T_ireturn rfl rfl ⟨σ1, rfl, q⟩
theorem lok_guessed {σ : am_G} {a1 a2 a3 : Int32} {b : Int64} {P : am_G → Prop} (hD : am_Call am_TX 8 0 c_D_guessed [.ref 0, .int a1, .int a2, .int a3] (mm σ) (am_Ok (some (.long b)) P)) : am_Call am_TX 9 0 c_L_guessed [.ref 0, .int a1, .int a2, .int a3, .ref 132] (mm σ) (am_Ok (some (.int 0)) (fun σ2 => ∃ σ1, P σ1 ∧ σ2 = sL σ1 132 0 (b))) := by
  refine ⟨mf_L_guessed, Nat.le_of_ble_eq_true rfl, ?_⟩
  show am_R _ _ _ _ 0 [some (.ref 0), some (.int a1), some (.int a2), some (.int a3), some (.ref 132), none] [] _ _
  refine R_aload rfl rfl ?_
  refine R_iconst (v := 0) rfl rfl ?_
  refine R_aload_n rfl rfl ?_
  refine R_iload_n rfl rfl ?_
  refine R_iload_n rfl rfl ?_
  refine R_iload_n rfl rfl ?_
  refine R_cV (as := [.int a1, .int a2, .int a3]) rfl rfl iv_D_guessed hD (by decide) rfl rfl tk_0 (by decide) rfl rfl (Nat.le_of_ble_eq_true rfl) (fun σ1 q => ?_)
  refine R_wL (j := 0) rfl tk_132 rfl (by decide) (by decide) ?_
  refine R_goto rfl rfl ?_
  refine R_iconst (v := 0) rfl rfl ?_
  exact T_ireturn rfl rfl ⟨_, rfl, σ1, q, rfl⟩
theorem lth_guessed_1 {σ : am_G} {a1 a2 a3 : Int32} {P : am_G → Prop} (hD : am_Call am_TX 8 1 c_D_guessed [.ref 0, .int a1, .int a2, .int a3] (mm σ) (am_ThP "java/lang/IllegalArgumentException" P)) : am_Call am_TX 9 1 c_L_guessed [.ref 0, .int a1, .int a2, .int a3, .ref 132] (mm σ) (am_Ok (some (.int 1)) P) := by
  refine ⟨mf_L_guessed, Nat.le_of_ble_eq_true rfl, ?_⟩
  show am_R _ _ _ _ 0 [some (.ref 0), some (.int a1), some (.int a2), some (.int a3), some (.ref 132), none] [] _ _
  refine R_aload rfl rfl ?_
  refine R_iconst (v := 0) rfl rfl ?_
  refine R_aload_n rfl rfl ?_
  refine R_iload_n rfl rfl ?_
  refine R_iload_n rfl rfl ?_
  refine R_iload_n rfl rfl ?_
  refine R_cVxP (k := 0) (as := [.int a1, .int a2, .int a3]) rfl rfl iv_D_guessed hD (by decide) rfl rfl tk_0 (by decide) rfl rfl (Nat.le_of_ble_eq_true rfl) (fun σ1 q => ?_)
  refine Rx_catch (i := 5) (hh := [(0, 11, 14, 19)]) rfl [] [] ⟨0, 11, 14, 19⟩ rfl (fun z hz => by cases hz) (by decide) (by decide) lk_19 ck_19 (Or.inl ⟨rfl, rfl⟩) (by decide) ?_
  refine R_iconst (v := 1) rfl rfl ?_
  exact T_ireturn rfl rfl ⟨σ1, rfl, q⟩
theorem lok_guess {σ : am_G} {a1 : Int32} {b : Int32} {P : am_G → Prop} (hD : am_Call am_TX 8 0 c_D_guess [.ref 0, .int a1] (mm σ) (am_Ok (some (.int b)) P)) : am_Call am_TX 9 0 c_L_guess [.ref 0, .int a1, .ref 132] (mm σ) (am_Ok (some (.int 0)) (fun σ2 => ∃ σ1, P σ1 ∧ σ2 = sL σ1 132 0 (b.toInt64))) := by
  refine ⟨mf_L_guess, Nat.le_of_ble_eq_true rfl, ?_⟩
  show am_R _ _ _ _ 0 [some (.ref 0), some (.int a1), some (.ref 132), none] [] _ _
  refine R_aload_n rfl rfl ?_
  refine R_iconst (v := 0) rfl rfl ?_
  refine R_aload_n rfl rfl ?_
  refine R_iload_n rfl rfl ?_
  refine R_cV (as := [.int a1]) rfl rfl iv_D_guess hD (by decide) rfl rfl tk_0 (by decide) rfl rfl (Nat.le_of_ble_eq_true rfl) (fun σ1 q => ?_)
  refine R_i2l rfl ?_
  refine R_wL (j := 0) rfl tk_132 rfl (by decide) (by decide) ?_
  refine R_goto rfl rfl ?_
  refine R_iconst (v := 0) rfl rfl ?_
  exact T_ireturn rfl rfl ⟨_, rfl, σ1, q, rfl⟩
theorem lth_guess_1 {σ : am_G} {a1 : Int32} {P : am_G → Prop} (hD : am_Call am_TX 8 1 c_D_guess [.ref 0, .int a1] (mm σ) (am_ThP "java/lang/IllegalArgumentException" P)) : am_Call am_TX 9 1 c_L_guess [.ref 0, .int a1, .ref 132] (mm σ) (am_Ok (some (.int 1)) P) := by
  refine ⟨mf_L_guess, Nat.le_of_ble_eq_true rfl, ?_⟩
  show am_R _ _ _ _ 0 [some (.ref 0), some (.int a1), some (.ref 132), none] [] _ _
  refine R_aload_n rfl rfl ?_
  refine R_iconst (v := 0) rfl rfl ?_
  refine R_aload_n rfl rfl ?_
  refine R_iload_n rfl rfl ?_
  refine R_cVxP (k := 0) (as := [.int a1]) rfl rfl iv_D_guess hD (by decide) rfl rfl tk_0 (by decide) rfl rfl (Nat.le_of_ble_eq_true rfl) (fun σ1 q => ?_)
  refine Rx_catch (i := 3) (hh := [(0, 9, 12, 19)]) rfl [] [] ⟨0, 9, 12, 19⟩ rfl (fun z hz => by cases hz) (by decide) (by decide) lk_19 ck_19 (Or.inr ⟨⟨3, rfl, rfl⟩, rfl⟩) (by decide) ?_
  refine R_iconst (v := 1) rfl rfl ?_
  exact T_ireturn rfl rfl ⟨σ1, rfl, q⟩
theorem lok_vector {σ : am_G} {a1 : Int32} {b : Int32} {P : am_G → Prop} (hD : am_Call am_TX 8 0 c_D_vector [.ref 0, .int a1] (mm σ) (am_Ok (some (.int b)) P)) : am_Call am_TX 9 0 c_L_vector [.ref 0, .int a1, .ref 132] (mm σ) (am_Ok (some (.int 0)) (fun σ2 => ∃ σ1, P σ1 ∧ σ2 = sL σ1 132 0 (b.toInt64))) := by
  refine ⟨mf_L_vector, Nat.le_of_ble_eq_true rfl, ?_⟩
  show am_R _ _ _ _ 0 [some (.ref 0), some (.int a1), some (.ref 132), none] [] _ _
  refine R_aload_n rfl rfl ?_
  refine R_iconst (v := 0) rfl rfl ?_
  refine R_aload_n rfl rfl ?_
  refine R_iload_n rfl rfl ?_
  refine R_cV (as := [.int a1]) rfl rfl iv_D_vector hD (by decide) rfl rfl tk_0 (by decide) rfl rfl (Nat.le_of_ble_eq_true rfl) (fun σ1 q => ?_)
  refine R_i2l rfl ?_
  refine R_wL (j := 0) rfl tk_132 rfl (by decide) (by decide) ?_
  refine R_goto rfl rfl ?_
  refine R_iconst (v := 0) rfl rfl ?_
  exact T_ireturn rfl rfl ⟨_, rfl, σ1, q, rfl⟩
theorem lth_vector_1 {σ : am_G} {a1 : Int32} {P : am_G → Prop} (hD : am_Call am_TX 8 1 c_D_vector [.ref 0, .int a1] (mm σ) (am_ThP "java/lang/IndexOutOfBoundsException" P)) : am_Call am_TX 9 1 c_L_vector [.ref 0, .int a1, .ref 132] (mm σ) (am_Ok (some (.int 1)) P) := by
  refine ⟨mf_L_vector, Nat.le_of_ble_eq_true rfl, ?_⟩
  show am_R _ _ _ _ 0 [some (.ref 0), some (.int a1), some (.ref 132), none] [] _ _
  refine R_aload_n rfl rfl ?_
  refine R_iconst (v := 0) rfl rfl ?_
  refine R_aload_n rfl rfl ?_
  refine R_iload_n rfl rfl ?_
  refine R_cVxP (k := 0) (as := [.int a1]) rfl rfl iv_D_vector hD (by decide) rfl rfl tk_0 (by decide) rfl rfl (Nat.le_of_ble_eq_true rfl) (fun σ1 q => ?_)
  refine Rx_catch (i := 3) (hh := [(0, 9, 12, 28)]) rfl [] [] ⟨0, 9, 12, 28⟩ rfl (fun z hz => by cases hz) (by decide) (by decide) lk_28 ck_28 (Or.inr ⟨⟨3, rfl, rfl⟩, rfl⟩) (by decide) ?_
  refine R_iconst (v := 1) rfl rfl ?_
  exact T_ireturn rfl rfl ⟨σ1, rfl, q⟩
theorem lok_product {σ : am_G} {a1 : Int32} {b : Int32} {P : am_G → Prop} (hD : am_Call am_TX 8 0 c_D_product [.ref 0, .int a1] (mm σ) (am_Ok (some (.int b)) P)) : am_Call am_TX 9 0 c_L_product [.ref 0, .int a1, .ref 132] (mm σ) (am_Ok (some (.int 0)) (fun σ2 => ∃ σ1, P σ1 ∧ σ2 = sL σ1 132 0 (b.toInt64))) := by
  refine ⟨mf_L_product, Nat.le_of_ble_eq_true rfl, ?_⟩
  show am_R _ _ _ _ 0 [some (.ref 0), some (.int a1), some (.ref 132), none] [] _ _
  refine R_aload_n rfl rfl ?_
  refine R_iconst (v := 0) rfl rfl ?_
  refine R_aload_n rfl rfl ?_
  refine R_iload_n rfl rfl ?_
  refine R_cV (as := [.int a1]) rfl rfl iv_D_product hD (by decide) rfl rfl tk_0 (by decide) rfl rfl (Nat.le_of_ble_eq_true rfl) (fun σ1 q => ?_)
  refine R_i2l rfl ?_
  refine R_wL (j := 0) rfl tk_132 rfl (by decide) (by decide) ?_
  refine R_goto rfl rfl ?_
  refine R_iconst (v := 0) rfl rfl ?_
  exact T_ireturn rfl rfl ⟨_, rfl, σ1, q, rfl⟩
theorem lth_product_1 {σ : am_G} {a1 : Int32} {P : am_G → Prop} (hD : am_Call am_TX 8 1 c_D_product [.ref 0, .int a1] (mm σ) (am_ThP "java/lang/IndexOutOfBoundsException" P)) : am_Call am_TX 9 1 c_L_product [.ref 0, .int a1, .ref 132] (mm σ) (am_Ok (some (.int 1)) P) := by
  refine ⟨mf_L_product, Nat.le_of_ble_eq_true rfl, ?_⟩
  show am_R _ _ _ _ 0 [some (.ref 0), some (.int a1), some (.ref 132), none] [] _ _
  refine R_aload_n rfl rfl ?_
  refine R_iconst (v := 0) rfl rfl ?_
  refine R_aload_n rfl rfl ?_
  refine R_iload_n rfl rfl ?_
  refine R_cVxP (k := 0) (as := [.int a1]) rfl rfl iv_D_product hD (by decide) rfl rfl tk_0 (by decide) rfl rfl (Nat.le_of_ble_eq_true rfl) (fun σ1 q => ?_)
  refine Rx_catch (i := 3) (hh := [(0, 9, 12, 28)]) rfl [] [] ⟨0, 9, 12, 28⟩ rfl (fun z hz => by cases hz) (by decide) (by decide) lk_28 ck_28 (Or.inr ⟨⟨3, rfl, rfl⟩, rfl⟩) (by decide) ?_
  refine R_iconst (v := 1) rfl rfl ?_
  exact T_ireturn rfl rfl ⟨σ1, rfl, q⟩
theorem lok_claimed {σ : am_G} {a1 : Int32} {b : Int32} {P : am_G → Prop} (hD : am_Call am_TX 8 0 c_D_claimed [.ref 0, .int a1] (mm σ) (am_Ok (some (.int b)) P)) : am_Call am_TX 9 0 c_L_claimed [.ref 0, .int a1, .ref 132] (mm σ) (am_Ok (some (.int 0)) (fun σ2 => ∃ σ1, P σ1 ∧ σ2 = sL σ1 132 0 (b.toInt64))) := by
  refine ⟨mf_L_claimed, Nat.le_of_ble_eq_true rfl, ?_⟩
  show am_R _ _ _ _ 0 [some (.ref 0), some (.int a1), some (.ref 132), none] [] _ _
  refine R_aload_n rfl rfl ?_
  refine R_iconst (v := 0) rfl rfl ?_
  refine R_aload_n rfl rfl ?_
  refine R_iload_n rfl rfl ?_
  refine R_cV (as := [.int a1]) rfl rfl iv_D_claimed hD (by decide) rfl rfl tk_0 (by decide) rfl rfl (Nat.le_of_ble_eq_true rfl) (fun σ1 q => ?_)
  refine R_i2l rfl ?_
  refine R_wL (j := 0) rfl tk_132 rfl (by decide) (by decide) ?_
  refine R_goto rfl rfl ?_
  refine R_iconst (v := 0) rfl rfl ?_
  exact T_ireturn rfl rfl ⟨_, rfl, σ1, q, rfl⟩
theorem lth_claimed_1 {σ : am_G} {a1 : Int32} {P : am_G → Prop} (hD : am_Call am_TX 8 1 c_D_claimed [.ref 0, .int a1] (mm σ) (am_ThP "java/lang/IllegalArgumentException" P)) : am_Call am_TX 9 1 c_L_claimed [.ref 0, .int a1, .ref 132] (mm σ) (am_Ok (some (.int 1)) P) := by
  refine ⟨mf_L_claimed, Nat.le_of_ble_eq_true rfl, ?_⟩
  show am_R _ _ _ _ 0 [some (.ref 0), some (.int a1), some (.ref 132), none] [] _ _
  refine R_aload_n rfl rfl ?_
  refine R_iconst (v := 0) rfl rfl ?_
  refine R_aload_n rfl rfl ?_
  refine R_iload_n rfl rfl ?_
  refine R_cVxP (k := 0) (as := [.int a1]) rfl rfl iv_D_claimed hD (by decide) rfl rfl tk_0 (by decide) rfl rfl (Nat.le_of_ble_eq_true rfl) (fun σ1 q => ?_)
  refine Rx_catch (i := 3) (hh := [(0, 9, 12, 19)]) rfl [] [] ⟨0, 9, 12, 19⟩ rfl (fun z hz => by cases hz) (by decide) (by decide) lk_19 ck_19 (Or.inr ⟨⟨3, rfl, rfl⟩, rfl⟩) (by decide) ?_
  refine R_iconst (v := 1) rfl rfl ?_
  exact T_ireturn rfl rfl ⟨σ1, rfl, q⟩
theorem lok_relationOf {σ : am_G} {a1 a2 : Int32} {b : Int64} {P : am_G → Prop} (hD : am_Call am_TX 8 0 c_D_relationOf [.ref 0, .int a1, .int a2] (mm σ) (am_Ok (some (.long b)) P)) : am_Call am_TX 9 0 c_L_relationOf [.ref 0, .int a1, .int a2, .ref 132] (mm σ) (am_Ok (some (.int 0)) (fun σ2 => ∃ σ1, P σ1 ∧ σ2 = sL σ1 132 0 (b))) := by
  refine ⟨mf_L_relationOf, Nat.le_of_ble_eq_true rfl, ?_⟩
  show am_R _ _ _ _ 0 [some (.ref 0), some (.int a1), some (.int a2), some (.ref 132), none] [] _ _
  refine R_aload_n rfl rfl ?_
  refine R_iconst (v := 0) rfl rfl ?_
  refine R_aload_n rfl rfl ?_
  refine R_iload_n rfl rfl ?_
  refine R_iload_n rfl rfl ?_
  refine R_cV (as := [.int a1, .int a2]) rfl rfl iv_D_relationOf hD (by decide) rfl rfl tk_0 (by decide) rfl rfl (Nat.le_of_ble_eq_true rfl) (fun σ1 q => ?_)
  refine R_wL (j := 0) rfl tk_132 rfl (by decide) (by decide) ?_
  refine R_goto rfl rfl ?_
  refine R_iconst (v := 0) rfl rfl ?_
  exact T_ireturn rfl rfl ⟨_, rfl, σ1, q, rfl⟩
theorem lth_relationOf_1 {σ : am_G} {a1 a2 : Int32} {P : am_G → Prop} (hD : am_Call am_TX 8 1 c_D_relationOf [.ref 0, .int a1, .int a2] (mm σ) (am_ThP "java/lang/IndexOutOfBoundsException" P)) : am_Call am_TX 9 1 c_L_relationOf [.ref 0, .int a1, .int a2, .ref 132] (mm σ) (am_Ok (some (.int 1)) P) := by
  refine ⟨mf_L_relationOf, Nat.le_of_ble_eq_true rfl, ?_⟩
  show am_R _ _ _ _ 0 [some (.ref 0), some (.int a1), some (.int a2), some (.ref 132), none] [] _ _
  refine R_aload_n rfl rfl ?_
  refine R_iconst (v := 0) rfl rfl ?_
  refine R_aload_n rfl rfl ?_
  refine R_iload_n rfl rfl ?_
  refine R_iload_n rfl rfl ?_
  refine R_cVxP (k := 0) (as := [.int a1, .int a2]) rfl rfl iv_D_relationOf hD (by decide) rfl rfl tk_0 (by decide) rfl rfl (Nat.le_of_ble_eq_true rfl) (fun σ1 q => ?_)
  refine Rx_catch (i := 4) (hh := [(0, 9, 12, 28)]) rfl [] [] ⟨0, 9, 12, 28⟩ rfl (fun z hz => by cases hz) (by decide) (by decide) lk_28 ck_28 (Or.inl ⟨rfl, rfl⟩) (by decide) ?_
  refine R_iconst (v := 1) rfl rfl ?_
  exact T_ireturn rfl rfl ⟨σ1, rfl, q⟩
theorem lok_head {σ : am_G} {a1 : Int32} {b : Int32} {P : am_G → Prop} (hD : am_Call am_TX 8 0 c_D_head [.ref 0, .int a1] (mm σ) (am_Ok (some (.int b)) P)) : am_Call am_TX 9 0 c_L_head [.ref 0, .int a1, .ref 132] (mm σ) (am_Ok (some (.int 0)) (fun σ2 => ∃ σ1, P σ1 ∧ σ2 = sL σ1 132 0 (b.toInt64))) := by
  refine ⟨mf_L_head, Nat.le_of_ble_eq_true rfl, ?_⟩
  show am_R _ _ _ _ 0 [some (.ref 0), some (.int a1), some (.ref 132), none] [] _ _
  refine R_aload_n rfl rfl ?_
  refine R_iconst (v := 0) rfl rfl ?_
  refine R_aload_n rfl rfl ?_
  refine R_iload_n rfl rfl ?_
  refine R_cV (as := [.int a1]) rfl rfl iv_D_head hD (by decide) rfl rfl tk_0 (by decide) rfl rfl (Nat.le_of_ble_eq_true rfl) (fun σ1 q => ?_)
  refine R_i2l rfl ?_
  refine R_wL (j := 0) rfl tk_132 rfl (by decide) (by decide) ?_
  refine R_goto rfl rfl ?_
  refine R_iconst (v := 0) rfl rfl ?_
  exact T_ireturn rfl rfl ⟨_, rfl, σ1, q, rfl⟩
theorem lth_head_1 {σ : am_G} {a1 : Int32} {P : am_G → Prop} (hD : am_Call am_TX 8 1 c_D_head [.ref 0, .int a1] (mm σ) (am_ThP "java/lang/IndexOutOfBoundsException" P)) : am_Call am_TX 9 1 c_L_head [.ref 0, .int a1, .ref 132] (mm σ) (am_Ok (some (.int 1)) P) := by
  refine ⟨mf_L_head, Nat.le_of_ble_eq_true rfl, ?_⟩
  show am_R _ _ _ _ 0 [some (.ref 0), some (.int a1), some (.ref 132), none] [] _ _
  refine R_aload_n rfl rfl ?_
  refine R_iconst (v := 0) rfl rfl ?_
  refine R_aload_n rfl rfl ?_
  refine R_iload_n rfl rfl ?_
  refine R_cVxP (k := 0) (as := [.int a1]) rfl rfl iv_D_head hD (by decide) rfl rfl tk_0 (by decide) rfl rfl (Nat.le_of_ble_eq_true rfl) (fun σ1 q => ?_)
  refine Rx_catch (i := 3) (hh := [(0, 9, 12, 28)]) rfl [] [] ⟨0, 9, 12, 28⟩ rfl (fun z hz => by cases hz) (by decide) (by decide) lk_28 ck_28 (Or.inr ⟨⟨3, rfl, rfl⟩, rfl⟩) (by decide) ?_
  refine R_iconst (v := 1) rfl rfl ?_
  exact T_ireturn rfl rfl ⟨σ1, rfl, q⟩
theorem lok_holds {σ : am_G} {a1 : Int32} {b : Int32} {P : am_G → Prop} (hD : am_Call am_TX 8 0 c_D_holds [.ref 0, .int a1] (mm σ) (am_Ok (some (.int b)) P)) : am_Call am_TX 9 0 c_L_holds [.ref 0, .int a1, .ref 132] (mm σ) (am_Ok (some (.int 0)) (fun σ2 => ∃ σ1, P σ1 ∧ σ2 = sL σ1 132 0 (gB b))) := by
  refine ⟨mf_L_holds, Nat.le_of_ble_eq_true rfl, ?_⟩
  show am_R _ _ _ _ 0 [some (.ref 0), some (.int a1), some (.ref 132), none] [] _ _
  refine R_aload_n rfl rfl ?_
  refine R_iconst (v := 0) rfl rfl ?_
  refine R_aload_n rfl rfl ?_
  refine R_iload_n rfl rfl ?_
  refine R_cV (as := [.int a1]) rfl rfl iv_D_holds hD (by decide) rfl rfl tk_0 (by decide) rfl rfl (Nat.le_of_ble_eq_true rfl) (fun σ1 q => ?_)
  refine R_if_eq rfl rfl (fun hz => ?_) (fun hz => ?_)
  · refine R_lconst (v := 0) rfl rfl ?_
    refine R_wL (j := 0) rfl tk_132 rfl (by decide) (by decide) ?_
    refine R_goto rfl rfl ?_
    refine R_iconst (v := 0) rfl rfl ?_
    exact T_ireturn rfl rfl ⟨_, rfl, σ1, q, by rw [gB, if_pos hz]⟩
  · refine R_lconst (v := 1) rfl rfl ?_
    refine R_goto rfl rfl ?_
    refine R_wL (j := 0) rfl tk_132 rfl (by decide) (by decide) ?_
    refine R_goto rfl rfl ?_
    refine R_iconst (v := 0) rfl rfl ?_
    exact T_ireturn rfl rfl ⟨_, rfl, σ1, q, by rw [gB, if_neg hz]⟩
theorem lth_holds_1 {σ : am_G} {a1 : Int32} {P : am_G → Prop} (hD : am_Call am_TX 8 1 c_D_holds [.ref 0, .int a1] (mm σ) (am_ThP "java/lang/IndexOutOfBoundsException" P)) : am_Call am_TX 9 1 c_L_holds [.ref 0, .int a1, .ref 132] (mm σ) (am_Ok (some (.int 1)) P) := by
  refine ⟨mf_L_holds, Nat.le_of_ble_eq_true rfl, ?_⟩
  show am_R _ _ _ _ 0 [some (.ref 0), some (.int a1), some (.ref 132), none] [] _ _
  refine R_aload_n rfl rfl ?_
  refine R_iconst (v := 0) rfl rfl ?_
  refine R_aload_n rfl rfl ?_
  refine R_iload_n rfl rfl ?_
  refine R_cVxP (k := 0) (as := [.int a1]) rfl rfl iv_D_holds hD (by decide) rfl rfl tk_0 (by decide) rfl rfl (Nat.le_of_ble_eq_true rfl) (fun σ1 q => ?_)
  refine Rx_catch (i := 3) (hh := [(0, 16, 19, 28)]) rfl [] [] ⟨0, 16, 19, 28⟩ rfl (fun z hz => by cases hz) (by decide) (by decide) lk_28 ck_28 (Or.inr ⟨⟨3, rfl, rfl⟩, rfl⟩) (by decide) ?_
  refine R_iconst (v := 1) rfl rfl ?_
  exact T_ireturn rfl rfl ⟨σ1, rfl, q⟩
theorem lok_setEntry {σ : am_G} {a1 a2 a3 : Int32} {b : Int32} {P : am_G → Prop} (hD : am_Call am_TX 8 0 c_D_setEntry [.ref 0, .int a1, .int a2, .int a3] (mm σ) (am_Ok (some (.int b)) P)) : am_Call am_TX 9 0 c_L_setEntry [.ref 0, .int a1, .int a2, .int a3, .ref 132] (mm σ) (am_Ok (some (.int 0)) (fun σ2 => ∃ σ1, P σ1 ∧ σ2 = sL σ1 132 0 (b.toInt64))) := by
  refine ⟨mf_L_setEntry, Nat.le_of_ble_eq_true rfl, ?_⟩
  show am_R _ _ _ _ 0 [some (.ref 0), some (.int a1), some (.int a2), some (.int a3), some (.ref 132), none] [] _ _
  refine R_aload rfl rfl ?_
  refine R_iconst (v := 0) rfl rfl ?_
  refine R_aload_n rfl rfl ?_
  refine R_iload_n rfl rfl ?_
  refine R_iload_n rfl rfl ?_
  refine R_iload_n rfl rfl ?_
  refine R_cV (as := [.int a1, .int a2, .int a3]) rfl rfl iv_D_setEntry hD (by decide) rfl rfl tk_0 (by decide) rfl rfl (Nat.le_of_ble_eq_true rfl) (fun σ1 q => ?_)
  refine R_i2l rfl ?_
  refine R_wL (j := 0) rfl tk_132 rfl (by decide) (by decide) ?_
  refine R_goto rfl rfl ?_
  refine R_iconst (v := 0) rfl rfl ?_
  exact T_ireturn rfl rfl ⟨_, rfl, σ1, q, rfl⟩
theorem lth_setEntry_1 {σ : am_G} {a1 a2 a3 : Int32} {P : am_G → Prop} (hD : am_Call am_TX 8 1 c_D_setEntry [.ref 0, .int a1, .int a2, .int a3] (mm σ) (am_ThP "java/lang/IndexOutOfBoundsException" P)) : am_Call am_TX 9 1 c_L_setEntry [.ref 0, .int a1, .int a2, .int a3, .ref 132] (mm σ) (am_Ok (some (.int 1)) P) := by
  refine ⟨mf_L_setEntry, Nat.le_of_ble_eq_true rfl, ?_⟩
  show am_R _ _ _ _ 0 [some (.ref 0), some (.int a1), some (.int a2), some (.int a3), some (.ref 132), none] [] _ _
  refine R_aload rfl rfl ?_
  refine R_iconst (v := 0) rfl rfl ?_
  refine R_aload_n rfl rfl ?_
  refine R_iload_n rfl rfl ?_
  refine R_iload_n rfl rfl ?_
  refine R_iload_n rfl rfl ?_
  refine R_cVxP (k := 0) (as := [.int a1, .int a2, .int a3]) rfl rfl iv_D_setEntry hD (by decide) rfl rfl tk_0 (by decide) rfl rfl (Nat.le_of_ble_eq_true rfl) (fun σ1 q => ?_)
  refine Rx_catch (i := 5) (hh := [(0, 12, 15, 28), (0, 12, 19, 19)]) rfl [] [⟨0, 12, 19, 19⟩] ⟨0, 12, 15, 28⟩ rfl (fun z hz => by cases hz) (by decide) (by decide) lk_28 ck_28 (Or.inl ⟨rfl, rfl⟩) (by decide) ?_
  refine R_iconst (v := 1) rfl rfl ?_
  exact T_ireturn rfl rfl ⟨σ1, rfl, q⟩
theorem lth_setEntry_2 {σ : am_G} {a1 a2 a3 : Int32} {P : am_G → Prop} (hD : am_Call am_TX 8 1 c_D_setEntry [.ref 0, .int a1, .int a2, .int a3] (mm σ) (am_ThP "java/lang/IllegalArgumentException" P)) : am_Call am_TX 9 1 c_L_setEntry [.ref 0, .int a1, .int a2, .int a3, .ref 132] (mm σ) (am_Ok (some (.int 2)) P) := by
  refine ⟨mf_L_setEntry, Nat.le_of_ble_eq_true rfl, ?_⟩
  show am_R _ _ _ _ 0 [some (.ref 0), some (.int a1), some (.int a2), some (.int a3), some (.ref 132), none] [] _ _
  refine R_aload rfl rfl ?_
  refine R_iconst (v := 0) rfl rfl ?_
  refine R_aload_n rfl rfl ?_
  refine R_iload_n rfl rfl ?_
  refine R_iload_n rfl rfl ?_
  refine R_iload_n rfl rfl ?_
  refine R_cVxP (k := 0) (as := [.int a1, .int a2, .int a3]) rfl rfl iv_D_setEntry hD (by decide) rfl rfl tk_0 (by decide) rfl rfl (Nat.le_of_ble_eq_true rfl) (fun σ1 q => ?_)
  refine Rx_catch (i := 5) (hh := [(0, 12, 15, 28), (0, 12, 19, 19)]) rfl [⟨0, 12, 15, 28⟩] [] ⟨0, 12, 19, 19⟩ rfl (fun z hz => by
    rcases List.mem_cons.mp hz with rfl | hz
    · exact Or.inr ⟨by decide, "java/lang/IndexOutOfBoundsException", lk_28, List.mem_of_getElem? (i := 0) rfl⟩
    cases hz) (by decide) (by decide) lk_19 ck_19 (Or.inl ⟨rfl, rfl⟩) (by decide) ?_
  refine R_iconst (v := 2) rfl rfl ?_
  exact T_ireturn rfl rfl ⟨σ1, rfl, q⟩
theorem lok_swapRows {σ : am_G} {a1 a2 : Int32} {b : Int32} {P : am_G → Prop} (hD : am_Call am_TX 8 0 c_D_swapRows [.ref 0, .int a1, .int a2] (mm σ) (am_Ok (some (.int b)) P)) : am_Call am_TX 9 0 c_L_swapRows [.ref 0, .int a1, .int a2, .ref 132] (mm σ) (am_Ok (some (.int 0)) (fun σ2 => ∃ σ1, P σ1 ∧ σ2 = sL σ1 132 0 (b.toInt64))) := by
  refine ⟨mf_L_swapRows, Nat.le_of_ble_eq_true rfl, ?_⟩
  show am_R _ _ _ _ 0 [some (.ref 0), some (.int a1), some (.int a2), some (.ref 132), none] [] _ _
  refine R_aload_n rfl rfl ?_
  refine R_iconst (v := 0) rfl rfl ?_
  refine R_aload_n rfl rfl ?_
  refine R_iload_n rfl rfl ?_
  refine R_iload_n rfl rfl ?_
  refine R_cV (as := [.int a1, .int a2]) rfl rfl iv_D_swapRows hD (by decide) rfl rfl tk_0 (by decide) rfl rfl (Nat.le_of_ble_eq_true rfl) (fun σ1 q => ?_)
  refine R_i2l rfl ?_
  refine R_wL (j := 0) rfl tk_132 rfl (by decide) (by decide) ?_
  refine R_goto rfl rfl ?_
  refine R_iconst (v := 0) rfl rfl ?_
  exact T_ireturn rfl rfl ⟨_, rfl, σ1, q, rfl⟩
theorem lth_swapRows_1 {σ : am_G} {a1 a2 : Int32} {P : am_G → Prop} (hD : am_Call am_TX 8 1 c_D_swapRows [.ref 0, .int a1, .int a2] (mm σ) (am_ThP "java/lang/IndexOutOfBoundsException" P)) : am_Call am_TX 9 1 c_L_swapRows [.ref 0, .int a1, .int a2, .ref 132] (mm σ) (am_Ok (some (.int 1)) P) := by
  refine ⟨mf_L_swapRows, Nat.le_of_ble_eq_true rfl, ?_⟩
  show am_R _ _ _ _ 0 [some (.ref 0), some (.int a1), some (.int a2), some (.ref 132), none] [] _ _
  refine R_aload_n rfl rfl ?_
  refine R_iconst (v := 0) rfl rfl ?_
  refine R_aload_n rfl rfl ?_
  refine R_iload_n rfl rfl ?_
  refine R_iload_n rfl rfl ?_
  refine R_cVxP (k := 0) (as := [.int a1, .int a2]) rfl rfl iv_D_swapRows hD (by decide) rfl rfl tk_0 (by decide) rfl rfl (Nat.le_of_ble_eq_true rfl) (fun σ1 q => ?_)
  refine Rx_catch (i := 4) (hh := [(0, 10, 13, 28)]) rfl [] [] ⟨0, 10, 13, 28⟩ rfl (fun z hz => by cases hz) (by decide) (by decide) lk_28 ck_28 (Or.inl ⟨rfl, rfl⟩) (by decide) ?_
  refine R_iconst (v := 1) rfl rfl ?_
  exact T_ireturn rfl rfl ⟨σ1, rfl, q⟩
theorem lok_swapColumns {σ : am_G} {a1 a2 : Int32} {b : Int32} {P : am_G → Prop} (hD : am_Call am_TX 8 0 c_D_swapColumns [.ref 0, .int a1, .int a2] (mm σ) (am_Ok (some (.int b)) P)) : am_Call am_TX 9 0 c_L_swapColumns [.ref 0, .int a1, .int a2, .ref 132] (mm σ) (am_Ok (some (.int 0)) (fun σ2 => ∃ σ1, P σ1 ∧ σ2 = sL σ1 132 0 (b.toInt64))) := by
  refine ⟨mf_L_swapColumns, Nat.le_of_ble_eq_true rfl, ?_⟩
  show am_R _ _ _ _ 0 [some (.ref 0), some (.int a1), some (.int a2), some (.ref 132), none] [] _ _
  refine R_aload_n rfl rfl ?_
  refine R_iconst (v := 0) rfl rfl ?_
  refine R_aload_n rfl rfl ?_
  refine R_iload_n rfl rfl ?_
  refine R_iload_n rfl rfl ?_
  refine R_cV (as := [.int a1, .int a2]) rfl rfl iv_D_swapColumns hD (by decide) rfl rfl tk_0 (by decide) rfl rfl (Nat.le_of_ble_eq_true rfl) (fun σ1 q => ?_)
  refine R_i2l rfl ?_
  refine R_wL (j := 0) rfl tk_132 rfl (by decide) (by decide) ?_
  refine R_goto rfl rfl ?_
  refine R_iconst (v := 0) rfl rfl ?_
  exact T_ireturn rfl rfl ⟨_, rfl, σ1, q, rfl⟩
theorem lth_swapColumns_1 {σ : am_G} {a1 a2 : Int32} {P : am_G → Prop} (hD : am_Call am_TX 8 1 c_D_swapColumns [.ref 0, .int a1, .int a2] (mm σ) (am_ThP "java/lang/IndexOutOfBoundsException" P)) : am_Call am_TX 9 1 c_L_swapColumns [.ref 0, .int a1, .int a2, .ref 132] (mm σ) (am_Ok (some (.int 1)) P) := by
  refine ⟨mf_L_swapColumns, Nat.le_of_ble_eq_true rfl, ?_⟩
  show am_R _ _ _ _ 0 [some (.ref 0), some (.int a1), some (.int a2), some (.ref 132), none] [] _ _
  refine R_aload_n rfl rfl ?_
  refine R_iconst (v := 0) rfl rfl ?_
  refine R_aload_n rfl rfl ?_
  refine R_iload_n rfl rfl ?_
  refine R_iload_n rfl rfl ?_
  refine R_cVxP (k := 0) (as := [.int a1, .int a2]) rfl rfl iv_D_swapColumns hD (by decide) rfl rfl tk_0 (by decide) rfl rfl (Nat.le_of_ble_eq_true rfl) (fun σ1 q => ?_)
  refine Rx_catch (i := 4) (hh := [(0, 10, 13, 28)]) rfl [] [] ⟨0, 10, 13, 28⟩ rfl (fun z hz => by cases hz) (by decide) (by decide) lk_28 ck_28 (Or.inl ⟨rfl, rfl⟩) (by decide) ?_
  refine R_iconst (v := 1) rfl rfl ?_
  exact T_ireturn rfl rfl ⟨σ1, rfl, q⟩
theorem lok_addRow {σ : am_G} {a1 a2 a3 : Int32} {b : Int32} {P : am_G → Prop} (hD : am_Call am_TX 8 0 c_D_addRow [.ref 0, .int a1, .int a2, .int a3] (mm σ) (am_Ok (some (.int b)) P)) : am_Call am_TX 9 0 c_L_addRow [.ref 0, .int a1, .int a2, .int a3, .ref 132] (mm σ) (am_Ok (some (.int 0)) (fun σ2 => ∃ σ1, P σ1 ∧ σ2 = sL σ1 132 0 (b.toInt64))) := by
  refine ⟨mf_L_addRow, Nat.le_of_ble_eq_true rfl, ?_⟩
  show am_R _ _ _ _ 0 [some (.ref 0), some (.int a1), some (.int a2), some (.int a3), some (.ref 132), none] [] _ _
  refine R_aload rfl rfl ?_
  refine R_iconst (v := 0) rfl rfl ?_
  refine R_aload_n rfl rfl ?_
  refine R_iload_n rfl rfl ?_
  refine R_iload_n rfl rfl ?_
  refine R_iload_n rfl rfl ?_
  refine R_cV (as := [.int a1, .int a2, .int a3]) rfl rfl iv_D_addRow hD (by decide) rfl rfl tk_0 (by decide) rfl rfl (Nat.le_of_ble_eq_true rfl) (fun σ1 q => ?_)
  refine R_i2l rfl ?_
  refine R_wL (j := 0) rfl tk_132 rfl (by decide) (by decide) ?_
  refine R_goto rfl rfl ?_
  refine R_iconst (v := 0) rfl rfl ?_
  exact T_ireturn rfl rfl ⟨_, rfl, σ1, q, rfl⟩
theorem lth_addRow_1 {σ : am_G} {a1 a2 a3 : Int32} {P : am_G → Prop} (hD : am_Call am_TX 8 1 c_D_addRow [.ref 0, .int a1, .int a2, .int a3] (mm σ) (am_ThP "java/lang/IndexOutOfBoundsException" P)) : am_Call am_TX 9 1 c_L_addRow [.ref 0, .int a1, .int a2, .int a3, .ref 132] (mm σ) (am_Ok (some (.int 1)) P) := by
  refine ⟨mf_L_addRow, Nat.le_of_ble_eq_true rfl, ?_⟩
  show am_R _ _ _ _ 0 [some (.ref 0), some (.int a1), some (.int a2), some (.int a3), some (.ref 132), none] [] _ _
  refine R_aload rfl rfl ?_
  refine R_iconst (v := 0) rfl rfl ?_
  refine R_aload_n rfl rfl ?_
  refine R_iload_n rfl rfl ?_
  refine R_iload_n rfl rfl ?_
  refine R_iload_n rfl rfl ?_
  refine R_cVxP (k := 0) (as := [.int a1, .int a2, .int a3]) rfl rfl iv_D_addRow hD (by decide) rfl rfl tk_0 (by decide) rfl rfl (Nat.le_of_ble_eq_true rfl) (fun σ1 q => ?_)
  refine Rx_catch (i := 5) (hh := [(0, 12, 15, 28), (0, 12, 19, 19), (0, 12, 23, 13)]) rfl [] [⟨0, 12, 19, 19⟩, ⟨0, 12, 23, 13⟩] ⟨0, 12, 15, 28⟩ rfl (fun z hz => by cases hz) (by decide) (by decide) lk_28 ck_28 (Or.inl ⟨rfl, rfl⟩) (by decide) ?_
  refine R_iconst (v := 1) rfl rfl ?_
  exact T_ireturn rfl rfl ⟨σ1, rfl, q⟩
theorem lth_addRow_2 {σ : am_G} {a1 a2 a3 : Int32} {P : am_G → Prop} (hD : am_Call am_TX 8 1 c_D_addRow [.ref 0, .int a1, .int a2, .int a3] (mm σ) (am_ThP "java/lang/IllegalArgumentException" P)) : am_Call am_TX 9 1 c_L_addRow [.ref 0, .int a1, .int a2, .int a3, .ref 132] (mm σ) (am_Ok (some (.int 2)) P) := by
  refine ⟨mf_L_addRow, Nat.le_of_ble_eq_true rfl, ?_⟩
  show am_R _ _ _ _ 0 [some (.ref 0), some (.int a1), some (.int a2), some (.int a3), some (.ref 132), none] [] _ _
  refine R_aload rfl rfl ?_
  refine R_iconst (v := 0) rfl rfl ?_
  refine R_aload_n rfl rfl ?_
  refine R_iload_n rfl rfl ?_
  refine R_iload_n rfl rfl ?_
  refine R_iload_n rfl rfl ?_
  refine R_cVxP (k := 0) (as := [.int a1, .int a2, .int a3]) rfl rfl iv_D_addRow hD (by decide) rfl rfl tk_0 (by decide) rfl rfl (Nat.le_of_ble_eq_true rfl) (fun σ1 q => ?_)
  refine Rx_catch (i := 5) (hh := [(0, 12, 15, 28), (0, 12, 19, 19), (0, 12, 23, 13)]) rfl [⟨0, 12, 15, 28⟩] [⟨0, 12, 23, 13⟩] ⟨0, 12, 19, 19⟩ rfl (fun z hz => by
    rcases List.mem_cons.mp hz with rfl | hz
    · exact Or.inr ⟨by decide, "java/lang/IndexOutOfBoundsException", lk_28, List.mem_of_getElem? (i := 0) rfl⟩
    cases hz) (by decide) (by decide) lk_19 ck_19 (Or.inl ⟨rfl, rfl⟩) (by decide) ?_
  refine R_iconst (v := 2) rfl rfl ?_
  exact T_ireturn rfl rfl ⟨σ1, rfl, q⟩
theorem lth_addRow_3 {σ : am_G} {a1 a2 a3 : Int32} {P : am_G → Prop} (hD : am_Call am_TX 8 1 c_D_addRow [.ref 0, .int a1, .int a2, .int a3] (mm σ) (am_ThP "java/lang/IllegalStateException" P)) : am_Call am_TX 9 1 c_L_addRow [.ref 0, .int a1, .int a2, .int a3, .ref 132] (mm σ) (am_Ok (some (.int 3)) P) := by
  refine ⟨mf_L_addRow, Nat.le_of_ble_eq_true rfl, ?_⟩
  show am_R _ _ _ _ 0 [some (.ref 0), some (.int a1), some (.int a2), some (.int a3), some (.ref 132), none] [] _ _
  refine R_aload rfl rfl ?_
  refine R_iconst (v := 0) rfl rfl ?_
  refine R_aload_n rfl rfl ?_
  refine R_iload_n rfl rfl ?_
  refine R_iload_n rfl rfl ?_
  refine R_iload_n rfl rfl ?_
  refine R_cVxP (k := 0) (as := [.int a1, .int a2, .int a3]) rfl rfl iv_D_addRow hD (by decide) rfl rfl tk_0 (by decide) rfl rfl (Nat.le_of_ble_eq_true rfl) (fun σ1 q => ?_)
  refine Rx_catch (i := 5) (hh := [(0, 12, 15, 28), (0, 12, 19, 19), (0, 12, 23, 13)]) rfl [⟨0, 12, 15, 28⟩, ⟨0, 12, 19, 19⟩] [] ⟨0, 12, 23, 13⟩ rfl (fun z hz => by
    rcases List.mem_cons.mp hz with rfl | hz
    · exact Or.inr ⟨by decide, "java/lang/IndexOutOfBoundsException", lk_28, List.mem_of_getElem? (i := 2) rfl⟩
    rcases List.mem_cons.mp hz with rfl | hz
    · exact Or.inr ⟨by decide, "java/lang/IllegalArgumentException", lk_19, List.mem_of_getElem? (i := 4) rfl⟩
    cases hz) (by decide) (by decide) lk_13 ck_13 (Or.inl ⟨rfl, rfl⟩) (by decide) ?_
  refine R_iconst (v := 3) rfl rfl ?_
  exact T_ireturn rfl rfl ⟨σ1, rfl, q⟩
theorem lok_negateRow {σ : am_G} {a1 : Int32} {b : Int32} {P : am_G → Prop} (hD : am_Call am_TX 8 0 c_D_negateRow [.ref 0, .int a1] (mm σ) (am_Ok (some (.int b)) P)) : am_Call am_TX 9 0 c_L_negateRow [.ref 0, .int a1, .ref 132] (mm σ) (am_Ok (some (.int 0)) (fun σ2 => ∃ σ1, P σ1 ∧ σ2 = sL σ1 132 0 (b.toInt64))) := by
  refine ⟨mf_L_negateRow, Nat.le_of_ble_eq_true rfl, ?_⟩
  show am_R _ _ _ _ 0 [some (.ref 0), some (.int a1), some (.ref 132), none] [] _ _
  refine R_aload_n rfl rfl ?_
  refine R_iconst (v := 0) rfl rfl ?_
  refine R_aload_n rfl rfl ?_
  refine R_iload_n rfl rfl ?_
  refine R_cV (as := [.int a1]) rfl rfl iv_D_negateRow hD (by decide) rfl rfl tk_0 (by decide) rfl rfl (Nat.le_of_ble_eq_true rfl) (fun σ1 q => ?_)
  refine R_i2l rfl ?_
  refine R_wL (j := 0) rfl tk_132 rfl (by decide) (by decide) ?_
  refine R_goto rfl rfl ?_
  refine R_iconst (v := 0) rfl rfl ?_
  exact T_ireturn rfl rfl ⟨_, rfl, σ1, q, rfl⟩
theorem lth_negateRow_1 {σ : am_G} {a1 : Int32} {P : am_G → Prop} (hD : am_Call am_TX 8 1 c_D_negateRow [.ref 0, .int a1] (mm σ) (am_ThP "java/lang/IndexOutOfBoundsException" P)) : am_Call am_TX 9 1 c_L_negateRow [.ref 0, .int a1, .ref 132] (mm σ) (am_Ok (some (.int 1)) P) := by
  refine ⟨mf_L_negateRow, Nat.le_of_ble_eq_true rfl, ?_⟩
  show am_R _ _ _ _ 0 [some (.ref 0), some (.int a1), some (.ref 132), none] [] _ _
  refine R_aload_n rfl rfl ?_
  refine R_iconst (v := 0) rfl rfl ?_
  refine R_aload_n rfl rfl ?_
  refine R_iload_n rfl rfl ?_
  refine R_cVxP (k := 0) (as := [.int a1]) rfl rfl iv_D_negateRow hD (by decide) rfl rfl tk_0 (by decide) rfl rfl (Nat.le_of_ble_eq_true rfl) (fun σ1 q => ?_)
  refine Rx_catch (i := 3) (hh := [(0, 9, 12, 28)]) rfl [] [] ⟨0, 9, 12, 28⟩ rfl (fun z hz => by cases hz) (by decide) (by decide) lk_28 ck_28 (Or.inr ⟨⟨3, rfl, rfl⟩, rfl⟩) (by decide) ?_
  refine R_iconst (v := 1) rfl rfl ?_
  exact T_ireturn rfl rfl ⟨σ1, rfl, q⟩
theorem lok_probe {σ : am_G} {a1 : Int32} {b : Int32} {P : am_G → Prop} (hD : am_Call am_TX 8 0 c_D_probe [.ref 0, .int a1] (mm σ) (am_Ok (some (.int b)) P)) : am_Call am_TX 9 0 c_L_probe [.ref 0, .int a1, .ref 132] (mm σ) (am_Ok (some (.int 0)) (fun σ2 => ∃ σ1, P σ1 ∧ σ2 = sL σ1 132 0 (b.toInt64))) := by
  refine ⟨mf_L_probe, Nat.le_of_ble_eq_true rfl, ?_⟩
  show am_R _ _ _ _ 0 [some (.ref 0), some (.int a1), some (.ref 132), none] [] _ _
  refine R_aload_n rfl rfl ?_
  refine R_iconst (v := 0) rfl rfl ?_
  refine R_aload_n rfl rfl ?_
  refine R_iload_n rfl rfl ?_
  refine R_cV (as := [.int a1]) rfl rfl iv_D_probe hD (by decide) rfl rfl tk_0 (by decide) rfl rfl (Nat.le_of_ble_eq_true rfl) (fun σ1 q => ?_)
  refine R_i2l rfl ?_
  refine R_wL (j := 0) rfl tk_132 rfl (by decide) (by decide) ?_
  refine R_goto rfl rfl ?_
  refine R_iconst (v := 0) rfl rfl ?_
  exact T_ireturn rfl rfl ⟨_, rfl, σ1, q, rfl⟩
theorem lth_probe_1 {σ : am_G} {a1 : Int32} {P : am_G → Prop} (hD : am_Call am_TX 8 1 c_D_probe [.ref 0, .int a1] (mm σ) (am_ThP "java/lang/IndexOutOfBoundsException" P)) : am_Call am_TX 9 1 c_L_probe [.ref 0, .int a1, .ref 132] (mm σ) (am_Ok (some (.int 1)) P) := by
  refine ⟨mf_L_probe, Nat.le_of_ble_eq_true rfl, ?_⟩
  show am_R _ _ _ _ 0 [some (.ref 0), some (.int a1), some (.ref 132), none] [] _ _
  refine R_aload_n rfl rfl ?_
  refine R_iconst (v := 0) rfl rfl ?_
  refine R_aload_n rfl rfl ?_
  refine R_iload_n rfl rfl ?_
  refine R_cVxP (k := 0) (as := [.int a1]) rfl rfl iv_D_probe hD (by decide) rfl rfl tk_0 (by decide) rfl rfl (Nat.le_of_ble_eq_true rfl) (fun σ1 q => ?_)
  refine Rx_catch (i := 3) (hh := [(0, 9, 12, 28)]) rfl [] [] ⟨0, 9, 12, 28⟩ rfl (fun z hz => by cases hz) (by decide) (by decide) lk_28 ck_28 (Or.inr ⟨⟨3, rfl, rfl⟩, rfl⟩) (by decide) ?_
  refine R_iconst (v := 1) rfl rfl ?_
  exact T_ireturn rfl rfl ⟨σ1, rfl, q⟩
theorem lok_setVector {σ : am_G} {a1 a2 : Int32} {b : Int32} {P : am_G → Prop} (hD : am_Call am_TX 8 0 c_D_setVector [.ref 0, .int a1, .int a2] (mm σ) (am_Ok (some (.int b)) P)) : am_Call am_TX 9 0 c_L_setVector [.ref 0, .int a1, .int a2, .ref 132] (mm σ) (am_Ok (some (.int 0)) (fun σ2 => ∃ σ1, P σ1 ∧ σ2 = sL σ1 132 0 (b.toInt64))) := by
  refine ⟨mf_L_setVector, Nat.le_of_ble_eq_true rfl, ?_⟩
  show am_R _ _ _ _ 0 [some (.ref 0), some (.int a1), some (.int a2), some (.ref 132), none] [] _ _
  refine R_aload_n rfl rfl ?_
  refine R_iconst (v := 0) rfl rfl ?_
  refine R_aload_n rfl rfl ?_
  refine R_iload_n rfl rfl ?_
  refine R_iload_n rfl rfl ?_
  refine R_cV (as := [.int a1, .int a2]) rfl rfl iv_D_setVector hD (by decide) rfl rfl tk_0 (by decide) rfl rfl (Nat.le_of_ble_eq_true rfl) (fun σ1 q => ?_)
  refine R_i2l rfl ?_
  refine R_wL (j := 0) rfl tk_132 rfl (by decide) (by decide) ?_
  refine R_goto rfl rfl ?_
  refine R_iconst (v := 0) rfl rfl ?_
  exact T_ireturn rfl rfl ⟨_, rfl, σ1, q, rfl⟩
theorem lth_setVector_1 {σ : am_G} {a1 a2 : Int32} {P : am_G → Prop} (hD : am_Call am_TX 8 1 c_D_setVector [.ref 0, .int a1, .int a2] (mm σ) (am_ThP "java/lang/IndexOutOfBoundsException" P)) : am_Call am_TX 9 1 c_L_setVector [.ref 0, .int a1, .int a2, .ref 132] (mm σ) (am_Ok (some (.int 1)) P) := by
  refine ⟨mf_L_setVector, Nat.le_of_ble_eq_true rfl, ?_⟩
  show am_R _ _ _ _ 0 [some (.ref 0), some (.int a1), some (.int a2), some (.ref 132), none] [] _ _
  refine R_aload_n rfl rfl ?_
  refine R_iconst (v := 0) rfl rfl ?_
  refine R_aload_n rfl rfl ?_
  refine R_iload_n rfl rfl ?_
  refine R_iload_n rfl rfl ?_
  refine R_cVxP (k := 0) (as := [.int a1, .int a2]) rfl rfl iv_D_setVector hD (by decide) rfl rfl tk_0 (by decide) rfl rfl (Nat.le_of_ble_eq_true rfl) (fun σ1 q => ?_)
  refine Rx_catch (i := 4) (hh := [(0, 10, 13, 28), (0, 10, 17, 19)]) rfl [] [⟨0, 10, 17, 19⟩] ⟨0, 10, 13, 28⟩ rfl (fun z hz => by cases hz) (by decide) (by decide) lk_28 ck_28 (Or.inl ⟨rfl, rfl⟩) (by decide) ?_
  refine R_iconst (v := 1) rfl rfl ?_
  exact T_ireturn rfl rfl ⟨σ1, rfl, q⟩
theorem lth_setVector_2 {σ : am_G} {a1 a2 : Int32} {P : am_G → Prop} (hD : am_Call am_TX 8 1 c_D_setVector [.ref 0, .int a1, .int a2] (mm σ) (am_ThP "java/lang/IllegalArgumentException" P)) : am_Call am_TX 9 1 c_L_setVector [.ref 0, .int a1, .int a2, .ref 132] (mm σ) (am_Ok (some (.int 2)) P) := by
  refine ⟨mf_L_setVector, Nat.le_of_ble_eq_true rfl, ?_⟩
  show am_R _ _ _ _ 0 [some (.ref 0), some (.int a1), some (.int a2), some (.ref 132), none] [] _ _
  refine R_aload_n rfl rfl ?_
  refine R_iconst (v := 0) rfl rfl ?_
  refine R_aload_n rfl rfl ?_
  refine R_iload_n rfl rfl ?_
  refine R_iload_n rfl rfl ?_
  refine R_cVxP (k := 0) (as := [.int a1, .int a2]) rfl rfl iv_D_setVector hD (by decide) rfl rfl tk_0 (by decide) rfl rfl (Nat.le_of_ble_eq_true rfl) (fun σ1 q => ?_)
  refine Rx_catch (i := 4) (hh := [(0, 10, 13, 28), (0, 10, 17, 19)]) rfl [⟨0, 10, 13, 28⟩] [] ⟨0, 10, 17, 19⟩ rfl (fun z hz => by
    rcases List.mem_cons.mp hz with rfl | hz
    · exact Or.inr ⟨by decide, "java/lang/IndexOutOfBoundsException", lk_28, List.mem_of_getElem? (i := 0) rfl⟩
    cases hz) (by decide) (by decide) lk_19 ck_19 (Or.inl ⟨rfl, rfl⟩) (by decide) ?_
  refine R_iconst (v := 2) rfl rfl ?_
  exact T_ireturn rfl rfl ⟨σ1, rfl, q⟩
theorem lok_claim {σ : am_G} {a1 a2 : Int32} {b : Int32} {P : am_G → Prop} (hD : am_Call am_TX 8 0 c_D_claim [.ref 0, .int a1, .int a2] (mm σ) (am_Ok (some (.int b)) P)) : am_Call am_TX 9 0 c_L_claim [.ref 0, .int a1, .int a2, .ref 132] (mm σ) (am_Ok (some (.int 0)) (fun σ2 => ∃ σ1, P σ1 ∧ σ2 = sL σ1 132 0 (b.toInt64))) := by
  refine ⟨mf_L_claim, Nat.le_of_ble_eq_true rfl, ?_⟩
  show am_R _ _ _ _ 0 [some (.ref 0), some (.int a1), some (.int a2), some (.ref 132), none] [] _ _
  refine R_aload_n rfl rfl ?_
  refine R_iconst (v := 0) rfl rfl ?_
  refine R_aload_n rfl rfl ?_
  refine R_iload_n rfl rfl ?_
  refine R_iload_n rfl rfl ?_
  refine R_cV (as := [.int a1, .int a2]) rfl rfl iv_D_claim hD (by decide) rfl rfl tk_0 (by decide) rfl rfl (Nat.le_of_ble_eq_true rfl) (fun σ1 q => ?_)
  refine R_i2l rfl ?_
  refine R_wL (j := 0) rfl tk_132 rfl (by decide) (by decide) ?_
  refine R_goto rfl rfl ?_
  refine R_iconst (v := 0) rfl rfl ?_
  exact T_ireturn rfl rfl ⟨_, rfl, σ1, q, rfl⟩
theorem lth_claim_1 {σ : am_G} {a1 a2 : Int32} {P : am_G → Prop} (hD : am_Call am_TX 8 1 c_D_claim [.ref 0, .int a1, .int a2] (mm σ) (am_ThP "java/lang/IllegalArgumentException" P)) : am_Call am_TX 9 1 c_L_claim [.ref 0, .int a1, .int a2, .ref 132] (mm σ) (am_Ok (some (.int 1)) P) := by
  refine ⟨mf_L_claim, Nat.le_of_ble_eq_true rfl, ?_⟩
  show am_R _ _ _ _ 0 [some (.ref 0), some (.int a1), some (.int a2), some (.ref 132), none] [] _ _
  refine R_aload_n rfl rfl ?_
  refine R_iconst (v := 0) rfl rfl ?_
  refine R_aload_n rfl rfl ?_
  refine R_iload_n rfl rfl ?_
  refine R_iload_n rfl rfl ?_
  refine R_cVxP (k := 0) (as := [.int a1, .int a2]) rfl rfl iv_D_claim hD (by decide) rfl rfl tk_0 (by decide) rfl rfl (Nat.le_of_ble_eq_true rfl) (fun σ1 q => ?_)
  refine Rx_catch (i := 4) (hh := [(0, 10, 13, 19)]) rfl [] [] ⟨0, 10, 13, 19⟩ rfl (fun z hz => by cases hz) (by decide) (by decide) lk_19 ck_19 (Or.inl ⟨rfl, rfl⟩) (by decide) ?_
  refine R_iconst (v := 1) rfl rfl ?_
  exact T_ireturn rfl rfl ⟨σ1, rfl, q⟩
theorem lok_addRelation {σ : am_G} {b : Int32} {P : am_G → Prop} (hD : am_Call am_TX 8 0 c_D_addRelation [.ref 0] (mm σ) (am_Ok (some (.int b)) P)) : am_Call am_TX 9 0 c_L_addRelation [.ref 0, .ref 132] (mm σ) (am_Ok (some (.int 0)) (fun σ2 => ∃ σ1, P σ1 ∧ σ2 = sL σ1 132 0 (b.toInt64))) := by
  refine ⟨mf_L_addRelation, Nat.le_of_ble_eq_true rfl, ?_⟩
  show am_R _ _ _ _ 0 [some (.ref 0), some (.ref 132), none] [] _ _
  refine R_aload_n rfl rfl ?_
  refine R_iconst (v := 0) rfl rfl ?_
  refine R_aload_n rfl rfl ?_
  refine R_cV (as := []) rfl rfl iv_D_addRelation hD (by decide) rfl rfl tk_0 (by decide) rfl rfl (Nat.le_of_ble_eq_true rfl) (fun σ1 q => ?_)
  refine R_i2l rfl ?_
  refine R_wL (j := 0) rfl tk_132 rfl (by decide) (by decide) ?_
  refine R_goto rfl rfl ?_
  refine R_iconst (v := 0) rfl rfl ?_
  exact T_ireturn rfl rfl ⟨_, rfl, σ1, q, rfl⟩
theorem lth_addRelation_1 {σ : am_G} {P : am_G → Prop} (hD : am_Call am_TX 8 1 c_D_addRelation [.ref 0] (mm σ) (am_ThP "java/lang/IllegalStateException" P)) : am_Call am_TX 9 1 c_L_addRelation [.ref 0, .ref 132] (mm σ) (am_Ok (some (.int 1)) P) := by
  refine ⟨mf_L_addRelation, Nat.le_of_ble_eq_true rfl, ?_⟩
  show am_R _ _ _ _ 0 [some (.ref 0), some (.ref 132), none] [] _ _
  refine R_aload_n rfl rfl ?_
  refine R_iconst (v := 0) rfl rfl ?_
  refine R_aload_n rfl rfl ?_
  refine R_cVxP (k := 0) (as := []) rfl rfl iv_D_addRelation hD (by decide) rfl rfl tk_0 (by decide) rfl rfl (Nat.le_of_ble_eq_true rfl) (fun σ1 q => ?_)
  refine Rx_catch (i := 2) (hh := [(0, 8, 11, 13)]) rfl [] [] ⟨0, 8, 11, 13⟩ rfl (fun z hz => by cases hz) (by decide) (by decide) lk_13 ck_13 (Or.inr ⟨⟨2, rfl, rfl⟩, rfl⟩) (by decide) ?_
  refine R_iconst (v := 1) rfl rfl ?_
  exact T_ireturn rfl rfl ⟨σ1, rfl, q⟩
theorem lok_dropRelation {σ : am_G} {a1 : Int32} {b : Int32} {P : am_G → Prop} (hD : am_Call am_TX 8 0 c_D_dropRelation [.ref 0, .int a1] (mm σ) (am_Ok (some (.int b)) P)) : am_Call am_TX 9 0 c_L_dropRelation [.ref 0, .int a1, .ref 132] (mm σ) (am_Ok (some (.int 0)) (fun σ2 => ∃ σ1, P σ1 ∧ σ2 = sL σ1 132 0 (b.toInt64))) := by
  refine ⟨mf_L_dropRelation, Nat.le_of_ble_eq_true rfl, ?_⟩
  show am_R _ _ _ _ 0 [some (.ref 0), some (.int a1), some (.ref 132), none] [] _ _
  refine R_aload_n rfl rfl ?_
  refine R_iconst (v := 0) rfl rfl ?_
  refine R_aload_n rfl rfl ?_
  refine R_iload_n rfl rfl ?_
  refine R_cV (as := [.int a1]) rfl rfl iv_D_dropRelation hD (by decide) rfl rfl tk_0 (by decide) rfl rfl (Nat.le_of_ble_eq_true rfl) (fun σ1 q => ?_)
  refine R_i2l rfl ?_
  refine R_wL (j := 0) rfl tk_132 rfl (by decide) (by decide) ?_
  refine R_goto rfl rfl ?_
  refine R_iconst (v := 0) rfl rfl ?_
  exact T_ireturn rfl rfl ⟨_, rfl, σ1, q, rfl⟩
theorem lth_dropRelation_1 {σ : am_G} {a1 : Int32} {P : am_G → Prop} (hD : am_Call am_TX 8 1 c_D_dropRelation [.ref 0, .int a1] (mm σ) (am_ThP "java/lang/IndexOutOfBoundsException" P)) : am_Call am_TX 9 1 c_L_dropRelation [.ref 0, .int a1, .ref 132] (mm σ) (am_Ok (some (.int 1)) P) := by
  refine ⟨mf_L_dropRelation, Nat.le_of_ble_eq_true rfl, ?_⟩
  show am_R _ _ _ _ 0 [some (.ref 0), some (.int a1), some (.ref 132), none] [] _ _
  refine R_aload_n rfl rfl ?_
  refine R_iconst (v := 0) rfl rfl ?_
  refine R_aload_n rfl rfl ?_
  refine R_iload_n rfl rfl ?_
  refine R_cVxP (k := 0) (as := [.int a1]) rfl rfl iv_D_dropRelation hD (by decide) rfl rfl tk_0 (by decide) rfl rfl (Nat.le_of_ble_eq_true rfl) (fun σ1 q => ?_)
  refine Rx_catch (i := 3) (hh := [(0, 9, 12, 28)]) rfl [] [] ⟨0, 9, 12, 28⟩ rfl (fun z hz => by cases hz) (by decide) (by decide) lk_28 ck_28 (Or.inr ⟨⟨3, rfl, rfl⟩, rfl⟩) (by decide) ?_
  refine R_iconst (v := 1) rfl rfl ?_
  exact T_ireturn rfl rfl ⟨σ1, rfl, q⟩
theorem lok_keep {σ : am_G} {a1 : Int32} {b : Int32} {P : am_G → Prop} (hD : am_Call am_TX 8 0 c_D_keep [.ref 0, .int a1] (mm σ) (am_Ok (some (.int b)) P)) : am_Call am_TX 9 0 c_L_keep [.ref 0, .int a1, .ref 132] (mm σ) (am_Ok (some (.int 0)) (fun σ2 => ∃ σ1, P σ1 ∧ σ2 = sL σ1 132 0 (b.toInt64))) := by
  refine ⟨mf_L_keep, Nat.le_of_ble_eq_true rfl, ?_⟩
  show am_R _ _ _ _ 0 [some (.ref 0), some (.int a1), some (.ref 132), none] [] _ _
  refine R_aload_n rfl rfl ?_
  refine R_iconst (v := 0) rfl rfl ?_
  refine R_aload_n rfl rfl ?_
  refine R_iload_n rfl rfl ?_
  refine R_cV (as := [.int a1]) rfl rfl iv_D_keep hD (by decide) rfl rfl tk_0 (by decide) rfl rfl (Nat.le_of_ble_eq_true rfl) (fun σ1 q => ?_)
  refine R_i2l rfl ?_
  refine R_wL (j := 0) rfl tk_132 rfl (by decide) (by decide) ?_
  refine R_goto rfl rfl ?_
  refine R_iconst (v := 0) rfl rfl ?_
  exact T_ireturn rfl rfl ⟨_, rfl, σ1, q, rfl⟩
theorem lth_keep_1 {σ : am_G} {a1 : Int32} {P : am_G → Prop} (hD : am_Call am_TX 8 1 c_D_keep [.ref 0, .int a1] (mm σ) (am_ThP "java/lang/IndexOutOfBoundsException" P)) : am_Call am_TX 9 1 c_L_keep [.ref 0, .int a1, .ref 132] (mm σ) (am_Ok (some (.int 1)) P) := by
  refine ⟨mf_L_keep, Nat.le_of_ble_eq_true rfl, ?_⟩
  show am_R _ _ _ _ 0 [some (.ref 0), some (.int a1), some (.ref 132), none] [] _ _
  refine R_aload_n rfl rfl ?_
  refine R_iconst (v := 0) rfl rfl ?_
  refine R_aload_n rfl rfl ?_
  refine R_iload_n rfl rfl ?_
  refine R_cVxP (k := 0) (as := [.int a1]) rfl rfl iv_D_keep hD (by decide) rfl rfl tk_0 (by decide) rfl rfl (Nat.le_of_ble_eq_true rfl) (fun σ1 q => ?_)
  refine Rx_catch (i := 3) (hh := [(0, 9, 12, 28)]) rfl [] [] ⟨0, 9, 12, 28⟩ rfl (fun z hz => by cases hz) (by decide) (by decide) lk_28 ck_28 (Or.inr ⟨⟨3, rfl, rfl⟩, rfl⟩) (by decide) ?_
  refine R_iconst (v := 1) rfl rfl ?_
  exact T_ireturn rfl rfl ⟨σ1, rfl, q⟩
theorem lok_restore {σ : am_G} {a1 : Int32} {b : Int32} {P : am_G → Prop} (hD : am_Call am_TX 8 0 c_D_restore [.ref 0, .int a1] (mm σ) (am_Ok (some (.int b)) P)) : am_Call am_TX 9 0 c_L_restore [.ref 0, .int a1, .ref 132] (mm σ) (am_Ok (some (.int 0)) (fun σ2 => ∃ σ1, P σ1 ∧ σ2 = sL σ1 132 0 (b.toInt64))) := by
  refine ⟨mf_L_restore, Nat.le_of_ble_eq_true rfl, ?_⟩
  show am_R _ _ _ _ 0 [some (.ref 0), some (.int a1), some (.ref 132), none] [] _ _
  refine R_aload_n rfl rfl ?_
  refine R_iconst (v := 0) rfl rfl ?_
  refine R_aload_n rfl rfl ?_
  refine R_iload_n rfl rfl ?_
  refine R_cV (as := [.int a1]) rfl rfl iv_D_restore hD (by decide) rfl rfl tk_0 (by decide) rfl rfl (Nat.le_of_ble_eq_true rfl) (fun σ1 q => ?_)
  refine R_i2l rfl ?_
  refine R_wL (j := 0) rfl tk_132 rfl (by decide) (by decide) ?_
  refine R_goto rfl rfl ?_
  refine R_iconst (v := 0) rfl rfl ?_
  exact T_ireturn rfl rfl ⟨_, rfl, σ1, q, rfl⟩
theorem lth_restore_1 {σ : am_G} {a1 : Int32} {P : am_G → Prop} (hD : am_Call am_TX 8 1 c_D_restore [.ref 0, .int a1] (mm σ) (am_ThP "java/lang/IndexOutOfBoundsException" P)) : am_Call am_TX 9 1 c_L_restore [.ref 0, .int a1, .ref 132] (mm σ) (am_Ok (some (.int 1)) P) := by
  refine ⟨mf_L_restore, Nat.le_of_ble_eq_true rfl, ?_⟩
  show am_R _ _ _ _ 0 [some (.ref 0), some (.int a1), some (.ref 132), none] [] _ _
  refine R_aload_n rfl rfl ?_
  refine R_iconst (v := 0) rfl rfl ?_
  refine R_aload_n rfl rfl ?_
  refine R_iload_n rfl rfl ?_
  refine R_cVxP (k := 0) (as := [.int a1]) rfl rfl iv_D_restore hD (by decide) rfl rfl tk_0 (by decide) rfl rfl (Nat.le_of_ble_eq_true rfl) (fun σ1 q => ?_)
  refine Rx_catch (i := 3) (hh := [(0, 9, 12, 28), (0, 9, 15, 13)]) rfl [] [⟨0, 9, 15, 13⟩] ⟨0, 9, 12, 28⟩ rfl (fun z hz => by cases hz) (by decide) (by decide) lk_28 ck_28 (Or.inr ⟨⟨3, rfl, rfl⟩, rfl⟩) (by decide) ?_
  refine R_iconst (v := 1) rfl rfl ?_
  exact T_ireturn rfl rfl ⟨σ1, rfl, q⟩
theorem lth_restore_2 {σ : am_G} {a1 : Int32} {P : am_G → Prop} (hD : am_Call am_TX 8 1 c_D_restore [.ref 0, .int a1] (mm σ) (am_ThP "java/lang/IllegalStateException" P)) : am_Call am_TX 9 1 c_L_restore [.ref 0, .int a1, .ref 132] (mm σ) (am_Ok (some (.int 2)) P) := by
  refine ⟨mf_L_restore, Nat.le_of_ble_eq_true rfl, ?_⟩
  show am_R _ _ _ _ 0 [some (.ref 0), some (.int a1), some (.ref 132), none] [] _ _
  refine R_aload_n rfl rfl ?_
  refine R_iconst (v := 0) rfl rfl ?_
  refine R_aload_n rfl rfl ?_
  refine R_iload_n rfl rfl ?_
  refine R_cVxP (k := 0) (as := [.int a1]) rfl rfl iv_D_restore hD (by decide) rfl rfl tk_0 (by decide) rfl rfl (Nat.le_of_ble_eq_true rfl) (fun σ1 q => ?_)
  refine Rx_catch (i := 3) (hh := [(0, 9, 12, 28), (0, 9, 15, 13)]) rfl [⟨0, 9, 12, 28⟩] [] ⟨0, 9, 15, 13⟩ rfl (fun z hz => by
    rcases List.mem_cons.mp hz with rfl | hz
    · exact Or.inr ⟨by decide, "java/lang/IndexOutOfBoundsException", lk_28, List.mem_of_getElem? (i := 2) rfl⟩
    cases hz) (by decide) (by decide) lk_13 ck_13 (Or.inr ⟨⟨3, rfl, rfl⟩, rfl⟩) (by decide) ?_
  refine R_iconst (v := 2) rfl rfl ?_
  exact T_ireturn rfl rfl ⟨σ1, rfl, q⟩
theorem lok_undo {σ : am_G} {b : Int32} {P : am_G → Prop} (hD : am_Call am_TX 8 0 c_D_undo [.ref 0] (mm σ) (am_Ok (some (.int b)) P)) : am_Call am_TX 9 0 c_L_undo [.ref 0, .ref 132] (mm σ) (am_Ok (some (.int 0)) (fun σ2 => ∃ σ1, P σ1 ∧ σ2 = sL σ1 132 0 (b.toInt64))) := by
  refine ⟨mf_L_undo, Nat.le_of_ble_eq_true rfl, ?_⟩
  show am_R _ _ _ _ 0 [some (.ref 0), some (.ref 132), none] [] _ _
  refine R_aload_n rfl rfl ?_
  refine R_iconst (v := 0) rfl rfl ?_
  refine R_aload_n rfl rfl ?_
  refine R_cV (as := []) rfl rfl iv_D_undo hD (by decide) rfl rfl tk_0 (by decide) rfl rfl (Nat.le_of_ble_eq_true rfl) (fun σ1 q => ?_)
  refine R_i2l rfl ?_
  refine R_wL (j := 0) rfl tk_132 rfl (by decide) (by decide) ?_
  refine R_goto rfl rfl ?_
  refine R_iconst (v := 0) rfl rfl ?_
  exact T_ireturn rfl rfl ⟨_, rfl, σ1, q, rfl⟩
theorem lth_undo_1 {σ : am_G} {P : am_G → Prop} (hD : am_Call am_TX 8 1 c_D_undo [.ref 0] (mm σ) (am_ThP "java/lang/IllegalStateException" P)) : am_Call am_TX 9 1 c_L_undo [.ref 0, .ref 132] (mm σ) (am_Ok (some (.int 1)) P) := by
  refine ⟨mf_L_undo, Nat.le_of_ble_eq_true rfl, ?_⟩
  show am_R _ _ _ _ 0 [some (.ref 0), some (.ref 132), none] [] _ _
  refine R_aload_n rfl rfl ?_
  refine R_iconst (v := 0) rfl rfl ?_
  refine R_aload_n rfl rfl ?_
  refine R_cVxP (k := 0) (as := []) rfl rfl iv_D_undo hD (by decide) rfl rfl tk_0 (by decide) rfl rfl (Nat.le_of_ble_eq_true rfl) (fun σ1 q => ?_)
  refine Rx_catch (i := 2) (hh := [(0, 8, 11, 13)]) rfl [] [] ⟨0, 8, 11, 13⟩ rfl (fun z hz => by cases hz) (by decide) (by decide) lk_13 ck_13 (Or.inr ⟨⟨2, rfl, rfl⟩, rfl⟩) (by decide) ?_
  refine R_iconst (v := 1) rfl rfl ?_
  exact T_ireturn rfl rfl ⟨σ1, rfl, q⟩
theorem lok_writeRelation {σ : am_G} {a1 : Int32} {b : Int32} {P : am_G → Prop} (hD : am_Call am_TX 8 0 c_D_writeRelation [.ref 0, .int a1] (mm σ) (am_Ok (some (.int b)) P)) : am_Call am_TX 9 0 c_L_writeRelation [.ref 0, .int a1, .ref 132] (mm σ) (am_Ok (some (.int 0)) (fun σ2 => ∃ σ1, P σ1 ∧ σ2 = sL σ1 132 0 (b.toInt64))) := by
  refine ⟨mf_L_writeRelation, Nat.le_of_ble_eq_true rfl, ?_⟩
  show am_R _ _ _ _ 0 [some (.ref 0), some (.int a1), some (.ref 132), none] [] _ _
  refine R_aload_n rfl rfl ?_
  refine R_iconst (v := 0) rfl rfl ?_
  refine R_aload_n rfl rfl ?_
  refine R_iload_n rfl rfl ?_
  refine R_cV (as := [.int a1]) rfl rfl iv_D_writeRelation hD (by decide) rfl rfl tk_0 (by decide) rfl rfl (Nat.le_of_ble_eq_true rfl) (fun σ1 q => ?_)
  refine R_i2l rfl ?_
  refine R_wL (j := 0) rfl tk_132 rfl (by decide) (by decide) ?_
  refine R_goto rfl rfl ?_
  refine R_iconst (v := 0) rfl rfl ?_
  exact T_ireturn rfl rfl ⟨_, rfl, σ1, q, rfl⟩
theorem lth_writeRelation_1 {σ : am_G} {a1 : Int32} {P : am_G → Prop} (hD : am_Call am_TX 8 1 c_D_writeRelation [.ref 0, .int a1] (mm σ) (am_ThP "java/lang/IndexOutOfBoundsException" P)) : am_Call am_TX 9 1 c_L_writeRelation [.ref 0, .int a1, .ref 132] (mm σ) (am_Ok (some (.int 1)) P) := by
  refine ⟨mf_L_writeRelation, Nat.le_of_ble_eq_true rfl, ?_⟩
  show am_R _ _ _ _ 0 [some (.ref 0), some (.int a1), some (.ref 132), none] [] _ _
  refine R_aload_n rfl rfl ?_
  refine R_iconst (v := 0) rfl rfl ?_
  refine R_aload_n rfl rfl ?_
  refine R_iload_n rfl rfl ?_
  refine R_cVxP (k := 0) (as := [.int a1]) rfl rfl iv_D_writeRelation hD (by decide) rfl rfl tk_0 (by decide) rfl rfl (Nat.le_of_ble_eq_true rfl) (fun σ1 q => ?_)
  refine Rx_catch (i := 3) (hh := [(0, 9, 12, 28), (0, 9, 15, 64)]) rfl [] [⟨0, 9, 15, 64⟩] ⟨0, 9, 12, 28⟩ rfl (fun z hz => by cases hz) (by decide) (by decide) lk_28 ck_28 (Or.inr ⟨⟨3, rfl, rfl⟩, rfl⟩) (by decide) ?_
  refine R_iconst (v := 1) rfl rfl ?_
  exact T_ireturn rfl rfl ⟨σ1, rfl, q⟩
theorem lth_writeRelation_2 {σ : am_G} {a1 : Int32} {P : am_G → Prop} (hD : am_Call am_TX 8 1 c_D_writeRelation [.ref 0, .int a1] (mm σ) (am_ThP "java/util/NoSuchElementException" P)) : am_Call am_TX 9 1 c_L_writeRelation [.ref 0, .int a1, .ref 132] (mm σ) (am_Ok (some (.int 2)) P) := by
  refine ⟨mf_L_writeRelation, Nat.le_of_ble_eq_true rfl, ?_⟩
  show am_R _ _ _ _ 0 [some (.ref 0), some (.int a1), some (.ref 132), none] [] _ _
  refine R_aload_n rfl rfl ?_
  refine R_iconst (v := 0) rfl rfl ?_
  refine R_aload_n rfl rfl ?_
  refine R_iload_n rfl rfl ?_
  refine R_cVxP (k := 0) (as := [.int a1]) rfl rfl iv_D_writeRelation hD (by decide) rfl rfl tk_0 (by decide) rfl rfl (Nat.le_of_ble_eq_true rfl) (fun σ1 q => ?_)
  refine Rx_catch (i := 3) (hh := [(0, 9, 12, 28), (0, 9, 15, 64)]) rfl [⟨0, 9, 12, 28⟩] [] ⟨0, 9, 15, 64⟩ rfl (fun z hz => by
    rcases List.mem_cons.mp hz with rfl | hz
    · exact Or.inr ⟨by decide, "java/lang/IndexOutOfBoundsException", lk_28, List.mem_of_getElem? (i := 1) rfl⟩
    cases hz) (by decide) (by decide) lk_64 ck_64 (Or.inr ⟨⟨3, rfl, rfl⟩, rfl⟩) (by decide) ?_
  refine R_iconst (v := 2) rfl rfl ?_
  exact T_ireturn rfl rfl ⟨σ1, rfl, q⟩
theorem lok_writeEchelon {σ : am_G} {a1 : Int32} {b : Int32} {P : am_G → Prop} (hD : am_Call am_TX 8 0 c_D_writeEchelon [.ref 0, .int a1] (mm σ) (am_Ok (some (.int b)) P)) : am_Call am_TX 9 0 c_L_writeEchelon [.ref 0, .int a1, .ref 132] (mm σ) (am_Ok (some (.int 0)) (fun σ2 => ∃ σ1, P σ1 ∧ σ2 = sL σ1 132 0 (b.toInt64))) := by
  refine ⟨mf_L_writeEchelon, Nat.le_of_ble_eq_true rfl, ?_⟩
  show am_R _ _ _ _ 0 [some (.ref 0), some (.int a1), some (.ref 132), none] [] _ _
  refine R_aload_n rfl rfl ?_
  refine R_iconst (v := 0) rfl rfl ?_
  refine R_aload_n rfl rfl ?_
  refine R_iload_n rfl rfl ?_
  refine R_cV (as := [.int a1]) rfl rfl iv_D_writeEchelon hD (by decide) rfl rfl tk_0 (by decide) rfl rfl (Nat.le_of_ble_eq_true rfl) (fun σ1 q => ?_)
  refine R_i2l rfl ?_
  refine R_wL (j := 0) rfl tk_132 rfl (by decide) (by decide) ?_
  refine R_goto rfl rfl ?_
  refine R_iconst (v := 0) rfl rfl ?_
  exact T_ireturn rfl rfl ⟨_, rfl, σ1, q, rfl⟩
theorem lth_writeEchelon_1 {σ : am_G} {a1 : Int32} {P : am_G → Prop} (hD : am_Call am_TX 8 1 c_D_writeEchelon [.ref 0, .int a1] (mm σ) (am_ThP "java/lang/IllegalArgumentException" P)) : am_Call am_TX 9 1 c_L_writeEchelon [.ref 0, .int a1, .ref 132] (mm σ) (am_Ok (some (.int 1)) P) := by
  refine ⟨mf_L_writeEchelon, Nat.le_of_ble_eq_true rfl, ?_⟩
  show am_R _ _ _ _ 0 [some (.ref 0), some (.int a1), some (.ref 132), none] [] _ _
  refine R_aload_n rfl rfl ?_
  refine R_iconst (v := 0) rfl rfl ?_
  refine R_aload_n rfl rfl ?_
  refine R_iload_n rfl rfl ?_
  refine R_cVxP (k := 0) (as := [.int a1]) rfl rfl iv_D_writeEchelon hD (by decide) rfl rfl tk_0 (by decide) rfl rfl (Nat.le_of_ble_eq_true rfl) (fun σ1 q => ?_)
  refine Rx_catch (i := 3) (hh := [(0, 9, 12, 19)]) rfl [] [] ⟨0, 9, 12, 19⟩ rfl (fun z hz => by cases hz) (by decide) (by decide) lk_19 ck_19 (Or.inr ⟨⟨3, rfl, rfl⟩, rfl⟩) (by decide) ?_
  refine R_iconst (v := 1) rfl rfl ?_
  exact T_ireturn rfl rfl ⟨σ1, rfl, q⟩
theorem lok_writeRanks {σ : am_G} {a1 : Int32} {b : Int32} {P : am_G → Prop} (hD : am_Call am_TX 8 0 c_D_writeRanks [.ref 0, .int a1] (mm σ) (am_Ok (some (.int b)) P)) : am_Call am_TX 9 0 c_L_writeRanks [.ref 0, .int a1, .ref 132] (mm σ) (am_Ok (some (.int 0)) (fun σ2 => ∃ σ1, P σ1 ∧ σ2 = sL σ1 132 0 (b.toInt64))) := by
  refine ⟨mf_L_writeRanks, Nat.le_of_ble_eq_true rfl, ?_⟩
  show am_R _ _ _ _ 0 [some (.ref 0), some (.int a1), some (.ref 132), none] [] _ _
  refine R_aload_n rfl rfl ?_
  refine R_iconst (v := 0) rfl rfl ?_
  refine R_aload_n rfl rfl ?_
  refine R_iload_n rfl rfl ?_
  refine R_cV (as := [.int a1]) rfl rfl iv_D_writeRanks hD (by decide) rfl rfl tk_0 (by decide) rfl rfl (Nat.le_of_ble_eq_true rfl) (fun σ1 q => ?_)
  refine R_i2l rfl ?_
  refine R_wL (j := 0) rfl tk_132 rfl (by decide) (by decide) ?_
  refine R_goto rfl rfl ?_
  refine R_iconst (v := 0) rfl rfl ?_
  exact T_ireturn rfl rfl ⟨_, rfl, σ1, q, rfl⟩
theorem lth_writeRanks_1 {σ : am_G} {a1 : Int32} {P : am_G → Prop} (hD : am_Call am_TX 8 1 c_D_writeRanks [.ref 0, .int a1] (mm σ) (am_ThP "java/lang/IllegalArgumentException" P)) : am_Call am_TX 9 1 c_L_writeRanks [.ref 0, .int a1, .ref 132] (mm σ) (am_Ok (some (.int 1)) P) := by
  refine ⟨mf_L_writeRanks, Nat.le_of_ble_eq_true rfl, ?_⟩
  show am_R _ _ _ _ 0 [some (.ref 0), some (.int a1), some (.ref 132), none] [] _ _
  refine R_aload_n rfl rfl ?_
  refine R_iconst (v := 0) rfl rfl ?_
  refine R_aload_n rfl rfl ?_
  refine R_iload_n rfl rfl ?_
  refine R_cVxP (k := 0) (as := [.int a1]) rfl rfl iv_D_writeRanks hD (by decide) rfl rfl tk_0 (by decide) rfl rfl (Nat.le_of_ble_eq_true rfl) (fun σ1 q => ?_)
  refine Rx_catch (i := 3) (hh := [(0, 9, 12, 19)]) rfl [] [] ⟨0, 9, 12, 19⟩ rfl (fun z hz => by cases hz) (by decide) (by decide) lk_19 ck_19 (Or.inr ⟨⟨3, rfl, rfl⟩, rfl⟩) (by decide) ?_
  refine R_iconst (v := 1) rfl rfl ?_
  exact T_ireturn rfl rfl ⟨σ1, rfl, q⟩
theorem lok_outputByte {σ : am_G} {a1 : Int32} {b : Int32} {P : am_G → Prop} (hD : am_Call am_TX 8 0 c_D_outputByte [.ref 0, .int a1] (mm σ) (am_Ok (some (.int b)) P)) : am_Call am_TX 9 0 c_L_outputByte [.ref 0, .int a1, .ref 132] (mm σ) (am_Ok (some (.int 0)) (fun σ2 => ∃ σ1, P σ1 ∧ σ2 = sL σ1 132 0 (b.toInt64))) := by
  refine ⟨mf_L_outputByte, Nat.le_of_ble_eq_true rfl, ?_⟩
  show am_R _ _ _ _ 0 [some (.ref 0), some (.int a1), some (.ref 132), none] [] _ _
  refine R_aload_n rfl rfl ?_
  refine R_iconst (v := 0) rfl rfl ?_
  refine R_aload_n rfl rfl ?_
  refine R_iload_n rfl rfl ?_
  refine R_cV (as := [.int a1]) rfl rfl iv_D_outputByte hD (by decide) rfl rfl tk_0 (by decide) rfl rfl (Nat.le_of_ble_eq_true rfl) (fun σ1 q => ?_)
  refine R_i2l rfl ?_
  refine R_wL (j := 0) rfl tk_132 rfl (by decide) (by decide) ?_
  refine R_goto rfl rfl ?_
  refine R_iconst (v := 0) rfl rfl ?_
  exact T_ireturn rfl rfl ⟨_, rfl, σ1, q, rfl⟩
theorem lth_outputByte_1 {σ : am_G} {a1 : Int32} {P : am_G → Prop} (hD : am_Call am_TX 8 1 c_D_outputByte [.ref 0, .int a1] (mm σ) (am_ThP "java/lang/IndexOutOfBoundsException" P)) : am_Call am_TX 9 1 c_L_outputByte [.ref 0, .int a1, .ref 132] (mm σ) (am_Ok (some (.int 1)) P) := by
  refine ⟨mf_L_outputByte, Nat.le_of_ble_eq_true rfl, ?_⟩
  show am_R _ _ _ _ 0 [some (.ref 0), some (.int a1), some (.ref 132), none] [] _ _
  refine R_aload_n rfl rfl ?_
  refine R_iconst (v := 0) rfl rfl ?_
  refine R_aload_n rfl rfl ?_
  refine R_iload_n rfl rfl ?_
  refine R_cVxP (k := 0) (as := [.int a1]) rfl rfl iv_D_outputByte hD (by decide) rfl rfl tk_0 (by decide) rfl rfl (Nat.le_of_ble_eq_true rfl) (fun σ1 q => ?_)
  refine Rx_catch (i := 3) (hh := [(0, 9, 12, 28)]) rfl [] [] ⟨0, 9, 12, 28⟩ rfl (fun z hz => by cases hz) (by decide) (by decide) lk_28 ck_28 (Or.inr ⟨⟨3, rfl, rfl⟩, rfl⟩) (by decide) ?_
  refine R_iconst (v := 1) rfl rfl ?_
  exact T_ireturn rfl rfl ⟨σ1, rfl, q⟩
