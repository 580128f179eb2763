/-! ===== the tie of every call ===== -/
theorem pOq_o : ∀ a b, pOq a b → (a = 120 ∧ (b < 12 ∧ b ≠ 4 ∨ b = 27)) ∨ a = 123 ∨ a = 124 ∨ a = 125 ∨ a = 131 := fun a b h => by unfold pOq at h; omega
theorem op_count {σ : am_G} {d : Dk} (T : TC σ d) (M : TM σ d) (a1 : Int32) : OpC Value.int Int32.toInt64 c_L_count [.ref 0, .int a1, .ref 132] c_M_count [.ref 120, .int a1] σ := by
  obtain ⟨⟨h, w, f, v, rh, rl, pn, I⟩, n, Hs, k0, k1, nb, B, O, ec, ep⟩ := d
  have hv : vS σ 26 h w f v rh rl pn I := T.1
  have hH : cH σ n Hs := T.2.1
  obtain ⟨⟨⟨h1, h6⟩, w1, w6⟩, okS, okz, ⟨p6, P, hP⟩, okg, okc, r6, okv, okr⟩ : okV h w f v rh rl pn I := M.1.2.1
  by_cases z0 : a1 = 0
  · subst z0
    exact ansI T M (lok_count (sp_D_count_0 (hv := hv))) (fun σ1 (hn : nV σ1 h w f v rh rl pn I) => (sp_M_count_0 (hn := hn))) (by decide)
  by_cases z1 : a1 = 1
  · subst z1
    exact ansI T M (lok_count (sp_D_count_1 (hv := hv))) (fun σ1 (hn : nV σ1 h w f v rh rl pn I) => (sp_M_count_1 (hn := hn))) (by decide)
  by_cases z2 : a1 = 2
  · subst z2
    exact ansI T M (lok_count (sp_D_count_2 (hv := hv))) (fun σ1 (hn : nV σ1 h w f v rh rl pn I) => (sp_M_count_2 (hn := hn))) (by decide)
  by_cases z3 : a1 = 3
  · subst z3
    exact ansI T M (lok_count (sp_D_count_3 (hv := hv))) (fun σ1 (hn : nV σ1 h w f v rh rl pn I) => (sp_M_count_3 (hn := hn))) (by decide)
  by_cases z4 : a1 = 4
  · subst z4
    exact ansI T M (lok_count (sp_D_count_4 (hv := hv))) (fun σ1 (hn : nV σ1 h w f v rh rl pn I) => (sp_M_count_4 (hn := hn))) (by decide)
  by_cases z5 : a1 = 5
  · subst z5
    exact ansI T M (lok_count (sp_D_count_5 (hv := hv))) (fun σ1 (hn : nV σ1 h w f v rh rl pn I) => (sp_M_count_5 (hn := hn))) (by decide)
  by_cases z6 : a1 = 6
  · subst z6
    exact ansI T M (lok_count (sp_D_count_6 (hv := hv))) (fun σ1 (hn : nV σ1 h w f v rh rl pn I) => (sp_M_count_6 (hn := hn))) (by decide)
  have hb : ¬ (0 ≤ a1 ∧ a1 ≤ 6) := fun z => by
    obtain ⟨r, hr, rfl⟩ := ix_le (h := 6) (by decide) z
    rcases (show r = 0 ∨ r = 1 ∨ r = 2 ∨ r = 3 ∨ r = 4 ∨ r = 5 ∨ r = 6 by omega) with rfl | rfl | rfl | rfl | rfl | rfl | rfl
    · exact z0 rfl
    · exact z1 rfl
    · exact z2 rfl
    · exact z3 rfl
    · exact z4 rfl
    · exact z5 rfl
    · exact z6 rfl
  exact ansX T M (lth_count_1 (sp_D_count_x0 (hv := hv) (hb := hb))) (fun σ1 (hn : nV σ1 h w f v rh rl pn I) => (sp_M_count_x0 (hn := hn) (hb := hb))) (by decide) (by decide)
theorem op_prime {σ : am_G} {d : Dk} (T : TC σ d) (M : TM σ d) (a1 : Int32) : OpC Value.int Int32.toInt64 c_L_prime [.ref 0, .int a1, .ref 132] c_M_prime [.ref 120, .int a1] σ := by
  obtain ⟨⟨h, w, f, v, rh, rl, pn, I⟩, n, Hs, k0, k1, nb, B, O, ec, ep⟩ := d
  have hv : vS σ 26 h w f v rh rl pn I := T.1
  have hH : cH σ n Hs := T.2.1
  obtain ⟨⟨⟨h1, h6⟩, w1, w6⟩, okS, okz, ⟨p6, P, hP⟩, okg, okc, r6, okv, okr⟩ : okV h w f v rh rl pn I := M.1.2.1
  by_cases c1 : 0 ≤ a1 ∧ a1 < nI pn
  · obtain ⟨r1, q1, rfl⟩ := ix_lt p6 c1
    exact ansI T M (lok_prime (sp_D_prime (hv := hv) (p_p := q1))) (fun σ1 (hn : nV σ1 h w f v rh rl pn I) => (sp_M_prime (hn := hn) (p_p := q1))) (by decide)
  · skip
    exact ansX T M (lth_prime_1 (sp_D_prime_x0 (hv := hv) (hb := c1))) (fun σ1 (hn : nV σ1 h w f v rh rl pn I) => (sp_M_prime_x0 (hn := hn) (hb := c1))) (by decide) (by decide)
theorem op_entry {σ : am_G} {d : Dk} (T : TC σ d) (M : TM σ d) (a1 a2 : Int32) : OpC Value.int Int32.toInt64 c_L_entry [.ref 0, .int a1, .int a2, .ref 132] c_M_entry [.ref 120, .int a1, .int a2] σ := by
  obtain ⟨⟨h, w, f, v, rh, rl, pn, I⟩, n, Hs, k0, k1, nb, B, O, ec, ep⟩ := d
  have hv : vS σ 26 h w f v rh rl pn I := T.1
  have hH : cH σ n Hs := T.2.1
  obtain ⟨⟨⟨h1, h6⟩, w1, w6⟩, okS, okz, ⟨p6, P, hP⟩, okg, okc, r6, okv, okr⟩ : okV h w f v rh rl pn I := M.1.2.1
  by_cases c1 : 0 ≤ a1 ∧ a1 < nI h
  · obtain ⟨r1, q1, rfl⟩ := ix_lt h6 c1
    by_cases c2 : 0 ≤ a2 ∧ a2 < nI w
    · obtain ⟨r2, q2, rfl⟩ := ix_lt w6 c2
      exact ansI T M (lok_entry (sp_D_entry (hv := hv) (i_h := q1) (j_w := q2))) (fun σ1 (hn : nV σ1 h w f v rh rl pn I) => (sp_M_entry (hn := hn) (i_h := q1) (j_w := q2))) (by decide)
    · skip
      exact ansX T M (lth_entry_1 (sp_D_entry_x0y (hv := hv) (i_h := q1) (hb := c2))) (fun σ1 (hn : nV σ1 h w f v rh rl pn I) => (sp_M_entry_x0y (hn := hn) (i_h := q1) (hb := c2))) (by decide) (by decide)
  · skip
    exact ansX T M (lth_entry_1 (sp_D_entry_x0x (hv := hv) (hb := c1))) (fun σ1 (hn : nV σ1 h w f v rh rl pn I) => (sp_M_entry_x0x (hn := hn) (hb := c1))) (by decide) (by decide)
theorem op_rank {σ : am_G} {d : Dk} (T : TC σ d) (M : TM σ d) (a1 : Int32) : OpC Value.int Int32.toInt64 c_L_rank [.ref 0, .int a1, .ref 132] c_M_rank [.ref 120, .int a1] σ := by
  obtain ⟨⟨h, w, f, v, rh, rl, pn, I⟩, n, Hs, k0, k1, nb, B, O, ec, ep⟩ := d
  have hv : vS σ 26 h w f v rh rl pn I := T.1
  have hH : cH σ n Hs := T.2.1
  obtain ⟨⟨⟨h1, h6⟩, w1, w6⟩, okS, okz, ⟨p6, P, hP⟩, okg, okc, r6, okv, okr⟩ : okV h w f v rh rl pn I := M.1.2.1
  by_cases c1 : ∃ m, m ∈ mdL ∧ a1 = nI m
  · obtain ⟨m1, q1, rfl⟩ := c1
    exact ansI T M (lok_rank (sp_D_rank (hv := hv) (hmd := q1))) (fun σ1 (hn : nV σ1 h w f v rh rl pn I) => (sp_M_rank (hn := hn) (hmd := q1))) (by decide)
  · skip
    exact ansX T M (lth_rank_1 (sp_D_rank_x0 (hv := hv) (hb := fun n h1 h2 => c1 ⟨n, h1, h2⟩))) (fun σ1 (hn : nV σ1 h w f v rh rl pn I) => (sp_M_rank_x0 (hn := hn) (hb := fun n h1 h2 => c1 ⟨n, h1, h2⟩))) (by decide) (by decide)
theorem op_rowProfile {σ : am_G} {d : Dk} (T : TC σ d) (M : TM σ d) (a1 : Int32) : OpC Value.int Int32.toInt64 c_L_rowProfile [.ref 0, .int a1, .ref 132] c_M_rowProfile [.ref 120, .int a1] σ := by
  obtain ⟨⟨h, w, f, v, rh, rl, pn, I⟩, n, Hs, k0, k1, nb, B, O, ec, ep⟩ := d
  have hv : vS σ 26 h w f v rh rl pn I := T.1
  have hH : cH σ n Hs := T.2.1
  obtain ⟨⟨⟨h1, h6⟩, w1, w6⟩, okS, okz, ⟨p6, P, hP⟩, okg, okc, r6, okv, okr⟩ : okV h w f v rh rl pn I := M.1.2.1
  by_cases c1 : ∃ m, m ∈ mdL ∧ a1 = nI m
  · obtain ⟨m1, q1, rfl⟩ := c1
    exact ansI T M (lok_rowProfile (sp_D_rowProfile (hv := hv) (hmd := q1))) (fun σ1 (hn : nV σ1 h w f v rh rl pn I) => (sp_M_rowProfile (hn := hn) (hmd := q1))) (by decide)
  · skip
    exact ansX T M (lth_rowProfile_1 (sp_D_rowProfile_x0 (hv := hv) (hb := fun n h1 h2 => c1 ⟨n, h1, h2⟩))) (fun σ1 (hn : nV σ1 h w f v rh rl pn I) => (sp_M_rowProfile_x0 (hn := hn) (hb := fun n h1 h2 => c1 ⟨n, h1, h2⟩))) (by decide) (by decide)
theorem op_columnProfile {σ : am_G} {d : Dk} (T : TC σ d) (M : TM σ d) (a1 : Int32) : OpC Value.int Int32.toInt64 c_L_columnProfile [.ref 0, .int a1, .ref 132] c_M_columnProfile [.ref 120, .int a1] σ := by
  obtain ⟨⟨h, w, f, v, rh, rl, pn, I⟩, n, Hs, k0, k1, nb, B, O, ec, ep⟩ := d
  have hv : vS σ 26 h w f v rh rl pn I := T.1
  have hH : cH σ n Hs := T.2.1
  obtain ⟨⟨⟨h1, h6⟩, w1, w6⟩, okS, okz, ⟨p6, P, hP⟩, okg, okc, r6, okv, okr⟩ : okV h w f v rh rl pn I := M.1.2.1
  by_cases c1 : ∃ m, m ∈ mdL ∧ a1 = nI m
  · obtain ⟨m1, q1, rfl⟩ := c1
    exact ansI T M (lok_columnProfile (sp_D_columnProfile (hv := hv) (hmd := q1))) (fun σ1 (hn : nV σ1 h w f v rh rl pn I) => (sp_M_columnProfile (hn := hn) (hmd := q1))) (by decide)
  · skip
    exact ansX T M (lth_columnProfile_1 (sp_D_columnProfile_x0 (hv := hv) (hb := fun n h1 h2 => c1 ⟨n, h1, h2⟩))) (fun σ1 (hn : nV σ1 h w f v rh rl pn I) => (sp_M_columnProfile_x0 (hn := hn) (hb := fun n h1 h2 => c1 ⟨n, h1, h2⟩))) (by decide) (by decide)
theorem op_nullity {σ : am_G} {d : Dk} (T : TC σ d) (M : TM σ d) (a1 : Int32) : OpC Value.int Int32.toInt64 c_L_nullity [.ref 0, .int a1, .ref 132] c_M_nullity [.ref 120, .int a1] σ := by
  obtain ⟨⟨h, w, f, v, rh, rl, pn, I⟩, n, Hs, k0, k1, nb, B, O, ec, ep⟩ := d
  have hv : vS σ 26 h w f v rh rl pn I := T.1
  have hH : cH σ n Hs := T.2.1
  obtain ⟨⟨⟨h1, h6⟩, w1, w6⟩, okS, okz, ⟨p6, P, hP⟩, okg, okc, r6, okv, okr⟩ : okV h w f v rh rl pn I := M.1.2.1
  by_cases c1 : ∃ m, m ∈ mdL ∧ a1 = nI m
  · obtain ⟨m1, q1, rfl⟩ := c1
    exact ansI T M (lok_nullity (sp_D_nullity (hv := hv) (hmd := q1))) (fun σ1 (hn : nV σ1 h w f v rh rl pn I) => (sp_M_nullity (hn := hn) (hmd := q1))) (by decide)
  · skip
    exact ansX T M (lth_nullity_1 (sp_D_nullity_x0 (hv := hv) (hb := fun n h1 h2 => c1 ⟨n, h1, h2⟩))) (fun σ1 (hn : nV σ1 h w f v rh rl pn I) => (sp_M_nullity_x0 (hn := hn) (hb := fun n h1 h2 => c1 ⟨n, h1, h2⟩))) (by decide) (by decide)
theorem op_bases {σ : am_G} {d : Dk} (T : TC σ d) (M : TM σ d) (a1 : Int32) : OpC Value.int Int32.toInt64 c_L_bases [.ref 0, .int a1, .ref 132] c_M_bases [.ref 120, .int a1] σ := by
  obtain ⟨⟨h, w, f, v, rh, rl, pn, I⟩, n, Hs, k0, k1, nb, B, O, ec, ep⟩ := d
  have hv : vS σ 26 h w f v rh rl pn I := T.1
  have hH : cH σ n Hs := T.2.1
  obtain ⟨⟨⟨h1, h6⟩, w1, w6⟩, okS, okz, ⟨p6, P, hP⟩, okg, okc, r6, okv, okr⟩ : okV h w f v rh rl pn I := M.1.2.1
  by_cases c1 : ∃ m, m ∈ mdL ∧ a1 = nI m
  · obtain ⟨m1, q1, rfl⟩ := c1
    exact ansI T M (lok_bases (sp_D_bases (hv := hv) (hmd := q1))) (fun σ1 (hn : nV σ1 h w f v rh rl pn I) => (sp_M_bases (hn := hn) (hmd := q1))) (by decide)
  · skip
    exact ansX T M (lth_bases_1 (sp_D_bases_x0 (hv := hv) (hb := fun n h1 h2 => c1 ⟨n, h1, h2⟩))) (fun σ1 (hn : nV σ1 h w f v rh rl pn I) => (sp_M_bases_x0 (hn := hn) (hb := fun n h1 h2 => c1 ⟨n, h1, h2⟩))) (by decide) (by decide)
theorem op_circuits {σ : am_G} {d : Dk} (T : TC σ d) (M : TM σ d) (a1 : Int32) : OpC Value.int Int32.toInt64 c_L_circuits [.ref 0, .int a1, .ref 132] c_M_circuits [.ref 120, .int a1] σ := by
  obtain ⟨⟨h, w, f, v, rh, rl, pn, I⟩, n, Hs, k0, k1, nb, B, O, ec, ep⟩ := d
  have hv : vS σ 26 h w f v rh rl pn I := T.1
  have hH : cH σ n Hs := T.2.1
  obtain ⟨⟨⟨h1, h6⟩, w1, w6⟩, okS, okz, ⟨p6, P, hP⟩, okg, okc, r6, okv, okr⟩ : okV h w f v rh rl pn I := M.1.2.1
  by_cases c1 : ∃ m, m ∈ mdL ∧ a1 = nI m
  · obtain ⟨m1, q1, rfl⟩ := c1
    exact ansI T M (lok_circuits (sp_D_circuits (hv := hv) (hmd := q1))) (fun σ1 (hn : nV σ1 h w f v rh rl pn I) => (sp_M_circuits (hn := hn) (hmd := q1))) (by decide)
  · skip
    exact ansX T M (lth_circuits_1 (sp_D_circuits_x0 (hv := hv) (hb := fun n h1 h2 => c1 ⟨n, h1, h2⟩))) (fun σ1 (hn : nV σ1 h w f v rh rl pn I) => (sp_M_circuits_x0 (hn := hn) (hb := fun n h1 h2 => c1 ⟨n, h1, h2⟩))) (by decide) (by decide)
theorem op_rankOf {σ : am_G} {d : Dk} (T : TC σ d) (M : TM σ d) (a1 a2 a3 : Int32) : OpC Value.int Int32.toInt64 c_L_rankOf [.ref 0, .int a1, .int a2, .int a3, .ref 132] c_M_rankOf [.ref 120, .int a1, .int a2, .int a3] σ := by
  obtain ⟨⟨h, w, f, v, rh, rl, pn, I⟩, n, Hs, k0, k1, nb, B, O, ec, ep⟩ := d
  have hv : vS σ 26 h w f v rh rl pn I := T.1
  have hH : cH σ n Hs := T.2.1
  obtain ⟨⟨⟨h1, h6⟩, w1, w6⟩, okS, okz, ⟨p6, P, hP⟩, okg, okc, r6, okv, okr⟩ : okV h w f v rh rl pn I := M.1.2.1
  by_cases c1 : ∃ m, m ∈ mdL ∧ a1 = nI m
  · obtain ⟨m1, q1, rfl⟩ := c1
    by_cases c2 : a2 &&& (nI (2 ^ h - 1) ^^^ (-1)) = 0
    · obtain ⟨S2, q2, rfl⟩ := msk_of h6 c2
      by_cases c3 : a3 &&& (nI (2 ^ w - 1) ^^^ (-1)) = 0
      · obtain ⟨S3, q3, rfl⟩ := msk_of w6 c3
        exact ansI T M (lok_rankOf (sp_D_rankOf (hv := hv) (hmd := q1) (hS := q2) (hT := q3))) (fun σ1 (hn : nV σ1 h w f v rh rl pn I) => (sp_M_rankOf (hn := hn) (hmd := q1) (hS := q2) (hT := q3))) (by decide)
      · skip
        exact ansX T M (lth_rankOf_1 (sp_D_rankOf_x2 (hv := hv) (hmd := q1) (hS := q2) (hb := c3))) (fun σ1 (hn : nV σ1 h w f v rh rl pn I) => (sp_M_rankOf_x2 (hn := hn) (hmd := q1) (hS := q2) (hb := c3))) (by decide) (by decide)
    · skip
      exact ansX T M (lth_rankOf_1 (sp_D_rankOf_x1 (hv := hv) (hmd := q1) (hb := c2))) (fun σ1 (hn : nV σ1 h w f v rh rl pn I) => (sp_M_rankOf_x1 (hn := hn) (hmd := q1) (hb := c2))) (by decide) (by decide)
  · skip
    exact ansX T M (lth_rankOf_1 (sp_D_rankOf_x0 (hv := hv) (hb := fun n h1 h2 => c1 ⟨n, h1, h2⟩))) (fun σ1 (hn : nV σ1 h w f v rh rl pn I) => (sp_M_rankOf_x0 (hn := hn) (hb := fun n h1 h2 => c1 ⟨n, h1, h2⟩))) (by decide) (by decide)
theorem op_minor {σ : am_G} {d : Dk} (T : TC σ d) (M : TM σ d) (a1 a2 : Int32) : OpC Value.long (fun b => b) c_L_minor [.ref 0, .int a1, .int a2, .ref 132] c_M_minor [.ref 120, .int a1, .int a2] σ := by
  obtain ⟨⟨h, w, f, v, rh, rl, pn, I⟩, n, Hs, k0, k1, nb, B, O, ec, ep⟩ := d
  have hv : vS σ 26 h w f v rh rl pn I := T.1
  have hH : cH σ n Hs := T.2.1
  obtain ⟨⟨⟨h1, h6⟩, w1, w6⟩, okS, okz, ⟨p6, P, hP⟩, okg, okc, r6, okv, okr⟩ : okV h w f v rh rl pn I := M.1.2.1
  by_cases c1 : a1 &&& (nI (2 ^ h - 1) ^^^ (-1)) = 0
  · obtain ⟨S1, q1, rfl⟩ := msk_of h6 c1
    by_cases c2 : a2 &&& (nI (2 ^ w - 1) ^^^ (-1)) = 0
    · obtain ⟨S2, q2, rfl⟩ := msk_of w6 c2
      by_cases c3 : pc S1 = pc S2
      · skip
        exact ansI T M (lok_minor (sp_D_minor (hv := hv) (hS := q1) (hT := q2) (hc := c3))) (fun σ1 (hn : nV σ1 h w f v rh rl pn I) => (sp_M_minor (hn := hn) (hS := q1) (hT := q2) (hc := c3))) (by decide)
      · skip
        exact ansX T M (lth_minor_1 (sp_D_minor_x0z (hv := hv) (hS := q1) (hT := q2) (hc := c3))) (fun σ1 (hn : nV σ1 h w f v rh rl pn I) => (sp_M_minor_x0z (hn := hn) (hS := q1) (hT := q2) (hc := c3))) (by decide) (by decide)
    · skip
      exact ansX T M (lth_minor_1 (sp_D_minor_x0y (hv := hv) (hs := c1) (hb := c2))) (fun σ1 (hn : nV σ1 h w f v rh rl pn I) => (sp_M_minor_x0y (hn := hn) (hs_ := c1) (hb := c2))) (by decide) (by decide)
  · skip
    exact ansX T M (lth_minor_1 (sp_D_minor_x0x (hv := hv) (hb := c1))) (fun σ1 (hn : nV σ1 h w f v rh rl pn I) => (sp_M_minor_x0x (hn := hn) (hb := c1))) (by decide) (by decide)
theorem op_pivot {σ : am_G} {d : Dk} (T : TC σ d) (M : TM σ d) (a1 a2 : Int32) : OpC Value.int Int32.toInt64 c_L_pivot [.ref 0, .int a1, .int a2, .ref 132] c_M_pivot [.ref 120, .int a1, .int a2] σ := by
  obtain ⟨⟨h, w, f, v, rh, rl, pn, I⟩, n, Hs, k0, k1, nb, B, O, ec, ep⟩ := d
  have hv : vS σ 26 h w f v rh rl pn I := T.1
  have hH : cH σ n Hs := T.2.1
  obtain ⟨⟨⟨h1, h6⟩, w1, w6⟩, okS, okz, ⟨p6, P, hP⟩, okg, okc, r6, okv, okr⟩ : okV h w f v rh rl pn I := M.1.2.1
  by_cases c1 : 0 ≤ a2 ∧ a2 < nI h
  · obtain ⟨r1, q1, rfl⟩ := ix_lt h6 c1
    by_cases c2 : ∃ m, m ∈ mdL ∧ a1 = nI m
    · obtain ⟨m2, q2, rfl⟩ := c2
      exact ansI T M (lok_pivot (sp_D_pivot (hv := hv) (r_h := q1) (hmd := q2))) (fun σ1 (hn : nV σ1 h w f v rh rl pn I) => (sp_M_pivot (hn := hn) (r_h := q1) (hmd := q2))) (by decide)
    · skip
      exact ansX T M (lth_pivot_2 (sp_D_pivot_x1 (hv := hv) (r_h := q1) (hb := fun n h1 h2 => c2 ⟨n, h1, h2⟩))) (fun σ1 (hn : nV σ1 h w f v rh rl pn I) => (sp_M_pivot_x1 (hn := hn) (r_h := q1) (hb := fun n h1 h2 => c2 ⟨n, h1, h2⟩))) (by decide) (by decide)
  · skip
    exact ansX T M (lth_pivot_1 (sp_D_pivot_x0 (hv := hv) (hb := c1))) (fun σ1 (hn : nV σ1 h w f v rh rl pn I) => (sp_M_pivot_x0 (hn := hn) (hb := c1))) (by decide) (by decide)
theorem op_divisor {σ : am_G} {d : Dk} (T : TC σ d) (M : TM σ d) (a1 : Int32) : OpC Value.long (fun b => b) c_L_divisor [.ref 0, .int a1, .ref 132] c_M_divisor [.ref 120, .int a1] σ := by
  obtain ⟨⟨h, w, f, v, rh, rl, pn, I⟩, n, Hs, k0, k1, nb, B, O, ec, ep⟩ := d
  have hv : vS σ 26 h w f v rh rl pn I := T.1
  have hH : cH σ n Hs := T.2.1
  obtain ⟨⟨⟨h1, h6⟩, w1, w6⟩, okS, okz, ⟨p6, P, hP⟩, okg, okc, r6, okv, okr⟩ : okV h w f v rh rl pn I := M.1.2.1
  by_cases c1 : 0 ≤ a1 ∧ a1 ≤ 6
  · obtain ⟨r1, q1, rfl⟩ := ix_le (h := 6) (by decide) c1
    exact ansI T M (lok_divisor (sp_D_divisor (hv := hv) (n_k := q1))) (fun σ1 (hn : nV σ1 h w f v rh rl pn I) => (sp_M_divisor (hn := hn) (n_k := q1))) (by decide)
  · skip
    exact ansX T M (lth_divisor_1 (sp_D_divisor_x0 (hv := hv) (hb := c1))) (fun σ1 (hn : nV σ1 h w f v rh rl pn I) => (sp_M_divisor_x0 (hn := hn) (hb := c1))) (by decide) (by decide)
theorem op_nextUnlucky {σ : am_G} {d : Dk} (T : TC σ d) (M : TM σ d) (a1 : Int32) : OpC Value.int Int32.toInt64 c_L_nextUnlucky [.ref 0, .int a1, .ref 132] c_M_nextUnlucky [.ref 120, .int a1] σ := by
  obtain ⟨⟨h, w, f, v, rh, rl, pn, I⟩, n, Hs, k0, k1, nb, B, O, ec, ep⟩ := d
  have hv : vS σ 26 h w f v rh rl pn I := T.1
  have hH : cH σ n Hs := T.2.1
  obtain ⟨⟨⟨h1, h6⟩, w1, w6⟩, okS, okz, ⟨p6, P, hP⟩, okg, okc, r6, okv, okr⟩ : okV h w f v rh rl pn I := M.1.2.1
  by_cases c1 : 2 ≤ a1 ∧ a1 ≤ 97
  · obtain ⟨r1, q1, rfl⟩ := ix_rg (lo := 2) (hi := 97) (by decide) (by decide) c1
    exact ansI T M (lok_nextUnlucky (sp_D_nextUnlucky (hv := hv) (n_k := q1))) (fun σ1 (hn : nV σ1 h w f v rh rl pn I) => (sp_M_nextUnlucky (hn := hn) (n_k := q1))) (by decide)
  · skip
    exact ansX T M (lth_nextUnlucky_1 (sp_D_nextUnlucky_x0 (hv := hv) (hb := c1))) (fun σ1 (hn : nV σ1 h w f v rh rl pn I) => (sp_M_nextUnlucky_x0 (hn := hn) (hb := c1))) (by decide) (by decide)
theorem op_relation {σ : am_G} {d : Dk} (T : TC σ d) (M : TM σ d) (a1 a2 : Int32) : OpC Value.long (fun b => b) c_L_relation [.ref 0, .int a1, .int a2, .ref 132] c_M_relation [.ref 120, .int a1, .int a2] σ := by
  obtain ⟨⟨h, w, f, v, rh, rl, pn, I⟩, n, Hs, k0, k1, nb, B, O, ec, ep⟩ := d
  have hv : vS σ 26 h w f v rh rl pn I := T.1
  have hH : cH σ n Hs := T.2.1
  obtain ⟨⟨⟨h1, h6⟩, w1, w6⟩, okS, okz, ⟨p6, P, hP⟩, okg, okc, r6, okv, okr⟩ : okV h w f v rh rl pn I := M.1.2.1
  by_cases c1 : 0 ≤ a1 ∧ a1 < nI h
  · obtain ⟨r1, q1, rfl⟩ := ix_lt h6 c1
    by_cases c2 : 0 ≤ a2 ∧ a2 < nI h
    · obtain ⟨r2, q2, rfl⟩ := ix_lt h6 c2
      by_cases c3 : (prR f 0 h w h).testBit r1 = true
      · skip
        exact ansX T M (lth_relation_2 (sp_D_relation_n (hv := hv) (r_h := q1) (k_h := q2) (hn := c3))) (fun σ1 (hn : nV σ1 h w f v rh rl pn I) => (sp_M_relation_n (hn := hn) (r_h := q1) (k_h := q2) (hnp := c3))) (by decide) (by decide)
      · skip
        exact ansI T M (lok_relation (sp_D_relation (hv := hv) (r_h := q1) (k_h := q2) (hn := c3))) (fun σ1 (hn : nV σ1 h w f v rh rl pn I) => (sp_M_relation (hn := hn) (r_h := q1) (k_h := q2) (hnp := c3))) (by decide)
    · skip
      exact ansX T M (lth_relation_1 (sp_D_relation_x1 (hv := hv) (r_h := q1) (hb := c2))) (fun σ1 (hn : nV σ1 h w f v rh rl pn I) => (sp_M_relation_x1 (hn := hn) (r_h := q1) (hb := c2))) (by decide) (by decide)
  · skip
    exact ansX T M (lth_relation_1 (sp_D_relation_x0 (hv := hv) (hb := c1))) (fun σ1 (hn : nV σ1 h w f v rh rl pn I) => (sp_M_relation_x0 (hn := hn) (hb := c1))) (by decide) (by decide)
theorem op_columnRelation {σ : am_G} {d : Dk} (T : TC σ d) (M : TM σ d) (a1 a2 : Int32) : OpC Value.long (fun b => b) c_L_columnRelation [.ref 0, .int a1, .int a2, .ref 132] c_M_columnRelation [.ref 120, .int a1, .int a2] σ := by
  obtain ⟨⟨h, w, f, v, rh, rl, pn, I⟩, n, Hs, k0, k1, nb, B, O, ec, ep⟩ := d
  have hv : vS σ 26 h w f v rh rl pn I := T.1
  have hH : cH σ n Hs := T.2.1
  obtain ⟨⟨⟨h1, h6⟩, w1, w6⟩, okS, okz, ⟨p6, P, hP⟩, okg, okc, r6, okv, okr⟩ : okV h w f v rh rl pn I := M.1.2.1
  by_cases c1 : 0 ≤ a1 ∧ a1 < nI w
  · obtain ⟨r1, q1, rfl⟩ := ix_lt w6 c1
    by_cases c2 : 0 ≤ a2 ∧ a2 < nI w
    · obtain ⟨r2, q2, rfl⟩ := ix_lt w6 c2
      by_cases c3 : (prR (tuF f h w 0) 0 w h w).testBit r1 = true
      · skip
        exact ansX T M (lth_columnRelation_2 (sp_D_columnRelation_n (hv := hv) (r_w := q1) (k_w := q2) (hn := c3))) (fun σ1 (hn : nV σ1 h w f v rh rl pn I) => (sp_M_columnRelation_n (hn := hn) (r_w := q1) (k_w := q2) (hnp := c3))) (by decide) (by decide)
      · skip
        exact ansI T M (lok_columnRelation (sp_D_columnRelation (hv := hv) (r_w := q1) (k_w := q2) (hn := c3))) (fun σ1 (hn : nV σ1 h w f v rh rl pn I) => (sp_M_columnRelation (hn := hn) (r_w := q1) (k_w := q2) (hnp := c3))) (by decide)
    · skip
      exact ansX T M (lth_columnRelation_1 (sp_D_columnRelation_x1 (hv := hv) (r_w := q1) (hb := c2))) (fun σ1 (hn : nV σ1 h w f v rh rl pn I) => (sp_M_columnRelation_x1 (hn := hn) (r_w := q1) (hb := c2))) (by decide) (by decide)
  · skip
    exact ansX T M (lth_columnRelation_1 (sp_D_columnRelation_x0 (hv := hv) (hb := c1))) (fun σ1 (hn : nV σ1 h w f v rh rl pn I) => (sp_M_columnRelation_x0 (hn := hn) (hb := c1))) (by decide) (by decide)
theorem op_relationMod {σ : am_G} {d : Dk} (T : TC σ d) (M : TM σ d) (a1 a2 a3 : Int32) : OpC Value.int Int32.toInt64 c_L_relationMod [.ref 0, .int a1, .int a2, .int a3, .ref 132] c_M_relationMod [.ref 120, .int a1, .int a2, .int a3] σ := by
  obtain ⟨⟨h, w, f, v, rh, rl, pn, I⟩, n, Hs, k0, k1, nb, B, O, ec, ep⟩ := d
  have hv : vS σ 26 h w f v rh rl pn I := T.1
  have hH : cH σ n Hs := T.2.1
  obtain ⟨⟨⟨h1, h6⟩, w1, w6⟩, okS, okz, ⟨p6, P, hP⟩, okg, okc, r6, okv, okr⟩ : okV h w f v rh rl pn I := M.1.2.1
  by_cases c1 : 0 ≤ a2 ∧ a2 < nI h
  · obtain ⟨r1, q1, rfl⟩ := ix_lt h6 c1
    by_cases c2 : 0 ≤ a3 ∧ a3 < nI h
    · obtain ⟨r2, q2, rfl⟩ := ix_lt h6 c2
      by_cases c3 : ∃ m, m ∈ prL ∧ a1 = nI m
      · obtain ⟨m3, q3, rfl⟩ := c3
        by_cases c4 : (prR f m3 h w h).testBit r1 = true
        · skip
          exact ansX T M (lth_relationMod_3 (sp_D_relationMod_n (hv := hv) (r_h := q1) (k_h := q2) (hmp := q3) (hn := c4))) (fun σ1 (hn : nV σ1 h w f v rh rl pn I) => (sp_M_relationMod_n (hn := hn) (r_h := q1) (k_h := q2) (hmp := q3) (hnp := c4))) (by decide) (by decide)
        · skip
          exact ansI T M (lok_relationMod (sp_D_relationMod (hv := hv) (r_h := q1) (k_h := q2) (hmp := q3) (hn := c4))) (fun σ1 (hn : nV σ1 h w f v rh rl pn I) => (sp_M_relationMod (hn := hn) (r_h := q1) (k_h := q2) (hmp := q3) (hnp := c4))) (by decide)
      · skip
        exact ansX T M (lth_relationMod_2 (sp_D_relationMod_x2 (hv := hv) (r_h := q1) (k_h := q2) (hb := fun n h1 h2 => c3 ⟨n, h1, h2⟩))) (fun σ1 (hn : nV σ1 h w f v rh rl pn I) => (sp_M_relationMod_x2 (hn := hn) (r_h := q1) (k_h := q2) (hb := fun n h1 h2 => c3 ⟨n, h1, h2⟩))) (by decide) (by decide)
    · skip
      exact ansX T M (lth_relationMod_1 (sp_D_relationMod_x1 (hv := hv) (r_h := q1) (hb := c2))) (fun σ1 (hn : nV σ1 h w f v rh rl pn I) => (sp_M_relationMod_x1 (hn := hn) (r_h := q1) (hb := c2))) (by decide) (by decide)
  · skip
    exact ansX T M (lth_relationMod_1 (sp_D_relationMod_x0 (hv := hv) (hb := c1))) (fun σ1 (hn : nV σ1 h w f v rh rl pn I) => (sp_M_relationMod_x0 (hn := hn) (hb := c1))) (by decide) (by decide)
theorem op_weight {σ : am_G} {d : Dk} (T : TC σ d) (M : TM σ d) (a1 : Int32) : OpC Value.long (fun b => b) c_L_weight [.ref 0, .int a1, .ref 132] c_M_weight [.ref 120, .int a1] σ := by
  obtain ⟨⟨h, w, f, v, rh, rl, pn, I⟩, n, Hs, k0, k1, nb, B, O, ec, ep⟩ := d
  have hv : vS σ 26 h w f v rh rl pn I := T.1
  have hH : cH σ n Hs := T.2.1
  obtain ⟨⟨⟨h1, h6⟩, w1, w6⟩, okS, okz, ⟨p6, P, hP⟩, okg, okc, r6, okv, okr⟩ : okV h w f v rh rl pn I := M.1.2.1
  by_cases c1 : 0 ≤ a1 ∧ a1 < nI h
  · obtain ⟨r1, q1, rfl⟩ := ix_lt h6 c1
    by_cases c2 : (prR f 0 h w h).testBit r1 = true
    · skip
      exact ansX T M (lth_weight_2 (sp_D_weight_n (hv := hv) (r_h := q1) (hn := c2))) (fun σ1 (hn : nV σ1 h w f v rh rl pn I) => (sp_M_weight_n (hn := hn) (r_h := q1) (hnp := c2))) (by decide) (by decide)
    · skip
      exact ansI T M (lok_weight (sp_D_weight (hv := hv) (r_h := q1) (hn := c2))) (fun σ1 (hn : nV σ1 h w f v rh rl pn I) => (sp_M_weight (hn := hn) (r_h := q1) (hnp := c2))) (by decide)
  · skip
    exact ansX T M (lth_weight_1 (sp_D_weight_x0 (hv := hv) (hb := c1))) (fun σ1 (hn : nV σ1 h w f v rh rl pn I) => (sp_M_weight_x0 (hn := hn) (hb := c1))) (by decide) (by decide)
theorem op_isNeeded {σ : am_G} {d : Dk} (T : TC σ d) (M : TM σ d) (a1 a2 : Int32) : OpC Value.int gB c_L_isNeeded [.ref 0, .int a1, .int a2, .ref 132] c_M_isNeeded [.ref 120, .int a1, .int a2] σ := by
  obtain ⟨⟨h, w, f, v, rh, rl, pn, I⟩, n, Hs, k0, k1, nb, B, O, ec, ep⟩ := d
  have hv : vS σ 26 h w f v rh rl pn I := T.1
  have hH : cH σ n Hs := T.2.1
  obtain ⟨⟨⟨h1, h6⟩, w1, w6⟩, okS, okz, ⟨p6, P, hP⟩, okg, okc, r6, okv, okr⟩ : okV h w f v rh rl pn I := M.1.2.1
  by_cases c1 : 0 ≤ a2 ∧ a2 < nI h
  · obtain ⟨r1, q1, rfl⟩ := ix_lt h6 c1
    by_cases c2 : ∃ m, m ∈ mdL ∧ a1 = nI m
    · obtain ⟨m2, q2, rfl⟩ := c2
      exact ansI T M (lok_isNeeded (sp_D_isNeeded (hv := hv) (r_h := q1) (hmd := q2))) (fun σ1 (hn : nV σ1 h w f v rh rl pn I) => (sp_M_isNeeded (hn := hn) (r_h := q1) (hmd := q2))) (by decide)
    · skip
      exact ansX T M (lth_isNeeded_2 (sp_D_isNeeded_x1 (hv := hv) (r_h := q1) (hb := fun n h1 h2 => c2 ⟨n, h1, h2⟩))) (fun σ1 (hn : nV σ1 h w f v rh rl pn I) => (sp_M_isNeeded_x1 (hn := hn) (r_h := q1) (hb := fun n h1 h2 => c2 ⟨n, h1, h2⟩))) (by decide) (by decide)
  · skip
    exact ansX T M (lth_isNeeded_1 (sp_D_isNeeded_x0 (hv := hv) (hb := c1))) (fun σ1 (hn : nV σ1 h w f v rh rl pn I) => (sp_M_isNeeded_x0 (hn := hn) (hb := c1))) (by decide) (by decide)
theorem op_areIndependent {σ : am_G} {d : Dk} (T : TC σ d) (M : TM σ d) (a1 a2 : Int32) : OpC Value.int gB c_L_areIndependent [.ref 0, .int a1, .int a2, .ref 132] c_M_areIndependent [.ref 120, .int a1, .int a2] σ := by
  obtain ⟨⟨h, w, f, v, rh, rl, pn, I⟩, n, Hs, k0, k1, nb, B, O, ec, ep⟩ := d
  have hv : vS σ 26 h w f v rh rl pn I := T.1
  have hH : cH σ n Hs := T.2.1
  obtain ⟨⟨⟨h1, h6⟩, w1, w6⟩, okS, okz, ⟨p6, P, hP⟩, okg, okc, r6, okv, okr⟩ : okV h w f v rh rl pn I := M.1.2.1
  by_cases c1 : ∃ m, m ∈ mdL ∧ a1 = nI m
  · obtain ⟨m1, q1, rfl⟩ := c1
    by_cases c2 : a2 &&& (nI (2 ^ h - 1) ^^^ (-1)) = 0
    · obtain ⟨S2, q2, rfl⟩ := msk_of h6 c2
      exact ansI T M (lok_areIndependent (sp_D_areIndependent (hv := hv) (hmd := q1) (hS := q2))) (fun σ1 (hn : nV σ1 h w f v rh rl pn I) => (sp_M_areIndependent (hn := hn) (hmd := q1) (hS := q2))) (by decide)
    · skip
      exact ansX T M (lth_areIndependent_1 (sp_D_areIndependent_x1 (hv := hv) (hmd := q1) (hb := c2))) (fun σ1 (hn : nV σ1 h w f v rh rl pn I) => (sp_M_areIndependent_x1 (hn := hn) (hmd := q1) (hb := c2))) (by decide) (by decide)
  · skip
    exact ansX T M (lth_areIndependent_1 (sp_D_areIndependent_x0 (hv := hv) (hb := fun n h1 h2 => c1 ⟨n, h1, h2⟩))) (fun σ1 (hn : nV σ1 h w f v rh rl pn I) => (sp_M_areIndependent_x0 (hn := hn) (hb := fun n h1 h2 => c1 ⟨n, h1, h2⟩))) (by decide) (by decide)
theorem op_closure {σ : am_G} {d : Dk} (T : TC σ d) (M : TM σ d) (a1 a2 : Int32) : OpC Value.int Int32.toInt64 c_L_closure [.ref 0, .int a1, .int a2, .ref 132] c_M_closure [.ref 120, .int a1, .int a2] σ := by
  obtain ⟨⟨h, w, f, v, rh, rl, pn, I⟩, n, Hs, k0, k1, nb, B, O, ec, ep⟩ := d
  have hv : vS σ 26 h w f v rh rl pn I := T.1
  have hH : cH σ n Hs := T.2.1
  obtain ⟨⟨⟨h1, h6⟩, w1, w6⟩, okS, okz, ⟨p6, P, hP⟩, okg, okc, r6, okv, okr⟩ : okV h w f v rh rl pn I := M.1.2.1
  by_cases c1 : ∃ m, m ∈ mdL ∧ a1 = nI m
  · obtain ⟨m1, q1, rfl⟩ := c1
    by_cases c2 : a2 &&& (nI (2 ^ h - 1) ^^^ (-1)) = 0
    · obtain ⟨S2, q2, rfl⟩ := msk_of h6 c2
      exact ansI T M (lok_closure (sp_D_closure (hv := hv) (hmd := q1) (hS := q2))) (fun σ1 (hn : nV σ1 h w f v rh rl pn I) => (sp_M_closure (hn := hn) (hmd := q1) (hS := q2))) (by decide)
    · skip
      exact ansX T M (lth_closure_1 (sp_D_closure_x1 (hv := hv) (hmd := q1) (hb := c2))) (fun σ1 (hn : nV σ1 h w f v rh rl pn I) => (sp_M_closure_x1 (hn := hn) (hmd := q1) (hb := c2))) (by decide) (by decide)
  · skip
    exact ansX T M (lth_closure_1 (sp_D_closure_x0 (hv := hv) (hb := fun n h1 h2 => c1 ⟨n, h1, h2⟩))) (fun σ1 (hn : nV σ1 h w f v rh rl pn I) => (sp_M_closure_x0 (hn := hn) (hb := fun n h1 h2 => c1 ⟨n, h1, h2⟩))) (by decide) (by decide)
theorem op_extensions {σ : am_G} {d : Dk} (T : TC σ d) (M : TM σ d) (a1 a2 : Int32) : OpC Value.int Int32.toInt64 c_L_extensions [.ref 0, .int a1, .int a2, .ref 132] c_M_extensions [.ref 120, .int a1, .int a2] σ := by
  obtain ⟨⟨h, w, f, v, rh, rl, pn, I⟩, n, Hs, k0, k1, nb, B, O, ec, ep⟩ := d
  have hv : vS σ 26 h w f v rh rl pn I := T.1
  have hH : cH σ n Hs := T.2.1
  obtain ⟨⟨⟨h1, h6⟩, w1, w6⟩, okS, okz, ⟨p6, P, hP⟩, okg, okc, r6, okv, okr⟩ : okV h w f v rh rl pn I := M.1.2.1
  by_cases c1 : ∃ m, m ∈ mdL ∧ a1 = nI m
  · obtain ⟨m1, q1, rfl⟩ := c1
    by_cases c2 : a2 &&& (nI (2 ^ h - 1) ^^^ (-1)) = 0
    · obtain ⟨S2, q2, rfl⟩ := msk_of h6 c2
      by_cases c3 : frB f m1 h w S2 = true
      · skip
        exact ansI T M (lok_extensions (sp_D_extensions (hv := hv) (hmd := q1) (hS := q2) (hfree := c3))) (fun σ1 (hn : nV σ1 h w f v rh rl pn I) => (sp_M_extensions (hn := hn) (hmd := q1) (hS := q2) (hfree := c3))) (by decide)
      · skip
        exact ansX T M (lth_extensions_1 (sp_D_extensions_f (hv := hv) (hmd := q1) (hS := q2) (hfree := c3))) (fun σ1 (hn : nV σ1 h w f v rh rl pn I) => (sp_M_extensions_f (hn := hn) (hmd := q1) (hS := q2) (hfree := c3))) (by decide) (by decide)
    · skip
      exact ansX T M (lth_extensions_1 (sp_D_extensions_x1 (hv := hv) (hmd := q1) (hb := c2))) (fun σ1 (hn : nV σ1 h w f v rh rl pn I) => (sp_M_extensions_x1 (hn := hn) (hmd := q1) (hb := c2))) (by decide) (by decide)
  · skip
    exact ansX T M (lth_extensions_1 (sp_D_extensions_x0 (hv := hv) (hb := fun n h1 h2 => c1 ⟨n, h1, h2⟩))) (fun σ1 (hn : nV σ1 h w f v rh rl pn I) => (sp_M_extensions_x0 (hn := hn) (hb := fun n h1 h2 => c1 ⟨n, h1, h2⟩))) (by decide) (by decide)
theorem op_invariant {σ : am_G} {d : Dk} (T : TC σ d) (M : TM σ d) (a1 : Int32) : OpC Value.long (fun b => b) c_L_invariant [.ref 0, .int a1, .ref 132] c_M_invariant [.ref 120, .int a1] σ := by
  obtain ⟨⟨h, w, f, v, rh, rl, pn, I⟩, n, Hs, k0, k1, nb, B, O, ec, ep⟩ := d
  have hv : vS σ 26 h w f v rh rl pn I := T.1
  have hH : cH σ n Hs := T.2.1
  obtain ⟨⟨⟨h1, h6⟩, w1, w6⟩, okS, okz, ⟨p6, P, hP⟩, okg, okc, r6, okv, okr⟩ : okV h w f v rh rl pn I := M.1.2.1
  by_cases c1 : 1 ≤ a1 ∧ a1 ≤ 6
  · obtain ⟨r1, q1, rfl⟩ := ix_rg (lo := 1) (hi := 6) (by decide) (by decide) c1
    exact ansI T M (lok_invariant (sp_D_invariant (hv := hv) (n_k := q1))) (fun σ1 (hn : nV σ1 h w f v rh rl pn I) => (sp_M_invariant (hn := hn) (n_k := q1))) (by decide)
  · skip
    exact ansX T M (lth_invariant_1 (sp_D_invariant_x0 (hv := hv) (hb := c1))) (fun σ1 (hn : nV σ1 h w f v rh rl pn I) => (sp_M_invariant_x0 (hn := hn) (hb := c1))) (by decide) (by decide)
theorem op_circuit {σ : am_G} {d : Dk} (T : TC σ d) (M : TM σ d) (a1 a2 : Int32) : OpC Value.int Int32.toInt64 c_L_circuit [.ref 0, .int a1, .int a2, .ref 132] c_M_circuit [.ref 120, .int a1, .int a2] σ := by
  obtain ⟨⟨h, w, f, v, rh, rl, pn, I⟩, n, Hs, k0, k1, nb, B, O, ec, ep⟩ := d
  have hv : vS σ 26 h w f v rh rl pn I := T.1
  have hH : cH σ n Hs := T.2.1
  obtain ⟨⟨⟨h1, h6⟩, w1, w6⟩, okS, okz, ⟨p6, P, hP⟩, okg, okc, r6, okv, okr⟩ : okV h w f v rh rl pn I := M.1.2.1
  by_cases c1 : 0 ≤ a2 ∧ a2 < nI h
  · obtain ⟨r1, q1, rfl⟩ := ix_lt h6 c1
    by_cases c2 : ∃ m, m ∈ mdL ∧ a1 = nI m
    · obtain ⟨m2, q2, rfl⟩ := c2
      exact ansI T M (lok_circuit (sp_D_circuit (hv := hv) (r_h := q1) (hmd := q2))) (fun σ1 (hn : nV σ1 h w f v rh rl pn I) => (sp_M_circuit (hn := hn) (r_h := q1) (hmd := q2))) (by decide)
    · skip
      exact ansX T M (lth_circuit_2 (sp_D_circuit_x1 (hv := hv) (r_h := q1) (hb := fun n h1 h2 => c2 ⟨n, h1, h2⟩))) (fun σ1 (hn : nV σ1 h w f v rh rl pn I) => (sp_M_circuit_x1 (hn := hn) (r_h := q1) (hb := fun n h1 h2 => c2 ⟨n, h1, h2⟩))) (by decide) (by decide)
  · skip
    exact ansX T M (lth_circuit_1 (sp_D_circuit_x0 (hv := hv) (hb := c1))) (fun σ1 (hn : nV σ1 h w f v rh rl pn I) => (sp_M_circuit_x0 (hn := hn) (hb := c1))) (by decide) (by decide)
theorem op_spoils {σ : am_G} {d : Dk} (T : TC σ d) (M : TM σ d) (a1 a2 : Int32) : OpC Value.int Int32.toInt64 c_L_spoils [.ref 0, .int a1, .int a2, .ref 132] c_M_spoils [.ref 120, .int a1, .int a2] σ := by
  obtain ⟨⟨h, w, f, v, rh, rl, pn, I⟩, n, Hs, k0, k1, nb, B, O, ec, ep⟩ := d
  have hv : vS σ 26 h w f v rh rl pn I := T.1
  have hH : cH σ n Hs := T.2.1
  obtain ⟨⟨⟨h1, h6⟩, w1, w6⟩, okS, okz, ⟨p6, P, hP⟩, okg, okc, r6, okv, okr⟩ : okV h w f v rh rl pn I := M.1.2.1
  by_cases c1 : 0 ≤ a1 ∧ a1 < nI h
  · obtain ⟨r1, q1, rfl⟩ := ix_lt h6 c1
    by_cases c2 : 0 ≤ a2 ∧ a2 < nI w
    · obtain ⟨r2, q2, rfl⟩ := ix_lt w6 c2
      exact ansI T M (lok_spoils (sp_D_spoils (hv := hv) (i_h := q1) (j_w := q2))) (fun σ1 (hn : nV σ1 h w f v rh rl pn I) => (sp_M_spoils (hn := hn) (i_h := q1) (j_w := q2))) (by decide)
    · skip
      exact ansX T M (lth_spoils_1 (sp_D_spoils_x0y (hv := hv) (i_h := q1) (hb := c2))) (fun σ1 (hn : nV σ1 h w f v rh rl pn I) => (sp_M_spoils_x0y (hn := hn) (i_h := q1) (hb := c2))) (by decide) (by decide)
  · skip
    exact ansX T M (lth_spoils_1 (sp_D_spoils_x0x (hv := hv) (hb := c1))) (fun σ1 (hn : nV σ1 h w f v rh rl pn I) => (sp_M_spoils_x0x (hn := hn) (hb := c1))) (by decide) (by decide)
theorem op_guessed {σ : am_G} {d : Dk} (T : TC σ d) (M : TM σ d) (a1 a2 a3 : Int32) : OpC Value.long (fun b => b) c_L_guessed [.ref 0, .int a1, .int a2, .int a3, .ref 132] c_M_guessed [.ref 120, .int a1, .int a2, .int a3] σ := by
  obtain ⟨⟨h, w, f, v, rh, rl, pn, I⟩, n, Hs, k0, k1, nb, B, O, ec, ep⟩ := d
  have hv : vS σ 26 h w f v rh rl pn I := T.1
  have hH : cH σ n Hs := T.2.1
  obtain ⟨⟨⟨h1, h6⟩, w1, w6⟩, okS, okz, ⟨p6, P, hP⟩, okg, okc, r6, okv, okr⟩ : okV h w f v rh rl pn I := M.1.2.1
  by_cases c1 : 0 ≤ a3 ∧ a3 ≤ nI pn
  · obtain ⟨r1, q1, rfl⟩ := ix_le (h := pn) (by omega) c1
    by_cases c2 : a1 &&& (nI (2 ^ h - 1) ^^^ (-1)) = 0
    · obtain ⟨S2, q2, rfl⟩ := msk_of h6 c2
      by_cases c3 : a2 &&& (nI (2 ^ w - 1) ^^^ (-1)) = 0
      · obtain ⟨S3, q3, rfl⟩ := msk_of w6 c3
        by_cases c4 : pc S2 = pc S3
        · skip
          exact ansI T M (lok_guessed (sp_D_guessed (hv := hv) (n_k := q1) (hS := q2) (hT := q3) (hc := c4) (hP := hP))) (fun σ1 (hn : nV σ1 h w f v rh rl pn I) => (sp_M_guessed (hn := hn) (n_k := q1) (hS := q2) (hT := q3) (hc := c4) (hP := hP))) (by decide)
        · skip
          exact ansX T M (lth_guessed_1 (sp_D_guessed_x1z (hv := hv) (n_k := q1) (hS := q2) (hT := q3) (hc := c4))) (fun σ1 (hn : nV σ1 h w f v rh rl pn I) => (sp_M_guessed_x1z (hn := hn) (n_k := q1) (hS := q2) (hT := q3) (hc := c4))) (by decide) (by decide)
      · skip
        exact ansX T M (lth_guessed_1 (sp_D_guessed_x1y (hv := hv) (n_k := q1) (hs := c2) (hb := c3))) (fun σ1 (hn : nV σ1 h w f v rh rl pn I) => (sp_M_guessed_x1y (hn := hn) (n_k := q1) (hs_ := c2) (hb := c3))) (by decide) (by decide)
    · skip
      exact ansX T M (lth_guessed_1 (sp_D_guessed_x1x (hv := hv) (n_k := q1) (hb := c2))) (fun σ1 (hn : nV σ1 h w f v rh rl pn I) => (sp_M_guessed_x1x (hn := hn) (n_k := q1) (hb := c2))) (by decide) (by decide)
  · skip
    exact ansX T M (lth_guessed_1 (sp_D_guessed_x0 (hv := hv) (hb := c1))) (fun σ1 (hn : nV σ1 h w f v rh rl pn I) => (sp_M_guessed_x0 (hn := hn) (hb := c1))) (by decide) (by decide)
theorem op_guess {σ : am_G} {d : Dk} (T : TC σ d) (M : TM σ d) (a1 : Int32) : OpC Value.int Int32.toInt64 c_L_guess [.ref 0, .int a1, .ref 132] c_M_guess [.ref 120, .int a1] σ := by
  obtain ⟨⟨h, w, f, v, rh, rl, pn, I⟩, n, Hs, k0, k1, nb, B, O, ec, ep⟩ := d
  have hv : vS σ 26 h w f v rh rl pn I := T.1
  have hH : cH σ n Hs := T.2.1
  obtain ⟨⟨⟨h1, h6⟩, w1, w6⟩, okS, okz, ⟨p6, P, hP⟩, okg, okc, r6, okv, okr⟩ : okV h w f v rh rl pn I := M.1.2.1
  by_cases z0 : a1 = 0
  · subst z0
    exact ansI T M (lok_guess (sp_D_guess_0 (hv := hv))) (fun σ1 (hn : nV σ1 h w f v rh rl pn I) => (sp_M_guess_0 (hn := hn))) (by decide)
  by_cases z1 : a1 = 1
  · subst z1
    exact ansI T M (lok_guess (sp_D_guess_1 (hv := hv))) (fun σ1 (hn : nV σ1 h w f v rh rl pn I) => (sp_M_guess_1 (hn := hn))) (by decide)
  by_cases z2 : a1 = 2
  · subst z2
    exact ansI T M (lok_guess (sp_D_guess_2 (hv := hv))) (fun σ1 (hn : nV σ1 h w f v rh rl pn I) => (sp_M_guess_2 (hn := hn))) (by decide)
  by_cases z3 : a1 = 3
  · subst z3
    exact ansI T M (lok_guess (sp_D_guess_3 (hv := hv))) (fun σ1 (hn : nV σ1 h w f v rh rl pn I) => (sp_M_guess_3 (hn := hn))) (by decide)
  by_cases z4 : a1 = 4
  · subst z4
    exact ansI T M (lok_guess (sp_D_guess_4 (hv := hv))) (fun σ1 (hn : nV σ1 h w f v rh rl pn I) => (sp_M_guess_4 (hn := hn))) (by decide)
  have hb : ¬ (0 ≤ a1 ∧ a1 ≤ 4) := fun z => by
    obtain ⟨r, hr, rfl⟩ := ix_le (h := 4) (by decide) z
    rcases (show r = 0 ∨ r = 1 ∨ r = 2 ∨ r = 3 ∨ r = 4 by omega) with rfl | rfl | rfl | rfl | rfl
    · exact z0 rfl
    · exact z1 rfl
    · exact z2 rfl
    · exact z3 rfl
    · exact z4 rfl
  exact ansX T M (lth_guess_1 (sp_D_guess_x0 (hv := hv) (hb := hb))) (fun σ1 (hn : nV σ1 h w f v rh rl pn I) => (sp_M_guess_x0 (hn := hn) (hb := hb))) (by decide) (by decide)
theorem op_vector {σ : am_G} {d : Dk} (T : TC σ d) (M : TM σ d) (a1 : Int32) : OpC Value.int Int32.toInt64 c_L_vector [.ref 0, .int a1, .ref 132] c_M_vector [.ref 120, .int a1] σ := by
  obtain ⟨⟨h, w, f, v, rh, rl, pn, I⟩, n, Hs, k0, k1, nb, B, O, ec, ep⟩ := d
  have hv : vS σ 26 h w f v rh rl pn I := T.1
  have hH : cH σ n Hs := T.2.1
  obtain ⟨⟨⟨h1, h6⟩, w1, w6⟩, okS, okz, ⟨p6, P, hP⟩, okg, okc, r6, okv, okr⟩ : okV h w f v rh rl pn I := M.1.2.1
  by_cases c1 : 0 ≤ a1 ∧ a1 < nI h
  · obtain ⟨r1, q1, rfl⟩ := ix_lt h6 c1
    exact ansI T M (lok_vector (sp_D_vector (hv := hv) (r_h := q1))) (fun σ1 (hn : nV σ1 h w f v rh rl pn I) => (sp_M_vector (hn := hn) (r_h := q1))) (by decide)
  · skip
    exact ansX T M (lth_vector_1 (sp_D_vector_x0 (hv := hv) (hb := c1))) (fun σ1 (hn : nV σ1 h w f v rh rl pn I) => (sp_M_vector_x0 (hn := hn) (hb := c1))) (by decide) (by decide)
theorem op_product {σ : am_G} {d : Dk} (T : TC σ d) (M : TM σ d) (a1 : Int32) : OpC Value.int Int32.toInt64 c_L_product [.ref 0, .int a1, .ref 132] c_M_product [.ref 120, .int a1] σ := by
  obtain ⟨⟨h, w, f, v, rh, rl, pn, I⟩, n, Hs, k0, k1, nb, B, O, ec, ep⟩ := d
  have hv : vS σ 26 h w f v rh rl pn I := T.1
  have hH : cH σ n Hs := T.2.1
  obtain ⟨⟨⟨h1, h6⟩, w1, w6⟩, okS, okz, ⟨p6, P, hP⟩, okg, okc, r6, okv, okr⟩ : okV h w f v rh rl pn I := M.1.2.1
  by_cases c1 : 0 ≤ a1 ∧ a1 < nI w
  · obtain ⟨r1, q1, rfl⟩ := ix_lt w6 c1
    exact ansI T M (lok_product (sp_D_product (hv := hv) (c_w := q1))) (fun σ1 (hn : nV σ1 h w f v rh rl pn I) => (sp_M_product (hn := hn) (c_w := q1))) (by decide)
  · skip
    exact ansX T M (lth_product_1 (sp_D_product_x0 (hv := hv) (hb := c1))) (fun σ1 (hn : nV σ1 h w f v rh rl pn I) => (sp_M_product_x0 (hn := hn) (hb := c1))) (by decide) (by decide)
theorem op_claimed {σ : am_G} {d : Dk} (T : TC σ d) (M : TM σ d) (a1 : Int32) : OpC Value.int Int32.toInt64 c_L_claimed [.ref 0, .int a1, .ref 132] c_M_claimed [.ref 120, .int a1] σ := by
  obtain ⟨⟨h, w, f, v, rh, rl, pn, I⟩, n, Hs, k0, k1, nb, B, O, ec, ep⟩ := d
  have hv : vS σ 26 h w f v rh rl pn I := T.1
  have hH : cH σ n Hs := T.2.1
  obtain ⟨⟨⟨h1, h6⟩, w1, w6⟩, okS, okz, ⟨p6, P, hP⟩, okg, okc, r6, okv, okr⟩ : okV h w f v rh rl pn I := M.1.2.1
  by_cases z0 : a1 = 0
  · subst z0
    exact ansI T M (lok_claimed (sp_D_claimed_0 (hv := hv))) (fun σ1 (hn : nV σ1 h w f v rh rl pn I) => (sp_M_claimed_0 (hn := hn))) (by decide)
  by_cases z1 : a1 = 1
  · subst z1
    exact ansI T M (lok_claimed (sp_D_claimed_1 (hv := hv))) (fun σ1 (hn : nV σ1 h w f v rh rl pn I) => (sp_M_claimed_1 (hn := hn))) (by decide)
  have hb : ¬ (0 ≤ a1 ∧ a1 ≤ 1) := fun z => by
    obtain ⟨r, hr, rfl⟩ := ix_le (h := 1) (by decide) z
    rcases (show r = 0 ∨ r = 1 by omega) with rfl | rfl
    · exact z0 rfl
    · exact z1 rfl
  exact ansX T M (lth_claimed_1 (sp_D_claimed_x0 (hv := hv) (hb := hb))) (fun σ1 (hn : nV σ1 h w f v rh rl pn I) => (sp_M_claimed_x0 (hn := hn) (hb := hb))) (by decide) (by decide)
theorem op_relationOf {σ : am_G} {d : Dk} (T : TC σ d) (M : TM σ d) (a1 a2 : Int32) : OpC Value.long (fun b => b) c_L_relationOf [.ref 0, .int a1, .int a2, .ref 132] c_M_relationOf [.ref 120, .int a1, .int a2] σ := by
  obtain ⟨⟨h, w, f, v, rh, rl, pn, I⟩, n, Hs, k0, k1, nb, B, O, ec, ep⟩ := d
  have hv : vS σ 26 h w f v rh rl pn I := T.1
  have hH : cH σ n Hs := T.2.1
  obtain ⟨⟨⟨h1, h6⟩, w1, w6⟩, okS, okz, ⟨p6, P, hP⟩, okg, okc, r6, okv, okr⟩ : okV h w f v rh rl pn I := M.1.2.1
  by_cases c1 : 0 ≤ a1 ∧ a1 < nI rh
  · obtain ⟨r1, q1, rfl⟩ := ix_lt r6 c1
    by_cases c2 : 0 ≤ a2 ∧ a2 < nI h
    · obtain ⟨r2, q2, rfl⟩ := ix_lt h6 c2
      exact ansI T M (lok_relationOf (sp_D_relationOf (hv := hv) (k_r := q1) (r_h := q2))) (fun σ1 (hn : nV σ1 h w f v rh rl pn I) => (sp_M_relationOf (hn := hn) (k_r := q1) (r_h := q2))) (by decide)
    · skip
      exact ansX T M (lth_relationOf_1 (sp_D_relationOf_x1 (hv := hv) (k_r := q1) (hb := c2))) (fun σ1 (hn : nV σ1 h w f v rh rl pn I) => (sp_M_relationOf_x1 (hn := hn) (k_r := q1) (hb := c2))) (by decide) (by decide)
  · skip
    exact ansX T M (lth_relationOf_1 (sp_D_relationOf_x0 (hv := hv) (hb := c1))) (fun σ1 (hn : nV σ1 h w f v rh rl pn I) => (sp_M_relationOf_x0 (hn := hn) (hb := c1))) (by decide) (by decide)
theorem op_head {σ : am_G} {d : Dk} (T : TC σ d) (M : TM σ d) (a1 : Int32) : OpC Value.int Int32.toInt64 c_L_head [.ref 0, .int a1, .ref 132] c_M_head [.ref 120, .int a1] σ := by
  obtain ⟨⟨h, w, f, v, rh, rl, pn, I⟩, n, Hs, k0, k1, nb, B, O, ec, ep⟩ := d
  have hv : vS σ 26 h w f v rh rl pn I := T.1
  have hH : cH σ n Hs := T.2.1
  obtain ⟨⟨⟨h1, h6⟩, w1, w6⟩, okS, okz, ⟨p6, P, hP⟩, okg, okc, r6, okv, okr⟩ : okV h w f v rh rl pn I := M.1.2.1
  by_cases c1 : 0 ≤ a1 ∧ a1 < nI rh
  · obtain ⟨r1, q1, rfl⟩ := ix_lt r6 c1
    exact ansI T M (lok_head (sp_D_head (hv := hv) (k_r := q1) (h1 := h1))) (fun σ1 (hn : nV σ1 h w f v rh rl pn I) => (sp_M_head (hn := hn) (k_r := q1))) (by decide)
  · skip
    exact ansX T M (lth_head_1 (sp_D_head_x0 (hv := hv) (hb := c1))) (fun σ1 (hn : nV σ1 h w f v rh rl pn I) => (sp_M_head_x0 (hn := hn) (hb := c1))) (by decide) (by decide)
theorem op_holds {σ : am_G} {d : Dk} (T : TC σ d) (M : TM σ d) (a1 : Int32) : OpC Value.int gB c_L_holds [.ref 0, .int a1, .ref 132] c_M_holds [.ref 120, .int a1] σ := by
  obtain ⟨⟨h, w, f, v, rh, rl, pn, I⟩, n, Hs, k0, k1, nb, B, O, ec, ep⟩ := d
  have hv : vS σ 26 h w f v rh rl pn I := T.1
  have hH : cH σ n Hs := T.2.1
  obtain ⟨⟨⟨h1, h6⟩, w1, w6⟩, okS, okz, ⟨p6, P, hP⟩, okg, okc, r6, okv, okr⟩ : okV h w f v rh rl pn I := M.1.2.1
  by_cases c1 : 0 ≤ a1 ∧ a1 < nI rh
  · obtain ⟨r1, q1, rfl⟩ := ix_lt r6 c1
    exact ansI T M (lok_holds (sp_D_holds (hv := hv) (k_r := q1))) (fun σ1 (hn : nV σ1 h w f v rh rl pn I) => (sp_M_holds (hn := hn) (k_r := q1))) (by decide)
  · skip
    exact ansX T M (lth_holds_1 (sp_D_holds_x0 (hv := hv) (hb := c1))) (fun σ1 (hn : nV σ1 h w f v rh rl pn I) => (sp_M_holds_x0 (hn := hn) (hb := c1))) (by decide) (by decide)
theorem op_setEntry {σ : am_G} {d : Dk} (T : TC σ d) (M : TM σ d) (a1 a2 a3 : Int32) : OpC Value.int Int32.toInt64 c_L_setEntry [.ref 0, .int a1, .int a2, .int a3, .ref 132] c_M_setEntry [.ref 120, .int a1, .int a2, .int a3] σ := by
  obtain ⟨⟨h, w, f, v, rh, rl, pn, I⟩, n, Hs, k0, k1, nb, B, O, ec, ep⟩ := d
  have hv : vS σ 26 h w f v rh rl pn I := T.1
  have hH : cH σ n Hs := T.2.1
  obtain ⟨⟨⟨h1, h6⟩, w1, w6⟩, okS, okz, ⟨p6, P, hP⟩, okg, okc, r6, okv, okr⟩ : okV h w f v rh rl pn I := M.1.2.1
  by_cases c1 : 0 ≤ a1 ∧ a1 < nI h
  · obtain ⟨r1, q1, rfl⟩ := ix_lt h6 c1
    by_cases c2 : 0 ≤ a2 ∧ a2 < nI w
    · obtain ⟨r2, q2, rfl⟩ := ix_lt w6 c2
      by_cases c3 : -20 ≤ a3 ∧ a3 ≤ 20
      · skip
        exact chgI T M (lok_setEntry (sp_D_setEntry (hv := hv) (hH := hH) (i_h := q1) (j_w := q2) (hrg := c3))) (fun σ1 (hn : nV σ1 h w f v rh rl pn I) hH _ => (sp_M_setEntry (hn := hn) (hH := hH) (i_h := q1) (j_w := q2) (hrg := c3))) (by decide)
      · skip
        exact ansX T M (lth_setEntry_2 (sp_D_setEntry_x1 (hv := hv) (i_h := q1) (j_w := q2) (hb := c3))) (fun σ1 (hn : nV σ1 h w f v rh rl pn I) => (sp_M_setEntry_x1 (hn := hn) (i_h := q1) (j_w := q2) (hb := c3))) (by decide) (by decide)
    · skip
      exact ansX T M (lth_setEntry_1 (sp_D_setEntry_x0y (hv := hv) (i_h := q1) (hb := c2))) (fun σ1 (hn : nV σ1 h w f v rh rl pn I) => (sp_M_setEntry_x0y (hn := hn) (i_h := q1) (hb := c2))) (by decide) (by decide)
  · skip
    exact ansX T M (lth_setEntry_1 (sp_D_setEntry_x0x (hv := hv) (hb := c1))) (fun σ1 (hn : nV σ1 h w f v rh rl pn I) => (sp_M_setEntry_x0x (hn := hn) (hb := c1))) (by decide) (by decide)
theorem op_swapRows {σ : am_G} {d : Dk} (T : TC σ d) (M : TM σ d) (a1 a2 : Int32) : OpC Value.int Int32.toInt64 c_L_swapRows [.ref 0, .int a1, .int a2, .ref 132] c_M_swapRows [.ref 120, .int a1, .int a2] σ := by
  obtain ⟨⟨h, w, f, v, rh, rl, pn, I⟩, n, Hs, k0, k1, nb, B, O, ec, ep⟩ := d
  have hv : vS σ 26 h w f v rh rl pn I := T.1
  have hH : cH σ n Hs := T.2.1
  obtain ⟨⟨⟨h1, h6⟩, w1, w6⟩, okS, okz, ⟨p6, P, hP⟩, okg, okc, r6, okv, okr⟩ : okV h w f v rh rl pn I := M.1.2.1
  by_cases c1 : 0 ≤ a1 ∧ a1 < nI h
  · obtain ⟨r1, q1, rfl⟩ := ix_lt h6 c1
    by_cases c2 : 0 ≤ a2 ∧ a2 < nI h
    · obtain ⟨r2, q2, rfl⟩ := ix_lt h6 c2
      exact chgI T M (lok_swapRows (sp_D_swapRows (hv := hv) (hH := hH) (a_h := q1) (b_h := q2))) (fun σ1 (hn : nV σ1 h w f v rh rl pn I) hH _ => (sp_M_swapRows (hn := hn) (hH := hH) (a_h := q1) (b_h := q2))) (by decide)
    · skip
      exact ansX T M (lth_swapRows_1 (sp_D_swapRows_x1 (hv := hv) (a_h := q1) (hb := c2))) (fun σ1 (hn : nV σ1 h w f v rh rl pn I) => (sp_M_swapRows_x1 (hn := hn) (a_h := q1) (hb := c2))) (by decide) (by decide)
  · skip
    exact ansX T M (lth_swapRows_1 (sp_D_swapRows_x0 (hv := hv) (hb := c1))) (fun σ1 (hn : nV σ1 h w f v rh rl pn I) => (sp_M_swapRows_x0 (hn := hn) (hb := c1))) (by decide) (by decide)
theorem op_swapColumns {σ : am_G} {d : Dk} (T : TC σ d) (M : TM σ d) (a1 a2 : Int32) : OpC Value.int Int32.toInt64 c_L_swapColumns [.ref 0, .int a1, .int a2, .ref 132] c_M_swapColumns [.ref 120, .int a1, .int a2] σ := by
  obtain ⟨⟨h, w, f, v, rh, rl, pn, I⟩, n, Hs, k0, k1, nb, B, O, ec, ep⟩ := d
  have hv : vS σ 26 h w f v rh rl pn I := T.1
  have hH : cH σ n Hs := T.2.1
  obtain ⟨⟨⟨h1, h6⟩, w1, w6⟩, okS, okz, ⟨p6, P, hP⟩, okg, okc, r6, okv, okr⟩ : okV h w f v rh rl pn I := M.1.2.1
  by_cases c1 : 0 ≤ a1 ∧ a1 < nI w
  · obtain ⟨r1, q1, rfl⟩ := ix_lt w6 c1
    by_cases c2 : 0 ≤ a2 ∧ a2 < nI w
    · obtain ⟨r2, q2, rfl⟩ := ix_lt w6 c2
      exact chgI T M (lok_swapColumns (sp_D_swapColumns (hv := hv) (hH := hH) (a_w := q1) (b_w := q2))) (fun σ1 (hn : nV σ1 h w f v rh rl pn I) hH _ => (sp_M_swapColumns (hn := hn) (hH := hH) (a_w := q1) (b_w := q2))) (by decide)
    · skip
      exact ansX T M (lth_swapColumns_1 (sp_D_swapColumns_x1 (hv := hv) (a_w := q1) (hb := c2))) (fun σ1 (hn : nV σ1 h w f v rh rl pn I) => (sp_M_swapColumns_x1 (hn := hn) (a_w := q1) (hb := c2))) (by decide) (by decide)
  · skip
    exact ansX T M (lth_swapColumns_1 (sp_D_swapColumns_x0 (hv := hv) (hb := c1))) (fun σ1 (hn : nV σ1 h w f v rh rl pn I) => (sp_M_swapColumns_x0 (hn := hn) (hb := c1))) (by decide) (by decide)
theorem op_addRow {σ : am_G} {d : Dk} (T : TC σ d) (M : TM σ d) (a1 a2 a3 : Int32) : OpC Value.int Int32.toInt64 c_L_addRow [.ref 0, .int a1, .int a2, .int a3, .ref 132] c_M_addRow [.ref 120, .int a1, .int a2, .int a3] σ := by
  obtain ⟨⟨h, w, f, v, rh, rl, pn, I⟩, n, Hs, k0, k1, nb, B, O, ec, ep⟩ := d
  have hv : vS σ 26 h w f v rh rl pn I := T.1
  have hH : cH σ n Hs := T.2.1
  obtain ⟨⟨⟨h1, h6⟩, w1, w6⟩, okS, okz, ⟨p6, P, hP⟩, okg, okc, r6, okv, okr⟩ : okV h w f v rh rl pn I := M.1.2.1
  by_cases c1 : 0 ≤ a1 ∧ a1 < nI h
  · obtain ⟨r1, q1, rfl⟩ := ix_lt h6 c1
    by_cases c2 : 0 ≤ a2 ∧ a2 < nI h
    · obtain ⟨r2, q2, rfl⟩ := ix_lt h6 c2
      by_cases c3 : -9 ≤ a3 ∧ a3 ≤ 9
      · skip
        by_cases c4 : r1 = r2
        · skip
          exact ansX T M (lth_addRow_2 (sp_D_addRow_e (hv := hv) (a_h := q1) (b_h := q2) (hrg := c3) (hab := c4))) (fun σ1 (hn : nV σ1 h w f v rh rl pn I) => (sp_M_addRow_e (hn := hn) (a_h := q1) (b_h := q2) (hrg := c3) (hab := c4))) (by decide) (by decide)
        · skip
          by_cases c5 : ∀ j, j < w → absL (f r1 j + a3.toInt64 * f r2 j) ≤ 20
          · skip
            exact chgI T M (lok_addRow (sp_D_addRow (hv := hv) (hH := hH) (a_h := q1) (b_h := q2) (hrg := c3) (hab := c4) (hroom := c5))) (fun σ1 (hn : nV σ1 h w f v rh rl pn I) hH _ => (sp_M_addRow (hn := hn) (hH := hH) (a_h := q1) (b_h := q2) (hrg := c3) (hab := c4) (hroom := c5))) (by decide)
          · skip
            exact ansX T M (lth_addRow_3 (sp_D_addRow_r (hv := hv) (a_h := q1) (b_h := q2) (hrg := c3) (hab := c4) (hroom := c5))) (fun σ1 (hn : nV σ1 h w f v rh rl pn I) => (sp_M_addRow_r (hn := hn) (a_h := q1) (b_h := q2) (hrg := c3) (hab := c4) (hroom := c5))) (by decide) (by decide)
      · skip
        exact ansX T M (lth_addRow_2 (sp_D_addRow_x2 (hv := hv) (a_h := q1) (b_h := q2) (hb := c3))) (fun σ1 (hn : nV σ1 h w f v rh rl pn I) => (sp_M_addRow_x2 (hn := hn) (a_h := q1) (b_h := q2) (hb := c3))) (by decide) (by decide)
    · skip
      exact ansX T M (lth_addRow_1 (sp_D_addRow_x1 (hv := hv) (a_h := q1) (hb := c2))) (fun σ1 (hn : nV σ1 h w f v rh rl pn I) => (sp_M_addRow_x1 (hn := hn) (a_h := q1) (hb := c2))) (by decide) (by decide)
  · skip
    exact ansX T M (lth_addRow_1 (sp_D_addRow_x0 (hv := hv) (hb := c1))) (fun σ1 (hn : nV σ1 h w f v rh rl pn I) => (sp_M_addRow_x0 (hn := hn) (hb := c1))) (by decide) (by decide)
theorem op_negateRow {σ : am_G} {d : Dk} (T : TC σ d) (M : TM σ d) (a1 : Int32) : OpC Value.int Int32.toInt64 c_L_negateRow [.ref 0, .int a1, .ref 132] c_M_negateRow [.ref 120, .int a1] σ := by
  obtain ⟨⟨h, w, f, v, rh, rl, pn, I⟩, n, Hs, k0, k1, nb, B, O, ec, ep⟩ := d
  have hv : vS σ 26 h w f v rh rl pn I := T.1
  have hH : cH σ n Hs := T.2.1
  obtain ⟨⟨⟨h1, h6⟩, w1, w6⟩, okS, okz, ⟨p6, P, hP⟩, okg, okc, r6, okv, okr⟩ : okV h w f v rh rl pn I := M.1.2.1
  by_cases c1 : 0 ≤ a1 ∧ a1 < nI h
  · obtain ⟨r1, q1, rfl⟩ := ix_lt h6 c1
    exact chgI T M (lok_negateRow (sp_D_negateRow (hv := hv) (hH := hH) (r_h := q1))) (fun σ1 (hn : nV σ1 h w f v rh rl pn I) hH _ => (sp_M_negateRow (hn := hn) (hH := hH) (r_h := q1))) (by decide)
  · skip
    exact ansX T M (lth_negateRow_1 (sp_D_negateRow_x0 (hv := hv) (hb := c1))) (fun σ1 (hn : nV σ1 h w f v rh rl pn I) => (sp_M_negateRow_x0 (hn := hn) (hb := c1))) (by decide) (by decide)
theorem op_probe {σ : am_G} {d : Dk} (T : TC σ d) (M : TM σ d) (a1 : Int32) : OpC Value.int Int32.toInt64 c_L_probe [.ref 0, .int a1, .ref 132] c_M_probe [.ref 120, .int a1] σ := by
  obtain ⟨⟨h, w, f, v, rh, rl, pn, I⟩, n, Hs, k0, k1, nb, B, O, ec, ep⟩ := d
  have hv : vS σ 26 h w f v rh rl pn I := T.1
  have hH : cH σ n Hs := T.2.1
  obtain ⟨⟨⟨h1, h6⟩, w1, w6⟩, okS, okz, ⟨p6, P, hP⟩, okg, okc, r6, okv, okr⟩ : okV h w f v rh rl pn I := M.1.2.1
  by_cases c1 : 0 ≤ a1 ∧ a1 < nI pn
  · obtain ⟨r1, q1, rfl⟩ := ix_lt p6 c1
    exact chgI T M (lok_probe (sp_D_probe (hv := hv) (hH := hH) (p_p := q1) (hP := hP))) (fun σ1 (hn : nV σ1 h w f v rh rl pn I) hH _ => (sp_M_probe (hn := hn) (hH := hH) (p_p := q1) (hP := hP))) (by decide)
  · skip
    exact ansX T M (lth_probe_1 (sp_D_probe_x0 (hv := hv) (hb := c1))) (fun σ1 (hn : nV σ1 h w f v rh rl pn I) => (sp_M_probe_x0 (hn := hn) (hb := c1))) (by decide) (by decide)
theorem op_setVector {σ : am_G} {d : Dk} (T : TC σ d) (M : TM σ d) (a1 a2 : Int32) : OpC Value.int Int32.toInt64 c_L_setVector [.ref 0, .int a1, .int a2, .ref 132] c_M_setVector [.ref 120, .int a1, .int a2] σ := by
  obtain ⟨⟨h, w, f, v, rh, rl, pn, I⟩, n, Hs, k0, k1, nb, B, O, ec, ep⟩ := d
  have hv : vS σ 26 h w f v rh rl pn I := T.1
  have hH : cH σ n Hs := T.2.1
  obtain ⟨⟨⟨h1, h6⟩, w1, w6⟩, okS, okz, ⟨p6, P, hP⟩, okg, okc, r6, okv, okr⟩ : okV h w f v rh rl pn I := M.1.2.1
  by_cases c1 : 0 ≤ a1 ∧ a1 < nI h
  · obtain ⟨r1, q1, rfl⟩ := ix_lt h6 c1
    by_cases c2 : -9999 ≤ a2 ∧ a2 ≤ 9999
    · skip
      exact chgI T M (lok_setVector (sp_D_setVector (hv := hv) (hH := hH) (r_h := q1) (hrg := c2))) (fun σ1 (hn : nV σ1 h w f v rh rl pn I) hH _ => (sp_M_setVector (hn := hn) (hH := hH) (r_h := q1) (hrg := c2))) (by decide)
    · skip
      exact ansX T M (lth_setVector_2 (sp_D_setVector_x1 (hv := hv) (r_h := q1) (hb := c2))) (fun σ1 (hn : nV σ1 h w f v rh rl pn I) => (sp_M_setVector_x1 (hn := hn) (r_h := q1) (hb := c2))) (by decide) (by decide)
  · skip
    exact ansX T M (lth_setVector_1 (sp_D_setVector_x0 (hv := hv) (hb := c1))) (fun σ1 (hn : nV σ1 h w f v rh rl pn I) => (sp_M_setVector_x0 (hn := hn) (hb := c1))) (by decide) (by decide)
theorem op_claim {σ : am_G} {d : Dk} (T : TC σ d) (M : TM σ d) (a1 a2 : Int32) : OpC Value.int Int32.toInt64 c_L_claim [.ref 0, .int a1, .int a2, .ref 132] c_M_claim [.ref 120, .int a1, .int a2] σ := by
  obtain ⟨⟨h, w, f, v, rh, rl, pn, I⟩, n, Hs, k0, k1, nb, B, O, ec, ep⟩ := d
  have hv : vS σ 26 h w f v rh rl pn I := T.1
  have hH : cH σ n Hs := T.2.1
  obtain ⟨⟨⟨h1, h6⟩, w1, w6⟩, okS, okz, ⟨p6, P, hP⟩, okg, okc, r6, okv, okr⟩ : okV h w f v rh rl pn I := M.1.2.1
  by_cases c1 : a1 &&& (nI (2 ^ h - 1) ^^^ (-1)) = 0
  · obtain ⟨S1, q1, rfl⟩ := msk_of h6 c1
    by_cases c2 : a2 &&& (nI (2 ^ w - 1) ^^^ (-1)) = 0
    · obtain ⟨S2, q2, rfl⟩ := msk_of w6 c2
      by_cases c3 : pc S1 = pc S2
      · skip
        exact chgI T M (lok_claim (sp_D_claim (hv := hv) (hH := hH) (hS := q1) (hT := q2) (hc := c3))) (fun σ1 (hn : nV σ1 h w f v rh rl pn I) hH _ => (sp_M_claim (hn := hn) (hH := hH) (hS := q1) (hT := q2) (hc := c3))) (by decide)
      · skip
        exact ansX T M (lth_claim_1 (sp_D_claim_x0z (hv := hv) (hS := q1) (hT := q2) (hc := c3))) (fun σ1 (hn : nV σ1 h w f v rh rl pn I) => (sp_M_claim_x0z (hn := hn) (hS := q1) (hT := q2) (hc := c3))) (by decide) (by decide)
    · skip
      exact ansX T M (lth_claim_1 (sp_D_claim_x0y (hv := hv) (hs := c1) (hb := c2))) (fun σ1 (hn : nV σ1 h w f v rh rl pn I) => (sp_M_claim_x0y (hn := hn) (hs_ := c1) (hb := c2))) (by decide) (by decide)
  · skip
    exact ansX T M (lth_claim_1 (sp_D_claim_x0x (hv := hv) (hb := c1))) (fun σ1 (hn : nV σ1 h w f v rh rl pn I) => (sp_M_claim_x0x (hn := hn) (hb := c1))) (by decide) (by decide)
theorem op_addRelation {σ : am_G} {d : Dk} (T : TC σ d) (M : TM σ d) : OpC Value.int Int32.toInt64 c_L_addRelation [.ref 0, .ref 132] c_M_addRelation [.ref 120] σ := by
  obtain ⟨⟨h, w, f, v, rh, rl, pn, I⟩, n, Hs, k0, k1, nb, B, O, ec, ep⟩ := d
  have hv : vS σ 26 h w f v rh rl pn I := T.1
  have hH : cH σ n Hs := T.2.1
  obtain ⟨⟨⟨h1, h6⟩, w1, w6⟩, okS, okz, ⟨p6, P, hP⟩, okg, okc, r6, okv, okr⟩ : okV h w f v rh rl pn I := M.1.2.1
  by_cases c1 : cnG v h 1 = 0
  · skip
    exact ansX T M (lth_addRelation_1 (sp_D_addRelation_z (hv := hv) (hc := c1))) (fun σ1 (hn : nV σ1 h w f v rh rl pn I) => (sp_M_addRelation_z (hn := hn) (hc := c1))) (by decide) (by decide)
  · skip
    by_cases c2 : rh < 6
    · skip
      exact chgI T M (lok_addRelation (sp_D_addRelation (hv := hv) (hH := hH) (hc := c1) (h6 := c2))) (fun σ1 (hn : nV σ1 h w f v rh rl pn I) hH _ => (sp_M_addRelation (hn := hn) (hH := hH) (hc := c1) (h6 := c2))) (by decide)
    · skip
      exact ansX T M (lth_addRelation_1 (sp_D_addRelation_f (hv := hv) (hc := c1) (h6 := c2))) (fun σ1 (hn : nV σ1 h w f v rh rl pn I) => (sp_M_addRelation_f (hn := hn) (hc := c1) (h6 := c2))) (by decide) (by decide)
theorem op_dropRelation {σ : am_G} {d : Dk} (T : TC σ d) (M : TM σ d) (a1 : Int32) : OpC Value.int Int32.toInt64 c_L_dropRelation [.ref 0, .int a1, .ref 132] c_M_dropRelation [.ref 120, .int a1] σ := by
  obtain ⟨⟨h, w, f, v, rh, rl, pn, I⟩, n, Hs, k0, k1, nb, B, O, ec, ep⟩ := d
  have hv : vS σ 26 h w f v rh rl pn I := T.1
  have hH : cH σ n Hs := T.2.1
  obtain ⟨⟨⟨h1, h6⟩, w1, w6⟩, okS, okz, ⟨p6, P, hP⟩, okg, okc, r6, okv, okr⟩ : okV h w f v rh rl pn I := M.1.2.1
  by_cases c1 : 0 ≤ a1 ∧ a1 < nI rh
  · obtain ⟨r1, q1, rfl⟩ := ix_lt r6 c1
    exact chgI T M (lok_dropRelation (sp_D_dropRelation (hv := hv) (hH := hH) (k_r := q1))) (fun σ1 (hn : nV σ1 h w f v rh rl pn I) hH _ => (sp_M_dropRelation (hn := hn) (hH := hH) (k_r := q1))) (by decide)
  · skip
    exact ansX T M (lth_dropRelation_1 (sp_D_dropRelation_x0 (hv := hv) (hb := c1))) (fun σ1 (hn : nV σ1 h w f v rh rl pn I) => (sp_M_dropRelation_x0 (hn := hn) (hb := c1))) (by decide) (by decide)
theorem op_writeRelation {σ : am_G} {d : Dk} (T : TC σ d) (M : TM σ d) (a1 : Int32) : OpC Value.int Int32.toInt64 c_L_writeRelation [.ref 0, .int a1, .ref 132] c_M_writeRelation [.ref 120, .int a1] σ := by
  obtain ⟨⟨h, w, f, v, rh, rl, pn, I⟩, n, Hs, k0, k1, nb, B, O, ec, ep⟩ := d
  have hv : vS σ 26 h w f v rh rl pn I := T.1
  have hH : cH σ n Hs := T.2.1
  obtain ⟨⟨⟨h1, h6⟩, w1, w6⟩, okS, okz, ⟨p6, P, hP⟩, okg, okc, r6, okv, okr⟩ : okV h w f v rh rl pn I := M.1.2.1
  by_cases c1 : 0 ≤ a1 ∧ a1 < nI h
  · obtain ⟨r1, q1, rfl⟩ := ix_lt h6 c1
    by_cases c2 : (prR f 0 h w h).testBit r1 = true
    · skip
      exact ansX T M (lth_writeRelation_2 (sp_D_writeRelation_n (hv := hv) (r_h := q1) (hn := c2))) (fun σ1 (hn : nV σ1 h w f v rh rl pn I) => (sp_M_writeRelation_n (hn := hn) (r_h := q1) (hnp := c2))) (by decide) (by decide)
    · skip
      exact outI pOq_o T M (lok_writeRelation (sp_D_writeRelation (hv := hv) (r_h := q1) (hn := c2))) (fun σ1 (hn : nV σ1 h w f v rh rl pn I) => (sp_M_writeRelation (hn := hn) (r_h := q1) (hnp := c2))) (by decide)
  · skip
    exact ansX T M (lth_writeRelation_1 (sp_D_writeRelation_x0 (hv := hv) (hb := c1))) (fun σ1 (hn : nV σ1 h w f v rh rl pn I) => (sp_M_writeRelation_x0 (hn := hn) (hb := c1))) (by decide) (by decide)
theorem op_writeEchelon {σ : am_G} {d : Dk} (T : TC σ d) (M : TM σ d) (a1 : Int32) : OpC Value.int Int32.toInt64 c_L_writeEchelon [.ref 0, .int a1, .ref 132] c_M_writeEchelon [.ref 120, .int a1] σ := by
  obtain ⟨⟨h, w, f, v, rh, rl, pn, I⟩, n, Hs, k0, k1, nb, B, O, ec, ep⟩ := d
  have hv : vS σ 26 h w f v rh rl pn I := T.1
  have hH : cH σ n Hs := T.2.1
  obtain ⟨⟨⟨h1, h6⟩, w1, w6⟩, okS, okz, ⟨p6, P, hP⟩, okg, okc, r6, okv, okr⟩ : okV h w f v rh rl pn I := M.1.2.1
  by_cases c1 : ∃ m, m ∈ prL ∧ a1 = nI m
  · obtain ⟨m1, q1, rfl⟩ := c1
    exact outI pOq_o T M (lok_writeEchelon (sp_D_writeEchelon (hv := hv) (hmp := q1))) (fun σ1 (hn : nV σ1 h w f v rh rl pn I) => (sp_M_writeEchelon (hn := hn) (hmp := q1))) (by decide)
  · skip
    exact ansX T M (lth_writeEchelon_1 (sp_D_writeEchelon_x0 (hv := hv) (hb := fun n h1 h2 => c1 ⟨n, h1, h2⟩))) (fun σ1 (hn : nV σ1 h w f v rh rl pn I) => (sp_M_writeEchelon_x0 (hn := hn) (hb := fun n h1 h2 => c1 ⟨n, h1, h2⟩))) (by decide) (by decide)
theorem op_writeRanks {σ : am_G} {d : Dk} (T : TC σ d) (M : TM σ d) (a1 : Int32) : OpC Value.int Int32.toInt64 c_L_writeRanks [.ref 0, .int a1, .ref 132] c_M_writeRanks [.ref 120, .int a1] σ := by
  obtain ⟨⟨h, w, f, v, rh, rl, pn, I⟩, n, Hs, k0, k1, nb, B, O, ec, ep⟩ := d
  have hv : vS σ 26 h w f v rh rl pn I := T.1
  have hH : cH σ n Hs := T.2.1
  obtain ⟨⟨⟨h1, h6⟩, w1, w6⟩, okS, okz, ⟨p6, P, hP⟩, okg, okc, r6, okv, okr⟩ : okV h w f v rh rl pn I := M.1.2.1
  by_cases c1 : ∃ m, m ∈ mdL ∧ a1 = nI m
  · obtain ⟨m1, q1, rfl⟩ := c1
    exact outI pOq_o T M (lok_writeRanks (sp_D_writeRanks (hv := hv) (hmd := q1))) (fun σ1 (hn : nV σ1 h w f v rh rl pn I) => (sp_M_writeRanks (hn := hn) (hmd := q1))) (by decide)
  · skip
    exact ansX T M (lth_writeRanks_1 (sp_D_writeRanks_x0 (hv := hv) (hb := fun n h1 h2 => c1 ⟨n, h1, h2⟩))) (fun σ1 (hn : nV σ1 h w f v rh rl pn I) => (sp_M_writeRanks_x0 (hn := hn) (hb := fun n h1 h2 => c1 ⟨n, h1, h2⟩))) (by decide) (by decide)
