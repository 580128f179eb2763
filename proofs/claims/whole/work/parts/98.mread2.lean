/-! ===== the model reads words ===== -/
theorem sl_25 : ∀ q ∈ am_SL, ∀ j, j < 9 → j < q.2.length → (q.2.getD j 0) &&& 255 = q.2.getD j 0 := by decide +kernel
theorem ch_iff {σ : am_G} {n k q0 j : Nat} {B bs : List Int32} (hB : xM σ n B) (hk : k < n) (hs : (q0, bs) ∈ am_SL) (hj : j < bs.length) : σ.1 126 k = bs.getD j 0 ↔ ibA B k = bs.getD j 0 := by
  have e := List.getElem?_eq_getElem (l := B) (i := k) (by rw [hB.1]; exact hk)
  obtain ⟨a, b⟩ := hB.2.2.2 k _ e
  have h9 := sl_b _ hs
  have e2 : ibA B k = B[k]'(by rw [hB.1]; exact hk) := by unfold ibA; rw [e]; rfl
  rw [e2, a]
  constructor
  · intro z
    rw [← b, z]; exact sl_25 _ hs j (Nat.lt_trans hj h9) hj
  · intro z
    rw [z]; exact sl_b7 hs hj
set_option maxRecDepth 100000 in
set_option maxHeartbeats 4000000 in
theorem lp_it0 {σ : am_G} {n : Nat} {B : List Int32} {t : am_T} {q0 : Nat} {bs : List Int32} {d k0 i : Nat} (hg : tG σ n B t) (hs : (q0, bs) ∈ am_SL) (hi : i ≤ bs.length) (hno : ¬ isWd B bs t) (hd : 4 ≤ d) : am_R am_TX d k0 c_M_isText 39 [some (.ref 120), some (.ref (1000 + q0)), some (.int 0), some (.int (nI i))] [] (mm σ) (am_Ok (some (.int (zP (isWd B bs t)))) (fun σ1 => σ1 = σ)) := by
  have h400 := hg.1.2.2.1
  have hb1 := hg.2.1.1
  have hb2 := hg.2.1.2.2.1
  have hb3 := hg.2.1.2.2.2
  have h9 := sl_b _ hs
  simp only at h9
  refine R_iload_n rfl rfl ?_
  refine R_aload_n rfl rfl ?_
  refine R_cT (i := q0) (as := []) rfl rfl iv_JString_length (sp_slength hs) (by omega) rfl rfl hs rfl rfl (Nat.le_of_ble_eq_true rfl) (fun _ q => ?_)
  obtain rfl := q.symm
  refine R_nicmp_ge (x := i) (y := bs.length) rfl rfl (by omega) (by omega) (fun g1 => ?_) (fun g1 => ?_)
  · refine R_iload_n rfl rfl ?_
    exact T_zreturn rfl rfl rfl (am_oki (zP_f hno).symm rfl)
  · refine R_iload_n rfl rfl ?_
    refine R_if_eq rfl rfl (fun _ => ?_) (fun z => absurd z (by decide))
    refine R_iload_n rfl rfl ?_
    exact T_zreturn rfl rfl rfl (am_oki (zP_f hno).symm rfl)
set_option maxRecDepth 100000 in
set_option maxHeartbeats 4000000 in
theorem lp_it1 {σ : am_G} {n : Nat} {B : List Int32} {t : am_T} {q0 : Nat} {bs : List Int32} {d k0 : Nat} (hg : tG σ n B t) (hs : (q0, bs) ∈ am_SL) (hk : t.2.2.1 = 1) (he : t.2.1 = t.1 + bs.length) (hd : 4 ≤ d)  : ∀ (uu i : Nat) (hw : ∀ m, m < i → ibA B (t.1 + m) = bs.getD m 0), i + uu = bs.length → am_R am_TX d k0 c_M_isText 39 [some (.ref 120), some (.ref (1000 + q0)), some (.int 1), some (.int (nI i))] [] (mm σ) (am_Ok (some (.int (zP (isWd B bs t)))) (fun σ1 => σ1 = σ)) := by
  have h400 := hg.1.2.2.1
  have hb1 := hg.2.1.1
  have hb2 := hg.2.1.2.2.1
  have hb3 := hg.2.1.2.2.2
  have h9 := sl_b _ hs
  simp only at h9
  intro uu
  induction uu with
  | zero =>
    intro i hw hi
    obtain rfl : bs.length = i := by omega
    refine R_iload_n rfl rfl ?_
    refine R_aload_n rfl rfl ?_
    refine R_cT (i := q0) (as := []) rfl rfl iv_JString_length (sp_slength hs) (by omega) rfl rfl hs rfl rfl (Nat.le_of_ble_eq_true rfl) (fun _ q => ?_)
    obtain rfl := q.symm
    refine R_nicmp_ge (x := bs.length) (y := bs.length) rfl rfl (by omega) (by omega) (fun g1 => ?_) (fun z => by omega)
    refine R_iload_n rfl rfl ?_
    exact T_zreturn rfl rfl rfl (am_oki (zP_t ⟨hk, he, hw⟩).symm rfl)
  | succ uu ih =>
    intro i hw hi
    refine R_iload_n rfl rfl ?_
    refine R_aload_n rfl rfl ?_
    refine R_cT (i := q0) (as := []) rfl rfl iv_JString_length (sp_slength hs) (by omega) rfl rfl hs rfl rfl (Nat.le_of_ble_eq_true rfl) (fun _ q => ?_)
    obtain rfl := q.symm
    refine R_nicmp_ge (x := i) (y := bs.length) rfl rfl (by omega) (by omega) (fun z => by omega) (fun g1 => ?_)
    refine R_iload_n rfl rfl ?_
    refine R_if_eq rfl rfl (fun z => absurd z (by decide)) (fun _ => ?_)
    refine R_aload_n rfl rfl ?_
    refine R_gP (x := 126) rfl rfl fp_11_11 rfl ?_
    refine R_aload_n rfl rfl ?_
    refine R_gIN (n := t.1) rfl rfl fd_11_15 hg.2.2.1.2.1 ?_
    refine R_iload_n rfl rfl ?_
    refine R_iaddN (x := t.1) (y := i) rfl ?_
    refine R_xB (j := (t.1 + i)) rfl rfl rfl (by omega) (by decide) ?_
    refine R_aload_n rfl rfl ?_
    refine R_iload_n rfl rfl ?_
    refine R_cT (i := q0) (as := [.int (nI i)]) rfl rfl iv_JString_charAt (sp_charAt (j := i) hs (by omega)) (by omega) rfl rfl hs rfl rfl (Nat.le_of_ble_eq_true rfl) (fun _ q => ?_)
    obtain rfl := q.symm
    refine R_icmp_ne rfl rfl (fun g2 => ?_) (fun g2 => ?_)
    · refine R_iconst (v := 0) rfl rfl ?_
      refine R_istore_n rfl (by decide) ?_
      refine R_iincN (x := i) (m := 1) rfl rfl rfl (by decide) ?_
      refine R_goto rfl rfl ?_
      refine (lp_it0 (i := i + 1) hg hs (by omega) (fun z => g2 ((ch_iff hg.1 (by omega) hs (by omega)).mpr (z.2.2 i (by omega)))) (by omega)).weak ⟨rfl, rfl, rfl, rfl, trivial⟩
    · refine R_iconst (v := 1) rfl rfl ?_
      refine R_goto rfl rfl ?_
      refine R_istore_n rfl (by decide) ?_
      refine R_iincN (x := i) (m := 1) rfl rfl rfl (by decide) ?_
      refine R_goto rfl rfl ?_
      refine (ih (i + 1) (fun m hm => ?_) (by omega)).weak ⟨rfl, rfl, rfl, rfl, trivial⟩
      by_cases e : m = i
      · subst e; exact (ch_iff hg.1 (by omega) hs (by omega)).mp g2
      · exact hw m (by omega)
set_option maxRecDepth 100000 in
set_option maxHeartbeats 4000000 in
theorem sp_isText {σ : am_G} {n : Nat} {B : List Int32} {t : am_T} {q0 : Nat} {bs : List Int32} (hg : tG σ n B t) (hs : (q0, bs) ∈ am_SL) : am_Call am_TX 4 0 c_M_isText [.ref 120, .ref (1000 + q0)] (mm σ) (am_Ok (some (.int (zP (isWd B bs t)))) (fun σ1 => σ1 = σ)) := by
  have h400 := hg.1.2.2.1
  have hb1 := hg.2.1.1
  have hb2 := hg.2.1.2.2.1
  have hb3 := hg.2.1.2.2.2
  have h9 := sl_b _ hs
  simp only at h9
  refine ⟨mf_M_isText, Nat.le_of_ble_eq_true rfl, ?_⟩
  refine R_aload_n rfl rfl ?_
  refine R_cV (as := []) rfl rfl iv_M_good (good_1 hg.2.2.2.1) (by omega) rfl rfl rfl (by decide) rfl rfl (Nat.le_of_ble_eq_true rfl) (fun _ q => ?_)
  obtain rfl := q.symm
  refine R_if_eq rfl rfl (fun z => absurd z (by decide)) (fun _ => ?_)
  refine R_aload_n rfl rfl ?_
  refine R_gIN (n := t.2.2.1) rfl rfl fd_11_16 hg.2.2.1.2.2.1 ?_
  refine R_iconst (v := 1) rfl rfl ?_
  refine R_nicmp_ne (x := t.2.2.1) (y := 1) rfl rfl (by omega) (by omega) (fun g1 => ?_) (fun g1 => ?_)
  · refine R_iconst (v := 0) rfl rfl ?_
    refine R_istore_n rfl (by decide) ?_
    refine R_iconst (v := 0) rfl rfl ?_
    refine R_istore_n rfl (by decide) ?_
    exact (lp_it0 (i := 0) hg hs (Nat.zero_le _) (fun z => absurd z.1 (by omega)) (by omega)).weak ⟨rfl, rfl, rfl, rfl, trivial⟩
  · refine R_aload_n rfl rfl ?_
    refine R_gIN (n := t.2.1) rfl rfl fd_11_14 hg.2.2.1.1 ?_
    refine R_aload_n rfl rfl ?_
    refine R_gIN (n := t.1) rfl rfl fd_11_15 hg.2.2.1.2.1 ?_
    refine R_isub rfl ?_
    refine R_aload_n rfl rfl ?_
    refine R_cT (i := q0) (as := []) rfl rfl iv_JString_length (sp_slength hs) (by omega) rfl rfl hs rfl rfl (Nat.le_of_ble_eq_true rfl) (fun _ q => ?_)
    obtain rfl := q.symm
    refine R_icmp_ne rfl rfl (fun g2 => ?_) (fun g2 => ?_)
    · refine R_iconst (v := 0) rfl rfl ?_
      refine R_istore_n rfl (by decide) ?_
      refine R_iconst (v := 0) rfl rfl ?_
      refine R_istore_n rfl (by decide) ?_
      exact (lp_it0 (i := 0) hg hs (Nat.zero_le _) (fun z => g2 ((nI_sub_iff (by omega) (by omega) (by omega)).mpr z.2.1)) (by omega)).weak ⟨rfl, rfl, rfl, rfl, trivial⟩
    · refine R_iconst (v := 1) rfl rfl ?_
      refine R_goto rfl rfl ?_
      refine R_istore_n rfl (by decide) ?_
      refine R_iconst (v := 0) rfl rfl ?_
      refine R_istore_n rfl (by decide) ?_
      exact (lp_it1 hg hs (by omega) ((nI_sub_iff (by omega) (by omega) (by omega)).mp g2) (by omega) bs.length 0 (fun m hm => absurd hm (Nat.not_lt_zero _)) (by omega)).weak ⟨rfl, rfl, rfl, rfl, trivial⟩
/-- the draft of the model: what the text has told so far -/
def dM (σ : am_G) (h w : Nat) (f : am_Gr) (rt : Nat) (P : Nat → Nat) (pn : Nat) : Prop := ((1 ≤ h ∧ h ≤ 6) ∧ 1 ≤ w ∧ w ≤ 6) ∧ (σ.2.2 = 122 ∧ σ.1 120 4 = 0) ∧ (σ.1 120 20 = nI rt ∧ rt ≤ h) ∧ (σ.2.1 122 0 = (nI h).toInt64 ∧ σ.2.1 122 1 = (nI w).toInt64 ∧ ∀ i j, i < 6 → j < 6 → σ.2.1 122 (14 + 6 * i + j) = f i j) ∧ (σ.2.1 122 2 = (nI pn).toInt64 ∧ pn ≤ 6 ∧ ∀ j, j < pn → σ.2.1 122 (50 + j) = (nI (P j)).toInt64 ∧ P j ∈ prL) ∧ ∀ k, ((3 ≤ k ∧ k < 14) ∨ (56 ≤ k ∧ k < 98)) → σ.2.1 122 k = 0
theorem dM.fr {Q : Nat → Nat → Prop} {σ σ1 : am_G} (q : smP Q σ σ1) {h w rt pn : Nat} {f : am_Gr} {P : Nat → Nat} (hd : dM σ h w f rt P pn) (h1 : ∀ b, ¬ Q 122 b) (h4 : ¬ Q 120 4) (h20 : ¬ Q 120 20) : dM σ1 h w f rt P pn := by
  obtain ⟨a, b, c, ⟨d1, d2, d3⟩, ⟨e1, e2, e3⟩, g⟩ := hd
  have o : ∀ k, σ1.2.1 122 k = σ.2.1 122 k := fun k => (q.1 122 k (h1 k)).2
  exact ⟨a, ⟨q.2.trans b.1, (q.i h4).trans b.2⟩, ⟨(q.i h20).trans c.1, c.2⟩, ⟨(o _).trans d1, (o _).trans d2, fun i j hi hj => (o _).trans (d3 i j hi hj)⟩, ⟨(o _).trans e1, e2, fun j hj => ⟨(o _).trans (e3 j hj).1, (e3 j hj).2⟩⟩, fun k hk => (o _).trans (g k hk)⟩
theorem dM.toV {σ : am_G} {h w rt pn : Nat} {f : am_Gr} {P : Nat → Nat} (hd : dM σ h w f rt P pn) : mV σ h w f := by
  refine ⟨hd.1, Or.inr hd.2.1.1, Or.inl ⟨hd.2.1.2, ?_⟩⟩
  rw [hd.2.1.1]
  exact hd.2.2.2.1
theorem dget {σ : am_G} {j : Nat} {x : Int32} (h2 : σ.2.2 = 122) (hj : j < 98) (e : σ.2.1 122 j = x.toInt64) : am_Call am_TX 0 0 c_M_get [.ref 120, .int (nI j)] (mm σ) (am_Ok (some (.int x)) (fun σ1 => σ1 = σ)) := by
  have z := sp_get h2 (Or.inr rfl) hj
  rw [e, i3264] at z; exact z
set_option maxRecDepth 100000 in
set_option maxHeartbeats 4000000 in
theorem lp_mto {σ : am_G} {h w rt pn : Nat} {f : am_Gr} {P : Nat → Nat} {p : Nat} {d k0 : Nat} (hd_ : dM σ h w f rt P pn) (hp : p ≤ 97) (hd : 1 ≤ d)  : ∀ (uu i : Nat) (hno : ∀ j, j < i → P j ≠ p), i + uu = pn → am_R am_TX d k0 c_M_isTold 2 [some (.ref 120), some (.int (nI p)), some (.int (nI i))] [] (mm σ) (am_Ok (some (.int (zP (∃ j, j < pn ∧ P j = p)))) (fun σ1 => σ1 = σ)) := by
  have hp6 := hd_.2.2.2.2.1.2.1
  have hPl := fun j hj => prL_le (P j) (hd_.2.2.2.2.1.2.2 j hj).2
  intro uu
  induction uu with
  | zero =>
    intro i hno hi
    obtain rfl : pn = i := by omega
    skip
    refine R_iload_n rfl rfl ?_
    refine R_aload_n rfl rfl ?_
    refine R_iconst (v := 2) rfl rfl ?_
    refine R_cV (as := [.int 2]) rfl rfl iv_M_get (dget (j := 2) hd_.2.1.1 (by omega) hd_.2.2.2.2.1.1) (by omega) rfl rfl rfl (by decide) rfl rfl (Nat.le_of_ble_eq_true rfl) (fun _ q => ?_)
    obtain rfl := q.symm
    refine R_nicmp_ge (x := pn) (y := pn) rfl rfl (by omega) (by omega) (fun g1 => ?_) (fun z => by omega)
    refine R_iconst (v := 0) rfl rfl ?_
    exact T_zreturn rfl rfl rfl (am_oki (zP_f (fun ⟨j, a, b⟩ => hno j a b)).symm rfl)
  | succ uu ih =>
    intro i hno hi
    have hpi := hPl i (by omega)
    refine R_iload_n rfl rfl ?_
    refine R_aload_n rfl rfl ?_
    refine R_iconst (v := 2) rfl rfl ?_
    refine R_cV (as := [.int 2]) rfl rfl iv_M_get (dget (j := 2) hd_.2.1.1 (by omega) hd_.2.2.2.2.1.1) (by omega) rfl rfl rfl (by decide) rfl rfl (Nat.le_of_ble_eq_true rfl) (fun _ q => ?_)
    obtain rfl := q.symm
    refine R_nicmp_ge (x := i) (y := pn) rfl rfl (by omega) (by omega) (fun z => by omega) (fun g1 => ?_)
    refine R_aload_n rfl rfl ?_
    refine R_bipush (v := 50) rfl (by decide) ?_
    refine R_iload_n rfl rfl ?_
    refine R_iaddN (x := 50) (y := i) rfl ?_
    refine R_cV (as := [.int (nI (50 + i))]) rfl rfl iv_M_get (dget (j := (50 + i)) hd_.2.1.1 (by omega) (hd_.2.2.2.2.1.2.2 _ (by omega)).1) (by omega) rfl rfl rfl (by decide) rfl rfl (Nat.le_of_ble_eq_true rfl) (fun _ q => ?_)
    obtain rfl := q.symm
    refine R_iload_n rfl rfl ?_
    refine R_nicmp_ne (x := (P i)) (y := p) rfl rfl (by omega) (by omega) (fun g2 => ?_) (fun g2 => ?_)
    · refine R_iincN (x := i) (m := 1) rfl rfl rfl (by decide) ?_
      refine R_goto rfl rfl ?_
      refine (ih (i + 1) (fun c hc => ?_) (by omega)).weak ⟨rfl, rfl, rfl, trivial⟩
      rcases Nat.lt_or_eq_of_le (Nat.le_of_lt_succ hc) with a | a
      · exact hno c a
      · subst a; exact g2
    · refine R_iconst (v := 1) rfl rfl ?_
      exact T_zreturn rfl rfl rfl (am_oki (zP_t ⟨i, by omega, g2⟩).symm rfl)
set_option maxRecDepth 100000 in
set_option maxHeartbeats 4000000 in
theorem sp_isTold {σ : am_G} {h w rt pn : Nat} {f : am_Gr} {P : Nat → Nat} {p : Nat} (hd_ : dM σ h w f rt P pn) (hp : p ≤ 97) : am_Call am_TX 1 0 c_M_isTold [.ref 120, .int (nI p)] (mm σ) (am_Ok (some (.int (zP (∃ j, j < pn ∧ P j = p)))) (fun σ1 => σ1 = σ)) := by
  refine ⟨mf_M_isTold, Nat.le_of_ble_eq_true rfl, ?_⟩
  refine R_iconst (v := 0) rfl rfl ?_
  refine R_istore_n rfl (by decide) ?_
  exact (lp_mto hd_ hp (by omega) pn 0 (fun c hc => absurd hc (Nat.not_lt_zero _)) (by omega)).weak ⟨rfl, rfl, rfl, trivial⟩
