/-! ===== words, the matrix of the text ===== -/
abbrev isWd (B bs : List Int32) (t : am_T) : Prop := t.2.2.1 = 1 ∧ t.2.1 = t.1 + bs.length ∧ ∀ j, j < bs.length → ibA B (t.1 + j) = bs.getD j 0
theorem nI_sub_iff {a b n : Nat} (ha : a < 2 ^ 30) (hb : b < 2 ^ 30) (hn : n < 2 ^ 30) : nI a - nI b = nI n ↔ a = b + n := by
  constructor
  · intro h
    have h2 : nI a = nI (b + n) := by
      rw [← nI_add, ← h, Int32.add_comm, Int32.sub_add_cancel]
    exact nI_i (by omega) (by omega) h2
  · rintro rfl
    rw [← nI_add, Int32.add_comm, Int32.add_sub_cancel]
set_option maxRecDepth 100000 in
set_option maxHeartbeats 4000000 in
theorem lp_wrd {σ : am_G} {n : Nat} {B : List Int32} {t : am_T} {q0 : Nat} {bs : List Int32} {d k0 : Nat} (hB : iC σ n B) (hb : tkB n t) (hT : tkC σ t) (hs : (q0, bs) ∈ am_SL) (hk : t.2.2.1 = 1) (he : t.2.1 = t.1 + bs.length) (hd : 4 ≤ d)  : ∀ (uu i : Nat) (hw : ∀ m, m < i → ibA B (t.1 + m) = bs.getD m 0), i + uu = bs.length → am_R am_TX d k0 c_Parser_isWord 28 [some (.ref 13), some (.ref (1000 + q0)), some (.int (nI i))] [] (mm σ) (am_Ok (some (.int (zP (isWd B bs t)))) (fun σ1 => σ1 = σ)) := by
  have h400 := hB.2.2.1
  have h9 := sl_b _ hs
  have hb1 := hb.2.2.1
  have hb2 := hb.2.2.2
  simp only at h9
  intro uu
  induction uu with
  | zero =>
    intro i hw hi
    obtain rfl : bs.length = i := by omega
    refine R_iload_n rfl rfl ?_
    refine R_aload_n rfl rfl ?_
    refine R_cT (i := q0) (as := []) rfl rfl iv_JString_length (sp_slength hs) (by omega) rfl rfl hs rfl rfl (Nat.le_of_ble_eq_true rfl) (fun _ q => ?_)
    obtain rfl := q.symm
    refine R_nicmp_ge (x := bs.length) (y := bs.length) rfl rfl (by omega) (by omega) (fun g1 => ?_) (fun z => by omega)
    refine R_iconst (v := 1) rfl rfl ?_
    exact T_zreturn rfl rfl rfl (am_oki (zP_t ⟨hk, he, hw⟩).symm rfl)
  | succ uu ih =>
    intro i hw hi
    refine R_iload_n rfl rfl ?_
    refine R_aload_n rfl rfl ?_
    refine R_cT (i := q0) (as := []) rfl rfl iv_JString_length (sp_slength hs) (by omega) rfl rfl hs rfl rfl (Nat.le_of_ble_eq_true rfl) (fun _ q => ?_)
    obtain rfl := q.symm
    refine R_nicmp_ge (x := i) (y := bs.length) rfl rfl (by omega) (by omega) (fun z => by omega) (fun g1 => ?_)
    refine R_aload_n rfl rfl ?_
    refine R_gP (x := 1) rfl rfl fp_6_3 rfl ?_
    refine R_aload_n rfl rfl ?_
    refine R_gIN (n := t.1) rfl rfl fd_6_6 hT.1 ?_
    refine R_iload_n rfl rfl ?_
    refine R_iaddN (x := t.1) (y := i) rfl ?_
    refine R_cV (as := [.int (nI (t.1 + i))]) rfl rfl iv_Input_byteAt (sp_Input_byteAt (k := (t.1 + i)) hB (by omega)) (by omega) rfl rfl rfl (by decide) rfl rfl (Nat.le_of_ble_eq_true rfl) (fun _ q => ?_)
    obtain rfl := q.symm
    refine R_aload_n rfl rfl ?_
    refine R_iload_n rfl rfl ?_
    refine R_cT (i := q0) (as := [.int (nI i)]) rfl rfl iv_JString_charAt (sp_charAt (j := i) hs (by omega)) (by omega) rfl rfl hs rfl rfl (Nat.le_of_ble_eq_true rfl) (fun _ q => ?_)
    obtain rfl := q.symm
    refine R_icmp_eq rfl rfl (fun g2 => ?_) (fun g2 => ?_)
    · refine R_iincN (x := i) (m := 1) rfl rfl rfl (by decide) ?_
      refine R_goto rfl rfl ?_
      refine (ih (i + 1) (fun m hm => ?_) (by omega)).weak ⟨rfl, rfl, rfl, trivial⟩
      by_cases e : m = i
      · subst e; exact g2
      · exact hw m (by omega)
    · refine R_iconst (v := 0) rfl rfl ?_
      exact T_zreturn rfl rfl rfl (am_oki (zP_f (fun z => g2 (z.2.2 i (by omega)))).symm rfl)
set_option maxRecDepth 100000 in
set_option maxHeartbeats 4000000 in
theorem sp_isWord {σ : am_G} {n : Nat} {B : List Int32} {t : am_T} {q0 : Nat} {bs : List Int32} (hB : iC σ n B) (hb : tkB n t) (hT : tkC σ t) (hs : (q0, bs) ∈ am_SL) : am_Call am_TX 4 0 c_Parser_isWord [.ref 13, .ref (1000 + q0)] (mm σ) (am_Ok (some (.int (zP (isWd B bs t)))) (fun σ1 => σ1 = σ)) := by
  have h400 := hB.2.2.1
  have h9 := sl_b _ hs
  have hb1 := hb.2.2.1
  have hb2 := hb.2.2.2
  simp only at h9
  have hb0 := hb.1
  refine ⟨mf_Parser_isWord, Nat.le_of_ble_eq_true rfl, ?_⟩
  refine R_aload_n rfl rfl ?_
  refine R_gIN (n := t.2.2.1) rfl rfl fd_6_5 hT.2.2.1 ?_
  refine R_iconst (v := 1) rfl rfl ?_
  refine R_nicmp_ne (x := t.2.2.1) (y := 1) rfl rfl (by omega) (by omega) (fun g1 => ?_) (fun g1 => ?_)
  · refine R_iconst (v := 0) rfl rfl ?_
    exact T_zreturn rfl rfl rfl (am_oki (zP_f (fun z => absurd z.1 (by omega))).symm rfl)
  · refine R_aload_n rfl rfl ?_
    refine R_gIN (n := t.2.1) rfl rfl fd_6_7 hT.2.1 ?_
    refine R_aload_n rfl rfl ?_
    refine R_gIN (n := t.1) rfl rfl fd_6_6 hT.1 ?_
    refine R_isub rfl ?_
    refine R_aload_n rfl rfl ?_
    refine R_cT (i := q0) (as := []) rfl rfl iv_JString_length (sp_slength hs) (by decide) rfl rfl hs rfl rfl (Nat.le_of_ble_eq_true rfl) (fun _ q => ?_)
    obtain rfl := q.symm
    refine R_icmp_eq rfl rfl (fun g2 => ?_) (fun g2 => ?_)
    · refine R_iconst (v := 0) rfl rfl ?_
      refine R_istore_n rfl (by decide) ?_
      exact (lp_wrd hB hb hT hs (by omega) ((nI_sub_iff (by omega) (by omega) (by omega)).mp g2) (by omega) bs.length 0 (fun m hm => by omega) (by omega)).weak ⟨rfl, rfl, rfl, trivial⟩
    · refine R_iconst (v := 0) rfl rfl ?_
      exact T_zreturn rfl rfl rfl (am_oki (zP_f (fun z => g2 ((nI_sub_iff (by omega) (by omega) (by omega)).mpr z.2.1))).symm rfl)

