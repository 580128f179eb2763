/-! ===== the input of the class ===== -/
/-- the bytes of the input, n of them -/
def iC (σ : am_G) (n : Nat) (B : List Int32) : Prop := B.length = n ∧ σ.1 1 0 = nI n ∧ n ≤ 400 ∧ ∀ i x, B[i]? = some x → σ.1 2 i = x
def pI (a _b : Nat) : Prop := a = 1 ∨ a = 2
theorem iC.fr {P : Nat → Nat → Prop} {σ σ1 : am_G} (q : smP P σ σ1) {n : Nat} {B : List Int32} (h : iC σ n B) (hp : ∀ b, ¬ P 1 b ∧ ¬ P 2 b) : iC σ1 n B :=
  ⟨h.1, (q.i (hp 0).1).trans h.2.1, h.2.2.1, fun i x e => (q.i (hp i).2).trans (h.2.2.2 i x e)⟩
theorem iC_push {σ : am_G} {n : Nat} {B : List Int32} {x : Int32} (h : iC σ n B) (hl : n < 400) : iC (sI (sI σ 2 n x) 1 0 (nI (n + 1))) (n + 1) (B ++ [x]) := by
  obtain ⟨h1, h2, h3, h4⟩ := h
  refine ⟨by rw [List.length_append, h1]; rfl, sI_s, hl, fun i y e => ?_⟩
  rw [sI_o (Or.inl (by decide))]
  by_cases hi : i = n
  · subst hi
    rw [sI_s]
    rw [List.getElem?_append_right (by omega), h1, Nat.sub_self] at e
    exact Option.some.inj e
  · rw [sI_o (Or.inr hi)]
    by_cases h5 : i < n
    · rw [List.getElem?_append_left (by omega)] at e
      exact h4 i y e
    · rw [List.getElem?_append_right (by omega), List.getElem?_eq_none (by show 1 ≤ i - B.length; omega)] at e
      exact absurd e (by simp)
/-- the bytes of a word -/
def wb (x s : Int32) : Int32 := (x.toUInt32 >>> (s.toUInt32 &&& Int32.toUInt32 31)).toInt32 &&& 255
def wdL (x : Int32) : List Int32 := [wb x 24, wb x 16, wb x 8, wb x 0]
theorem iC_push4 {σ : am_G} {n : Nat} {B : List Int32} {a b c d : Int32} (h : iC σ n B) (hl : n + 4 ≤ 400) : iC (sI (sI (sI (sI (sI (sI (sI (sI σ 2 n a) 1 0 (nI (n + 1))) 2 (n + 1) b) 1 0 (nI ((n + 1) + 1))) 2 ((n + 1) + 1) c) 1 0 (nI (((n + 1) + 1) + 1))) 2 (((n + 1) + 1) + 1) d) 1 0 (nI ((((n + 1) + 1) + 1) + 1))) (n + 4) (B ++ [a, b, c, d]) := by
  have z := iC_push (x := d) (iC_push (x := c) (iC_push (x := b) (iC_push (x := a) h (by omega)) (by omega)) (by omega)) (by omega)
  rw [List.append_assoc, List.append_assoc, List.append_assoc] at z
  exact z
set_option maxRecDepth 100000 in
set_option maxHeartbeats 4000000 in
theorem sp_addWord {σ : am_G} {n : Nat} {B : List Int32} {x : Int32} (h : iC σ n B) (hl : n + 4 ≤ 400) : am_Call am_TX 0 0 c_Input_addWord [.ref 1, .int x] (mm σ) (am_Ok none (fun σ1 => smP pI σ σ1 ∧ iC σ1 (n + 4) (B ++ wdL x))) := by
  refine ⟨mf_Input_addWord, Nat.le_of_ble_eq_true rfl, ?_⟩
  refine R_bipush (v := 24) rfl (by decide) ?_
  refine R_istore_n rfl (by decide) ?_
  refine R_iload_n rfl rfl ?_
  refine R_if_lt rfl rfl (fun z => absurd z (by decide)) (fun _ => ?_)
  refine R_aload_n rfl rfl ?_
  refine R_gIN (n := n) rfl rfl fd_3_0 h.2.1 ?_
  refine R_nif_lt (x := n) rfl rfl (by omega) (fun z => by omega) (fun h1 => ?_)
  refine R_aload_n rfl rfl ?_
  refine R_gIN (n := n) rfl rfl fd_3_0 h.2.1 ?_
  refine R_aload_n rfl rfl ?_
  refine R_gP (x := 2) rfl rfl fp_3_1 rfl ?_
  refine R_aln (v := 400) rfl rfl (by decide) (by decide) ?_
  refine R_nicmp_ge (x := n) (y := 400) rfl rfl (by omega) (by omega) (fun z => by omega) (fun h2 => ?_)
  refine R_aload_n rfl rfl ?_
  refine R_gP (x := 2) rfl rfl fp_3_1 rfl ?_
  refine R_aload_n rfl rfl ?_
  refine R_gIN (n := n) rfl rfl fd_3_0 h.2.1 ?_
  refine R_iload_n rfl rfl ?_
  refine R_iload_n rfl rfl ?_
  refine R_iushr rfl ?_
  refine R_sipush (v := 255) rfl (by decide) ?_
  refine R_iand rfl ?_
  refine R_wI (j := n) rfl rfl rfl (by omega) (by decide) ?_
  refine R_aload_n rfl rfl ?_
  refine R_dup rfl rfl ?_
  refine R_gIN (n := n) rfl rfl fd_3_0 ((sI_o (Or.inl (by decide))).trans h.2.1) ?_
  refine R_iconst (v := 1) rfl rfl ?_
  refine R_iaddN (x := n) (y := 1) rfl ?_
  refine R_pI rfl rfl fw_3_0 rfl ?_
  refine R_iinc rfl rfl (by decide) ?_
  refine R_goto rfl rfl ?_
  refine R_iload_n rfl rfl ?_
  refine R_if_lt rfl rfl (fun z => absurd z (by decide)) (fun _ => ?_)
  refine R_aload_n rfl rfl ?_
  refine R_gIN (n := (n + 1)) rfl rfl fd_3_0 sI_s ?_
  refine R_nif_lt (x := (n + 1)) rfl rfl (by omega) (fun z => by omega) (fun h3 => ?_)
  refine R_aload_n rfl rfl ?_
  refine R_gIN (n := (n + 1)) rfl rfl fd_3_0 sI_s ?_
  refine R_aload_n rfl rfl ?_
  refine R_gP (x := 2) rfl rfl fp_3_1 rfl ?_
  refine R_aln (v := 400) rfl rfl (by decide) (by decide) ?_
  refine R_nicmp_ge (x := (n + 1)) (y := 400) rfl rfl (by omega) (by omega) (fun z => by omega) (fun h4 => ?_)
  refine R_aload_n rfl rfl ?_
  refine R_gP (x := 2) rfl rfl fp_3_1 rfl ?_
  refine R_aload_n rfl rfl ?_
  refine R_gIN (n := (n + 1)) rfl rfl fd_3_0 sI_s ?_
  refine R_iload_n rfl rfl ?_
  refine R_iload_n rfl rfl ?_
  refine R_iushr rfl ?_
  refine R_sipush (v := 255) rfl (by decide) ?_
  refine R_iand rfl ?_
  refine R_wI (j := (n + 1)) rfl rfl rfl (by omega) (by decide) ?_
  refine R_aload_n rfl rfl ?_
  refine R_dup rfl rfl ?_
  refine R_gIN (n := (n + 1)) rfl rfl fd_3_0 ((sI_o (Or.inl (by decide))).trans sI_s) ?_
  refine R_iconst (v := 1) rfl rfl ?_
  refine R_iaddN (x := (n + 1)) (y := 1) rfl ?_
  refine R_pI rfl rfl fw_3_0 rfl ?_
  refine R_iinc rfl rfl (by decide) ?_
  refine R_goto rfl rfl ?_
  refine R_iload_n rfl rfl ?_
  refine R_if_lt rfl rfl (fun z => absurd z (by decide)) (fun _ => ?_)
  refine R_aload_n rfl rfl ?_
  refine R_gIN (n := ((n + 1) + 1)) rfl rfl fd_3_0 sI_s ?_
  refine R_nif_lt (x := ((n + 1) + 1)) rfl rfl (by omega) (fun z => by omega) (fun h5 => ?_)
  refine R_aload_n rfl rfl ?_
  refine R_gIN (n := ((n + 1) + 1)) rfl rfl fd_3_0 sI_s ?_
  refine R_aload_n rfl rfl ?_
  refine R_gP (x := 2) rfl rfl fp_3_1 rfl ?_
  refine R_aln (v := 400) rfl rfl (by decide) (by decide) ?_
  refine R_nicmp_ge (x := ((n + 1) + 1)) (y := 400) rfl rfl (by omega) (by omega) (fun z => by omega) (fun h6 => ?_)
  refine R_aload_n rfl rfl ?_
  refine R_gP (x := 2) rfl rfl fp_3_1 rfl ?_
  refine R_aload_n rfl rfl ?_
  refine R_gIN (n := ((n + 1) + 1)) rfl rfl fd_3_0 sI_s ?_
  refine R_iload_n rfl rfl ?_
  refine R_iload_n rfl rfl ?_
  refine R_iushr rfl ?_
  refine R_sipush (v := 255) rfl (by decide) ?_
  refine R_iand rfl ?_
  refine R_wI (j := ((n + 1) + 1)) rfl rfl rfl (by omega) (by decide) ?_
  refine R_aload_n rfl rfl ?_
  refine R_dup rfl rfl ?_
  refine R_gIN (n := ((n + 1) + 1)) rfl rfl fd_3_0 ((sI_o (Or.inl (by decide))).trans sI_s) ?_
  refine R_iconst (v := 1) rfl rfl ?_
  refine R_iaddN (x := ((n + 1) + 1)) (y := 1) rfl ?_
  refine R_pI rfl rfl fw_3_0 rfl ?_
  refine R_iinc rfl rfl (by decide) ?_
  refine R_goto rfl rfl ?_
  refine R_iload_n rfl rfl ?_
  refine R_if_lt rfl rfl (fun z => absurd z (by decide)) (fun _ => ?_)
  refine R_aload_n rfl rfl ?_
  refine R_gIN (n := (((n + 1) + 1) + 1)) rfl rfl fd_3_0 sI_s ?_
  refine R_nif_lt (x := (((n + 1) + 1) + 1)) rfl rfl (by omega) (fun z => by omega) (fun h7 => ?_)
  refine R_aload_n rfl rfl ?_
  refine R_gIN (n := (((n + 1) + 1) + 1)) rfl rfl fd_3_0 sI_s ?_
  refine R_aload_n rfl rfl ?_
  refine R_gP (x := 2) rfl rfl fp_3_1 rfl ?_
  refine R_aln (v := 400) rfl rfl (by decide) (by decide) ?_
  refine R_nicmp_ge (x := (((n + 1) + 1) + 1)) (y := 400) rfl rfl (by omega) (by omega) (fun z => by omega) (fun h8 => ?_)
  refine R_aload_n rfl rfl ?_
  refine R_gP (x := 2) rfl rfl fp_3_1 rfl ?_
  refine R_aload_n rfl rfl ?_
  refine R_gIN (n := (((n + 1) + 1) + 1)) rfl rfl fd_3_0 sI_s ?_
  refine R_iload_n rfl rfl ?_
  refine R_iload_n rfl rfl ?_
  refine R_iushr rfl ?_
  refine R_sipush (v := 255) rfl (by decide) ?_
  refine R_iand rfl ?_
  refine R_wI (j := (((n + 1) + 1) + 1)) rfl rfl rfl (by omega) (by decide) ?_
  refine R_aload_n rfl rfl ?_
  refine R_dup rfl rfl ?_
  refine R_gIN (n := (((n + 1) + 1) + 1)) rfl rfl fd_3_0 ((sI_o (Or.inl (by decide))).trans sI_s) ?_
  refine R_iconst (v := 1) rfl rfl ?_
  refine R_iaddN (x := (((n + 1) + 1) + 1)) (y := 1) rfl ?_
  refine R_pI rfl rfl fw_3_0 rfl ?_
  refine R_iinc rfl rfl (by decide) ?_
  refine R_goto rfl rfl ?_
  refine R_iload_n rfl rfl ?_
  refine R_if_lt rfl rfl (fun _ => ?_) (fun z => absurd z (by decide))
  exact T_return rfl rfl (am_okv0 ⟨((((((((smP_sI (p := pI) (Or.inr rfl)).trans (smP_sI (p := pI) (Or.inl rfl))).trans (smP_sI (p := pI) (Or.inr rfl))).trans (smP_sI (p := pI) (Or.inl rfl))).trans (smP_sI (p := pI) (Or.inr rfl))).trans (smP_sI (p := pI) (Or.inl rfl))).trans (smP_sI (p := pI) (Or.inr rfl))).trans (smP_sI (p := pI) (Or.inl rfl))), iC_push4 h hl⟩)
set_option maxRecDepth 100000 in
set_option maxHeartbeats 4000000 in
theorem sp_hasRoomFor {σ : am_G} {n k : Nat} {B : List Int32} (h : iC σ n B) (hk : k ≤ 400) : am_Call am_TX 0 0 c_Input_hasRoomFor [.ref 1, .int (nI k)] (mm σ) (am_Ok (some (.int (zP (n + k ≤ 400)))) (fun σ1 => σ1 = σ)) := by
  have h400 := h.2.2.1
  refine ⟨mf_Input_hasRoomFor, Nat.le_of_ble_eq_true rfl, ?_⟩
  refine R_aload_n rfl rfl ?_
  refine R_gIN (n := n) rfl rfl fd_3_0 h.2.1 ?_
  refine R_iload_n rfl rfl ?_
  refine R_iaddN (x := n) (y := k) rfl ?_
  refine R_aload_n rfl rfl ?_
  refine R_gP (x := 2) rfl rfl fp_3_1 rfl ?_
  refine R_aln (v := 400) rfl rfl (by decide) (by decide) ?_
  refine R_nicmp_gt (x := (n + k)) (y := 400) rfl rfl (by omega) (by omega) (fun h1 => ?_) (fun h1 => ?_)
  · refine R_iconst (v := 0) rfl rfl ?_
    exact T_zreturn rfl rfl rfl (am_oki (zP_f (by omega)).symm rfl)
  · refine R_iconst (v := 1) rfl rfl ?_
    refine R_goto rfl rfl ?_
    exact T_zreturn rfl rfl rfl (am_oki (zP_t (by omega)).symm rfl)
def apL (a b c d e : Int32) : List Int32 := wdL a ++ wdL b ++ wdL c ++ wdL d ++ wdL e
set_option maxRecDepth 100000 in
set_option maxHeartbeats 4000000 in
theorem sp_D_append {σ : am_G} {n : Nat} {B : List Int32} {a b c d e : Int32} (h : iC σ n B) (hl : n + 20 ≤ 400) : am_Call am_TX 2 0 c_D_append [.ref 0, .int a, .int b, .int c, .int d, .int e] (mm σ) (am_Ok (some (.int (nI (n + 20)))) (fun σ1 => smP pI σ σ1 ∧ iC σ1 (n + 20) (B ++ apL a b c d e))) := by
  refine ⟨mf_D_append, Nat.le_of_ble_eq_true rfl, ?_⟩
  refine R_aload_n rfl rfl ?_
  refine R_gP (x := 1) rfl rfl fp_10_0 rfl ?_
  refine R_bipush (v := 20) rfl (by decide) ?_
  refine R_cV (as := [.int 20]) rfl rfl iv_Input_hasRoomFor (sp_hasRoomFor (k := 20) h (by omega)) (by decide) rfl rfl rfl (by decide) rfl rfl (Nat.le_of_ble_eq_true rfl) (fun _ q => ?_)
  obtain rfl := q.symm
  refine R_if_ne rfl rfl (fun h1 => ?_) (fun z => absurd hl (zP_0 z))
  refine R_aload_n rfl rfl ?_
  refine R_gP (x := 1) rfl rfl fp_10_0 rfl ?_
  refine R_iload_n rfl rfl ?_
  refine R_cV (as := [.int a]) rfl rfl iv_Input_addWord (sp_addWord (x := a) h (by omega)) (by decide) rfl rfl rfl (by decide) rfl rfl (Nat.le_of_ble_eq_true rfl) (fun τ1 hτ1 => ?_)
  obtain ⟨pτ1, oτ1⟩ := hτ1
  refine R_aload_n rfl rfl ?_
  refine R_gP (x := 1) rfl rfl fp_10_0 rfl ?_
  refine R_iload_n rfl rfl ?_
  refine R_cV (as := [.int b]) rfl rfl iv_Input_addWord (sp_addWord (x := b) oτ1 (by omega)) (by decide) rfl rfl rfl (by decide) rfl rfl (Nat.le_of_ble_eq_true rfl) (fun τ2 hτ2 => ?_)
  obtain ⟨pτ2, oτ2⟩ := hτ2
  refine R_aload_n rfl rfl ?_
  refine R_gP (x := 1) rfl rfl fp_10_0 rfl ?_
  refine R_iload_n rfl rfl ?_
  refine R_cV (as := [.int c]) rfl rfl iv_Input_addWord (sp_addWord (x := c) oτ2 (by omega)) (by decide) rfl rfl rfl (by decide) rfl rfl (Nat.le_of_ble_eq_true rfl) (fun τ3 hτ3 => ?_)
  obtain ⟨pτ3, oτ3⟩ := hτ3
  refine R_aload_n rfl rfl ?_
  refine R_gP (x := 1) rfl rfl fp_10_0 rfl ?_
  refine R_iload rfl rfl ?_
  refine R_cV (as := [.int d]) rfl rfl iv_Input_addWord (sp_addWord (x := d) oτ3 (by omega)) (by decide) rfl rfl rfl (by decide) rfl rfl (Nat.le_of_ble_eq_true rfl) (fun τ4 hτ4 => ?_)
  obtain ⟨pτ4, oτ4⟩ := hτ4
  refine R_aload_n rfl rfl ?_
  refine R_gP (x := 1) rfl rfl fp_10_0 rfl ?_
  refine R_iload rfl rfl ?_
  refine R_cV (as := [.int e]) rfl rfl iv_Input_addWord (sp_addWord (x := e) oτ4 (by omega)) (by decide) rfl rfl rfl (by decide) rfl rfl (Nat.le_of_ble_eq_true rfl) (fun τ5 hτ5 => ?_)
  obtain ⟨pτ5, oτ5⟩ := hτ5
  refine R_aload_n rfl rfl ?_
  refine R_gP (x := 1) rfl rfl fp_10_0 rfl ?_
  refine R_gIN (n := n + 4 + 4 + 4 + 4 + 4) rfl rfl fd_3_0 oτ5.2.1 ?_
  exact T_ireturn rfl rfl (am_oki rfl ⟨((((pτ1.trans pτ2).trans pτ3).trans pτ4).trans pτ5), by have o := oτ5; unfold apL; simp only [List.append_assoc] at o ⊢; exact o⟩)
theorem iC_take {σ : am_G} {n k : Nat} {B : List Int32} (h : iC σ n B) (hk : k ≤ n) : iC (sI σ 1 0 (nI k)) k (B.take k) := by
  obtain ⟨h1, h2, h3, h4⟩ := h
  refine ⟨by rw [List.length_take]; omega, sI_s, by omega, fun i x e => ?_⟩
  rw [sI_o (Or.inl (by decide))]
  rw [List.getElem?_take] at e
  split at e
  · exact h4 i x e
  · exact absurd e (by simp)
set_option maxRecDepth 100000 in
set_option maxHeartbeats 4000000 in
theorem sp_D_truncate {σ : am_G} {n k : Nat} {B : List Int32} (h : iC σ n B) (hk : k ≤ n) : am_Call am_TX 1 0 c_D_truncate [.ref 0, .int (nI k)] (mm σ) (am_Ok none (fun σ1 => smP pI σ σ1 ∧ iC σ1 k (B.take k))) := by
  have h400 := h.2.2.1
  have hrg := rg_n hk (by omega)
  refine ⟨mf_D_truncate, Nat.le_of_ble_eq_true rfl, ?_⟩
  refine R_aload_n rfl rfl ?_
  refine R_iload_n rfl rfl ?_
  refine R_iconst (v := 0) rfl rfl ?_
  refine R_aload_n rfl rfl ?_
  refine R_gP (x := 1) rfl rfl fp_10_0 rfl ?_
  refine R_gIN (n := n) rfl rfl fd_3_0 h.2.1 ?_
  refine R_cV (as := [.int (nI k), .int 0, .int (nI n)]) rfl rfl iv_D_requireRange (sp_requireRange hrg) (by decide) rfl rfl rfl (by decide) rfl rfl (Nat.le_of_ble_eq_true rfl) (fun _ q => ?_)
  obtain rfl := q.symm
  refine R_aload_n rfl rfl ?_
  refine R_gP (x := 1) rfl rfl fp_10_0 rfl ?_
  refine R_iload_n rfl rfl ?_
  refine R_pI rfl rfl fw_3_0 rfl ?_
  exact T_return rfl rfl (am_okv0 ⟨smP_sI (Or.inl rfl), iC_take h hk⟩)
/-- the byte at a place, minus one behind the end -/
def ibA (B : List Int32) (k : Nat) : Int32 := (B[k]?).getD (-1)
theorem iC_at {σ : am_G} {n k : Nat} {B : List Int32} (h : iC σ n B) (hk : k < n) : σ.1 2 k = ibA B k := by
  have e := List.getElem?_eq_getElem (l := B) (i := k) (by rw [h.1]; exact hk)
  unfold ibA
  rw [e]
  exact h.2.2.2 k _ e
theorem ibA_o {n k : Nat} {B : List Int32} (h : B.length = n) (hk : ¬ k < n) : ibA B k = -1 := by
  unfold ibA
  rw [List.getElem?_eq_none (by omega)]; rfl
set_option maxRecDepth 100000 in
set_option maxHeartbeats 4000000 in
theorem sp_Input_byteAt {σ : am_G} {n k : Nat} {B : List Int32} (h : iC σ n B) (hk : k < 2 ^ 31) : am_Call am_TX 0 0 c_Input_byteAt [.ref 1, .int (nI k)] (mm σ) (am_Ok (some (.int (ibA B k))) (fun σ1 => σ1 = σ)) := by
  have h400 := h.2.2.1
  refine ⟨mf_Input_byteAt, Nat.le_of_ble_eq_true rfl, ?_⟩
  refine R_iload_n rfl rfl ?_
  refine R_nif_lt (x := k) rfl rfl (by omega) (fun z => by omega) (fun h1 => ?_)
  refine R_iload_n rfl rfl ?_
  refine R_aload_n rfl rfl ?_
  refine R_gIN (n := n) rfl rfl fd_3_0 h.2.1 ?_
  refine R_nicmp_ge (x := k) (y := n) rfl rfl (by omega) (by omega) (fun h2 => ?_) (fun h2 => ?_)
  · refine R_iconst (v := -1) rfl rfl ?_
    exact T_ireturn rfl rfl (am_oki ((ibA_o h.1 (by omega)).symm) rfl)
  · refine R_iload_n rfl rfl ?_
    refine R_aload_n rfl rfl ?_
    refine R_gP (x := 2) rfl rfl fp_3_1 rfl ?_
    refine R_aln (v := 400) rfl rfl (by decide) (by decide) ?_
    refine R_nicmp_ge (x := k) (y := 400) rfl rfl (by omega) (by omega) (fun z => by omega) (fun h3 => ?_)
    refine R_aload_n rfl rfl ?_
    refine R_gP (x := 2) rfl rfl fp_3_1 rfl ?_
    refine R_iload_n rfl rfl ?_
    refine R_xI (j := k) rfl rfl rfl (by omega) (by decide) ?_
    refine R_goto rfl rfl ?_
    exact T_ireturn rfl rfl (am_oki (iC_at h (by omega)) rfl)

