/-! ===== the tokens ===== -/
def isBb (x : Int32) : Bool := decide (x = 32 ∨ x = 10)
def isLb (x : Int32) : Bool := decide (97 ≤ x ∧ x ≤ 122)
def isDb (x : Int32) : Bool := decide (48 ≤ x ∧ x ≤ 57)
/-- how far a kind of bytes goes, u bytes at most -/
def skF (p : Int32 → Bool) (B : List Int32) : Nat → Nat → Nat
  | 0, i => i
  | u + 1, i => if p (ibA B i) = true then skF p B u (i + 1) else i
theorem skF_le {p : Int32 → Bool} {B : List Int32} : ∀ u i, skF p B u i ≤ i + u
  | 0, _ => Nat.le_refl _
  | u + 1, i => by
    have ih := @skF_le p B u (i + 1)
    simp only [skF]
    split <;> omega
/-- the value of a number, not more than the cap -/
def dgv (x : Int32) : Nat := (x.toInt - 48).toNat
def nvF (cap : Nat) (B : List Int32) : Nat → Nat → Nat → Nat
  | 0, _, a => a
  | u + 1, i, a => if isDb (ibA B i) = true then nvF cap B u (i + 1) (min (a * 10 + dgv (ibA B i)) cap) else a
theorem dgv_b {x : Int32} (h : isDb x = true) : x = nI (48 + dgv x) ∧ dgv x ≤ 9 := by
  have h := of_decide_eq_true h
  obtain ⟨h1, h2⟩ := h
  rw [Int32.le_iff_toInt_le, show (48 : Int32).toInt = 48 from rfl] at h1
  rw [Int32.le_iff_toInt_le, show (57 : Int32).toInt = 57 from rfl] at h2
  unfold dgv
  refine ⟨?_, by omega⟩
  apply Int32.toInt_inj.mp
  rw [nI_toInt (by omega)]
  omega
/-- a token: its start, its end, its kind (0 none, 1 word, 2 number, 3 sign), its number -/
abbrev am_T : Type := Nat × Nat × Nat × Nat
def nxS (B : List Int32) (n e : Nat) : Nat := skF isBb B (n - e) e
def tkF (cap : Nat) (B : List Int32) (n e : Nat) : am_T :=
  if nxS B n e < n then
    if isLb (ibA B (nxS B n e)) = true then (nxS B n e, skF isLb B (n - nxS B n e) (nxS B n e), 1, 0)
    else if isDb (ibA B (nxS B n e)) = true then (nxS B n e, skF isDb B (n - nxS B n e) (nxS B n e), 2, nvF cap B (n - nxS B n e) (nxS B n e) 0)
    else (nxS B n e, nxS B n e + 1, 3, 0)
  else (nxS B n e, nxS B n e, 0, 0)
theorem nxS_le {B : List Int32} {n e : Nat} (h : e ≤ n) : nxS B n e ≤ n := by
  have := @skF_le isBb B (n - e) e
  unfold nxS; omega
theorem tkF_le {cap : Nat} {B : List Int32} {n e : Nat} (h : e ≤ n) : (tkF cap B n e).1 ≤ n ∧ (tkF cap B n e).2.1 ≤ n := by
  have h1 := nxS_le (B := B) h
  have h2 := @skF_le isLb B (n - nxS B n e) (nxS B n e)
  have h3 := @skF_le isDb B (n - nxS B n e) (nxS B n e)
  unfold tkF
  split
  · split
    · exact ⟨h1, by show skF _ _ _ _ ≤ n; omega⟩
    · split
      · exact ⟨h1, by show skF _ _ _ _ ≤ n; omega⟩
      · exact ⟨h1, by show nxS B n e + 1 ≤ n; omega⟩
  · exact ⟨h1, h1⟩
/-- the parser's token -/
def tkC (σ : am_G) (t : am_T) : Prop := σ.1 13 6 = nI t.1 ∧ σ.1 13 7 = nI t.2.1 ∧ σ.1 13 5 = nI t.2.2.1 ∧ (t.2.2.1 = 2 → σ.1 13 8 = nI t.2.2.2)
def pP (a b : Nat) : Prop := a = 13 ∧ 5 ≤ b
set_option maxRecDepth 100000 in
set_option maxHeartbeats 4000000 in
theorem sp_isBlank {σ : am_G} {x : Int32} : am_Call am_TX 0 0 c_Parser_isBlank [.int x] (mm σ) (am_Ok (some (.int (zP (isBb x = true)))) (fun σ1 => σ1 = σ)) := by
  refine ⟨mf_Parser_isBlank, Nat.le_of_ble_eq_true rfl, ?_⟩
  refine R_iload_n rfl rfl ?_
  refine R_bipush (v := 32) rfl (by decide) ?_
  refine R_icmp_eq rfl rfl (fun h1 => ?_) (fun h1 => ?_)
  · refine R_iconst (v := 1) rfl rfl ?_
    refine R_goto rfl rfl ?_
    exact T_zreturn rfl rfl rfl (am_oki (zP_t (decide_eq_true (Or.inl h1))).symm rfl)
  · refine R_iload_n rfl rfl ?_
    refine R_bipush (v := 10) rfl (by decide) ?_
    refine R_icmp_ne rfl rfl (fun h2 => ?_) (fun h2 => ?_)
    · refine R_iconst (v := 0) rfl rfl ?_
      exact T_zreturn rfl rfl rfl (am_oki (zP_f (fun z => (of_decide_eq_true z).elim h1 h2)).symm rfl)
    · refine R_iconst (v := 1) rfl rfl ?_
      refine R_goto rfl rfl ?_
      exact T_zreturn rfl rfl rfl (am_oki (zP_t (decide_eq_true (Or.inr h2))).symm rfl)
set_option maxRecDepth 100000 in
set_option maxHeartbeats 4000000 in
theorem sp_isLetter {σ : am_G} {x : Int32} : am_Call am_TX 0 0 c_Parser_isLetter [.int x] (mm σ) (am_Ok (some (.int (zP (isLb x = true)))) (fun σ1 => σ1 = σ)) := by
  refine ⟨mf_Parser_isLetter, Nat.le_of_ble_eq_true rfl, ?_⟩
  refine R_iload_n rfl rfl ?_
  refine R_bipush (v := 97) rfl (by decide) ?_
  refine R_icmp_lt rfl rfl (fun h1 => ?_) (fun h1 => ?_)
  · refine R_iconst (v := 0) rfl rfl ?_
    exact T_zreturn rfl rfl rfl (am_oki (zP_f (fun z => i_lt_f h1 (of_decide_eq_true z).1)).symm rfl)
  · refine R_iload_n rfl rfl ?_
    refine R_bipush (v := 122) rfl (by decide) ?_
    refine R_icmp_gt rfl rfl (fun h2 => ?_) (fun h2 => ?_)
    · refine R_iconst (v := 0) rfl rfl ?_
      exact T_zreturn rfl rfl rfl (am_oki (zP_f (fun z => i_lt_f h2 (of_decide_eq_true z).2)).symm rfl)
    · refine R_iconst (v := 1) rfl rfl ?_
      refine R_goto rfl rfl ?_
      exact T_zreturn rfl rfl rfl (am_oki (zP_t (decide_eq_true ⟨i_nlt h1, i_nlt h2⟩)).symm rfl)
set_option maxRecDepth 100000 in
set_option maxHeartbeats 4000000 in
theorem sp_isDigit {σ : am_G} {x : Int32} : am_Call am_TX 0 0 c_Parser_isDigit [.int x] (mm σ) (am_Ok (some (.int (zP (isDb x = true)))) (fun σ1 => σ1 = σ)) := by
  refine ⟨mf_Parser_isDigit, Nat.le_of_ble_eq_true rfl, ?_⟩
  refine R_iload_n rfl rfl ?_
  refine R_bipush (v := 48) rfl (by decide) ?_
  refine R_icmp_lt rfl rfl (fun h1 => ?_) (fun h1 => ?_)
  · refine R_iconst (v := 0) rfl rfl ?_
    exact T_zreturn rfl rfl rfl (am_oki (zP_f (fun z => i_lt_f h1 (of_decide_eq_true z).1)).symm rfl)
  · refine R_iload_n rfl rfl ?_
    refine R_bipush (v := 57) rfl (by decide) ?_
    refine R_icmp_gt rfl rfl (fun h2 => ?_) (fun h2 => ?_)
    · refine R_iconst (v := 0) rfl rfl ?_
      exact T_zreturn rfl rfl rfl (am_oki (zP_f (fun z => i_lt_f h2 (of_decide_eq_true z).2)).symm rfl)
    · refine R_iconst (v := 1) rfl rfl ?_
      refine R_goto rfl rfl ?_
      exact T_zreturn rfl rfl rfl (am_oki (zP_t (decide_eq_true ⟨i_nlt h1, i_nlt h2⟩)).symm rfl)
set_option maxRecDepth 100000 in
set_option maxHeartbeats 4000000 in
theorem lp_blank {σ : am_G} {n : Nat} {B : List Int32} {S : Nat} {d k0 : Nat} {Q : am_Res → Prop} (hB : iC σ n B) (hx : ∀ τ, smP pP σ τ → τ.1 13 7 = nI S → am_R am_TX d k0 c_Parser_next 43 [some (.ref 13), none] [] (mm τ) Q) (hd : 1 ≤ d)  : ∀ (uu i : Nat) (he : skF isBb B uu i = S) (τ : am_G), i + uu = n → (smP pP σ τ ∧ τ.1 13 7 = nI i) → am_R am_TX d k0 c_Parser_next 5 [some (.ref 13), some (.int (nI i))] [] (mm τ) Q := by
  have h400 := hB.2.2.1
  intro uu
  induction uu with
  | zero =>
    intro i he τ hi hI
    obtain rfl : n = i := by omega
    refine R_iload_n rfl rfl ?_
    refine R_aload_n rfl rfl ?_
    refine R_gP (x := 1) rfl rfl fp_6_3 rfl ?_
    refine R_gIN (n := n) rfl rfl fd_3_0 ((hI.1.i (by unfold pP; omega)).trans hB.2.1) ?_
    refine R_nicmp_ge (x := n) (y := n) rfl rfl (by omega) (by omega) (fun h1 => ?_) (fun z => by omega)
    rw [show S = n from he.symm] at hx
    exact (hx τ hI.1 hI.2).weak ⟨rfl, trivial⟩
  | succ uu ih =>
    intro i he τ hi hI
    refine R_iload_n rfl rfl ?_
    refine R_aload_n rfl rfl ?_
    refine R_gP (x := 1) rfl rfl fp_6_3 rfl ?_
    refine R_gIN (n := n) rfl rfl fd_3_0 ((hI.1.i (by unfold pP; omega)).trans hB.2.1) ?_
    refine R_nicmp_ge (x := i) (y := n) rfl rfl (by omega) (by omega) (fun z => by omega) (fun h1 => ?_)
    refine R_aload_n rfl rfl ?_
    refine R_gP (x := 1) rfl rfl fp_6_3 rfl ?_
    refine R_iload_n rfl rfl ?_
    refine R_cV (as := [.int (nI i)]) rfl rfl iv_Input_byteAt (sp_Input_byteAt (k := i) (hB.fr hI.1 (fun b => by unfold pP; omega)) (by omega)) (by omega) rfl rfl rfl (by decide) rfl rfl (Nat.le_of_ble_eq_true rfl) (fun _ q => ?_)
    obtain rfl := q.symm
    refine R_cS (as := [.int (ibA B i)]) rfl rfl iv_Parser_isBlank (sp_isBlank (x := (ibA B i))) (by omega) rfl rfl rfl rfl (Nat.le_of_ble_eq_true rfl) (fun _ q => ?_)
    obtain rfl := q.symm
    refine R_zif_eq rfl rfl (fun h2 => ?_) (fun h2 => ?_)
    · rw [show S = i from by rw [← he]; simp only [skF]; exact if_neg h2] at hx
      exact (hx τ hI.1 hI.2).weak ⟨rfl, trivial⟩
    · refine R_aload_n rfl rfl ?_
      refine R_iload_n rfl rfl ?_
      refine R_iconst (v := 1) rfl rfl ?_
      refine R_iaddN (x := i) (y := 1) rfl ?_
      refine R_pI rfl rfl fw_6_7 rfl ?_
      refine R_iincN (x := i) (m := 1) rfl rfl rfl (by decide) ?_
      refine R_goto rfl rfl ?_
      exact (ih (i + 1) (by rw [← he]; simp only [skF]; exact (if_pos h2).symm) (sI τ 13 7 (nI (i + 1))) (by omega) ⟨hI.1.trans (smP_sI ⟨rfl, by decide⟩), sI_s⟩).weak ⟨rfl, rfl, trivial⟩
def pP1 (a b : Nat) : Prop := a = 13 ∧ (b = 7 ∨ b = 8)
set_option maxRecDepth 100000 in
set_option maxHeartbeats 4000000 in
theorem lp_word {σ : am_G} {n : Nat} {B : List Int32} {S : Nat} {d k0 : Nat} (hB : iC σ n B) (hd : 1 ≤ d)  : ∀ (uu i : Nat) (he : skF isLb B uu i = S) (τ : am_G), i + uu = n → (smP pP1 σ τ ∧ τ.1 13 7 = nI i) → am_R am_TX d k0 c_Parser_passWord 5 [some (.ref 13), some (.int (nI i))] [] (mm τ) (am_Ok none (fun σ1 => smP pP1 σ σ1 ∧ σ1.1 13 7 = nI S)) := by
  have h400 := hB.2.2.1
  intro uu
  induction uu with
  | zero =>
    intro i he τ hi hI
    obtain rfl : n = i := by omega
    refine R_iload_n rfl rfl ?_
    refine R_aload_n rfl rfl ?_
    refine R_gP (x := 1) rfl rfl fp_6_3 rfl ?_
    refine R_gIN (n := n) rfl rfl fd_3_0 ((hI.1.i (by unfold pP1; omega)).trans hB.2.1) ?_
    refine R_nicmp_ge (x := n) (y := n) rfl rfl (by omega) (by omega) (fun h1 => ?_) (fun z => by omega)
    exact T_return rfl rfl (am_okv0 ⟨hI.1, by rw [← he]; exact hI.2⟩)
  | succ uu ih =>
    intro i he τ hi hI
    refine R_iload_n rfl rfl ?_
    refine R_aload_n rfl rfl ?_
    refine R_gP (x := 1) rfl rfl fp_6_3 rfl ?_
    refine R_gIN (n := n) rfl rfl fd_3_0 ((hI.1.i (by unfold pP1; omega)).trans hB.2.1) ?_
    refine R_nicmp_ge (x := i) (y := n) rfl rfl (by omega) (by omega) (fun z => by omega) (fun h1 => ?_)
    refine R_aload_n rfl rfl ?_
    refine R_gP (x := 1) rfl rfl fp_6_3 rfl ?_
    refine R_iload_n rfl rfl ?_
    refine R_cV (as := [.int (nI i)]) rfl rfl iv_Input_byteAt (sp_Input_byteAt (k := i) (hB.fr hI.1 (fun b => by unfold pP1; omega)) (by omega)) (by omega) rfl rfl rfl (by decide) rfl rfl (Nat.le_of_ble_eq_true rfl) (fun _ q => ?_)
    obtain rfl := q.symm
    refine R_cS (as := [.int (ibA B i)]) rfl rfl iv_Parser_isLetter (sp_isLetter (x := (ibA B i))) (by omega) rfl rfl rfl rfl (Nat.le_of_ble_eq_true rfl) (fun _ q => ?_)
    obtain rfl := q.symm
    refine R_zif_eq rfl rfl (fun h2 => ?_) (fun h2 => ?_)
    · exact T_return rfl rfl (am_okv0 ⟨hI.1, by rw [← he, show skF isLb B (uu + 1) i = i from by simp only [skF]; exact if_neg h2]; exact hI.2⟩)
    · refine R_aload_n rfl rfl ?_
      refine R_iload_n rfl rfl ?_
      refine R_iconst (v := 1) rfl rfl ?_
      refine R_iaddN (x := i) (y := 1) rfl ?_
      refine R_pI rfl rfl fw_6_7 rfl ?_
      refine R_iincN (x := i) (m := 1) rfl rfl rfl (by decide) ?_
      refine R_goto rfl rfl ?_
      exact (ih (i + 1) (by rw [← he]; simp only [skF]; exact (if_pos h2).symm) (sI τ 13 7 (nI (i + 1))) (by omega) ⟨hI.1.trans (smP_sI ⟨rfl, by decide⟩), sI_s⟩).weak ⟨rfl, rfl, trivial⟩
set_option maxRecDepth 100000 in
set_option maxHeartbeats 4000000 in
theorem sp_passWord {σ : am_G} {n : Nat} {B : List Int32} {s : Nat} (hB : iC σ n B) (hs : s ≤ n) (h6 : σ.1 13 6 = nI s) (h7 : σ.1 13 7 = nI s) : am_Call am_TX 2 0 c_Parser_passWord [.ref 13] (mm σ) (am_Ok none (fun σ1 => smP pP1 σ σ1 ∧ σ1.1 13 7 = nI (skF isLb B (n - s) s))) := by
  have h400 := hB.2.2.1
  refine ⟨mf_Parser_passWord, Nat.le_of_ble_eq_true rfl, ?_⟩
  refine R_aload_n rfl rfl ?_
  refine R_gIN (n := s) rfl rfl fd_6_6 h6 ?_
  refine R_istore_n rfl (by decide) ?_
  exact (lp_word hB (by omega) (n - s) s rfl σ (by omega) ⟨smP.refl, h7⟩).weak ⟨rfl, rfl, trivial⟩

