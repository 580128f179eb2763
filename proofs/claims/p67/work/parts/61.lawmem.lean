/-! ===== the law's memory: the class's 120 places, behind them what the law makes itself ===== -/
abbrev am_Y : Type := List (Nat × Nat) × (Nat → Nat → Option Nat)
def am_Pl (ρ : am_Y) (a b : Nat) : Option Nat := if a < 120 then am_P0 a b else ρ.2 a b
def ml (σ : am_G) (ρ : am_Y) : am_M := (Sh ++ ρ.1, σ.1, σ.2.1, am_Pl ρ)
def yl (ρ : am_Y) : Nat := 120 + ρ.1.length
theorem ml_len {σ : am_G} {ρ : am_Y} : (ml σ ρ).1.length = yl ρ := by
  show (Sh ++ ρ.1).length = _
  rw [List.length_append, Sh_len]
  rfl
theorem ml_lo {σ : am_G} {ρ : am_Y} {j : Nat} {sh : Nat × Nat} (h : Sh[j]? = some sh) : (ml σ ρ).1[j]? = some sh := by
  show (Sh ++ ρ.1)[j]? = _
  rw [List.getElem?_append_left (List.getElem?_eq_some_iff.mp h).1]
  exact h
theorem ml_hi {σ : am_G} {ρ : am_Y} {j : Nat} {sh : Nat × Nat} (h1 : 120 ≤ j) (h : ρ.1[j - 120]? = some sh) : (ml σ ρ).1[j]? = some sh := by
  show (Sh ++ ρ.1)[j]? = _
  rw [List.getElem?_append_right (by rw [Sh_len]; exact h1), Sh_len]
  exact h
theorem ml_P {σ : am_G} {ρ : am_Y} {j b : Nat} (h1 : 120 ≤ j) : (ml σ ρ).2.2.2 j b = ρ.2 j b := if_neg (by omega)
theorem mm_len {σ : am_G} : (mm σ).1.length = 120 := Sh_len
theorem ml_mm {σ : am_G} {ρ : am_Y} : am_eqC (mm σ) (ml σ ρ) 0 (mm σ).1.length := by
  intro en j kd n _ hj
  rw [mm_len] at hj
  have e : (ml σ ρ).2.2.2 j = (mm σ).2.2.2 j := by
    funext b
    exact if_pos hj
  have e1 : (ml σ ρ).2.1 j = (mm σ).2.1 j := rfl
  have e2 : (ml σ ρ).2.2.1 j = (mm σ).2.2.1 j := rfl
  unfold am_cell
  rw [e, e1, e2]
/-- the places of the class -/
def pLo (a _b : Nat) : Prop := a < 120
theorem ml_up {σ σ1 : am_G} {ρ : am_Y} (q : smP pLo σ σ1) : am_eqC (ml σ ρ) (ml σ1 ρ) 120 (ml σ ρ).1.length := by
  intro en j kd n h1 h2
  have e1 : (ml σ1 ρ).2.1 j = (ml σ ρ).2.1 j := funext fun b => (q.1 j b (by unfold pLo; omega)).1
  have e2 : (ml σ1 ρ).2.2.1 j = (ml σ ρ).2.2.1 j := funext fun b => (q.1 j b (by unfold pLo; omega)).2
  have e : (ml σ1 ρ).2.2.2 j = (ml σ ρ).2.2.2 j := rfl
  unfold am_cell
  rw [e, e1, e2]
/-- a contract of the class, in the law's memory -/
theorem cl_ct {d k : Nat} {c : am_C} {as : List Value} {σ : am_G} {ρ : am_Y} {v : Option Value} {P : am_G → Prop} (h : am_Call am_TX d k c as (mm σ) (am_Ok v P)) (hP : ∀ σ1, P σ1 → smP pLo σ σ1) : am_Ct am_TX d k c as (ml σ ρ) (fun r => ∃ σ1, r = (.inl v, ml σ1 ρ) ∧ P σ1) := by
  refine h.ct.frame (X := ρ.1) rfl ml_mm rfl rfl ?_
  rintro r ⟨σ1, rfl, h1⟩
  exact ⟨v, mm σ1, ml σ1 ρ, rfl, rfl, ⟨σ1, rfl, h1⟩, rfl, ml_mm, by rw [mm_len]; exact ml_up (hP σ1 h1), rfl, rfl⟩
/-- references of old places are old -/
def yOk (ρ : am_Y) : Prop := ∀ a b x, ρ.2 a b = some x → x < yl ρ
theorem P0_lt : ∀ a, a < 120 → ∀ q ∈ am_PT.getD a [], q.2 < 120 := by decide +kernel
theorem ml_okP {σ : am_G} {ρ : am_Y} (h : yOk ρ) : am_okP (ml σ ρ) := by
  intro k hk j x hx
  rw [ml_len]
  by_cases h1 : k < 120
  · have hx2 : am_P0 k j = some x := by
      have h2 : (if k < 120 then am_P0 k j else ρ.2 k j) = some x := hx
      rwa [if_pos h1] at h2
    unfold am_P0 at hx2
    obtain ⟨q, hq, rfl⟩ := Option.map_eq_some_iff.mp hx2
    have := P0_lt k h1 q (List.mem_of_find?_eq_some hq)
    unfold yl
    omega
  · rw [ml_P (by omega)] at hx
    exact h k j x hx
/-- a new place -/
def nN (σ : am_G) (n : Nat) : am_G := (fun a b => if a = n then 0 else σ.1 a b, fun a b => if a = n then 0 else σ.2.1 a b, σ.2.2)
def nY (ρ : am_Y) (sh : Nat × Nat) : am_Y := (ρ.1 ++ [sh], fun a b => if a = yl ρ then none else ρ.2 a b)
theorem nY_l {ρ : am_Y} {sh : Nat × Nat} : yl (nY ρ sh) = yl ρ + 1 := by
  show 120 + (ρ.1 ++ [sh]).length = 120 + ρ.1.length + 1
  simp
  omega
theorem nY_ok {ρ : am_Y} {sh : Nat × Nat} (h : yOk ρ) : yOk (nY ρ sh) := by
  intro a b x hx
  rw [nY_l]
  have h2 : (if a = yl ρ then none else ρ.2 a b) = some x := hx
  split at h2
  · cases h2
  · exact Nat.lt_succ_of_lt (h a b x h2)
theorem ml_new {σ : am_G} {ρ : am_Y} {sh : Nat × Nat} : am_new (ml σ ρ) sh = ml (nN σ (yl ρ)) (nY ρ sh) := by
  unfold am_new
  rw [ml_len]
  refine Prod.ext ?_ (Prod.ext rfl (Prod.ext rfl ?_))
  · show (Sh ++ ρ.1) ++ [sh] = Sh ++ (ρ.1 ++ [sh])
    rw [List.append_assoc]
  · funext a b
    show (if a = yl ρ then none else am_Pl ρ a b) = am_Pl (nY ρ sh) a b
    unfold am_Pl
    by_cases h : a < 120
    · rw [if_neg (by unfold yl; omega), if_pos h, if_pos h]
    · rw [if_neg h, if_neg h]
      rfl
/-- a reference put into a field of an own object -/
def pY (ρ : am_Y) (k j x : Nat) : am_Y := (ρ.1, am_up ρ.2 k j (some x))
theorem pY_l {ρ : am_Y} {k j x : Nat} : yl (pY ρ k j x) = yl ρ := rfl
theorem pY_ok {ρ : am_Y} {k j x : Nat} (h : yOk ρ) (hx : x < yl ρ) : yOk (pY ρ k j x) := by
  intro a b y hy
  have h2 : (if a = k then (if b = j then some x else ρ.2 a b) else ρ.2 a b) = some y := hy
  rw [pY_l]
  split at h2
  · split at h2
    · cases h2; exact hx
    · exact h a b y h2
  · exact h a b y h2
theorem ml_uP {σ : am_G} {ρ : am_Y} {k j x : Nat} (hk : 120 ≤ k) : am_uP (ml σ ρ) k j (some x) = ml σ (pY ρ k j x) := by
  refine Prod.ext rfl (Prod.ext rfl (Prod.ext rfl ?_))
  funext a b
  show (if a = k then (if b = j then some x else am_Pl ρ a b) else am_Pl ρ a b) = am_Pl (pY ρ k j x) a b
  unfold am_Pl
  by_cases h : a < 120
  · rw [if_neg (by omega), if_pos h, if_pos h]
  · rw [if_neg h, if_neg h]
    rfl
/-- it ends with v, in a memory of which P holds -/
def am_Oy (v : Option Value) (P : am_G → am_Y → Prop) : am_Res → Prop := fun r => ∃ σ ρ, r = (.inl v, ml σ ρ) ∧ P σ ρ
theorem am_Oy_n {v : Option Value} {P : am_G → am_Y → Prop} : ∀ r, am_Oy v P r → ∃ v2 μ1, r = (.inl v2, μ1) := fun _ ⟨_, _, h, _⟩ => ⟨_, _, h⟩
theorem am_Oy.mono {v : Option Value} {P P2 : am_G → am_Y → Prop} (h : ∀ σ ρ, P σ ρ → P2 σ ρ) : ∀ r, am_Oy v P r → am_Oy v P2 r := fun _ ⟨σ, ρ, h1, h2⟩ => ⟨σ, ρ, h1, h σ ρ h2⟩
/-- it ends with v, and nothing has changed -/
def am_Pu (v : Option Value) (μ : am_M) : am_Res → Prop := fun r => r = (.inl v, μ)
theorem am_Pu_len {v : Option Value} {μ : am_M} : ∀ r, am_Pu v μ r → r.2.1.length = μ.1.length := by
  rintro r rfl
  rfl
section AMQ
variable {Tx : am_Tx} {d d' kc k : Nat} {c c' : am_C} {pc mid n idx a b : Nat} {ls : List (Option Value)} {st stk as : List Value} {μ : am_M} {Q Qc : am_Res → Prop} {v : Option Value}
/-- a static method that changes nothing -/
theorem R_pS (hc : c.2 pc = some (.invokestatic idx, 3, mid, n)) (hs : c'.1 = am_sig mid) (hiv : am_iv c'.1 n) (hcall : am_Call Tx d' 0 c' as μ (am_Pu v μ)) (hd : d' + 1 ≤ d) (hlen : as.length = n) (hst : stk = as.reverse ++ st)
    (hnn : Nat.ble 64 n = false) (hnone : c'.1.2.2.2.2 = none) (hw : (st.map fun v => v.category).sum ≤ 8) (h : am_R Tx d k c (pc + 3) ls (v.toList ++ st) μ Q) : am_R Tx d k c pc ls stk μ Q := by
  rw [← Nat.zero_add k]
  refine R_invS hc hs hiv hcall hd hlen hst hnn hnone hw am_Pu_len (fun v1 μ1 hq => ?_) (fun E μ1 hq => ?_)
  · cases hq
    exact h
  · cases hq
/-- behind a call of a contract: the memory has not grown; no throw -/
theorem am_afterC {pc : Nat} {D : va_G} {b0 : Nat → Prop} {en : am_E} {p : Program} {l : Launch} {e : Env} {Rm : Room} {s : State} {m : MethodId} {args a : Array Value} {below : List Frame} {meth : Method} {cc : Code} {H : Heap} {locs : List Loc} {cells slots mc ms : Nat} {la : Array Slot} {st0 rest : List Value}
    (C : am_Ctx d c p Rm s m args meth cc) (B : am_Base Tx b0 en.1 l s s.heap) (S : va_S (am_F b0) s.heap H locs) (L : lv_has la c.1.2.2.1 (am_prs en.1 0 ls)) (hk : cells + (kc + k) ≤ mc ∧ slots + 1000 * (kc + k) ≤ ms ∧ mc ≤ Rm.cells ∧ ms ≤ Rm.slots)
    (hn : ∀ r, Qc r → ∃ v μ1, r = (.inl v, μ1) ∧ μ1.1.length = μ.1.length) (hrest : rest = st.map (am_v en.1))
    (hr : vx_Run p l e Rm s m args below meth cc H locs cells slots kc (1000 * kc) (F0 m pc la st0) rest (am_Qc D b0 en μ.1.length Qc a) (am_XC D b0 en μ.1.length Qc) (am_F b0))
    (k1 : ∀ v μ1, Qc (.inl v, μ1) → am_R Tx d k c (pc + 3) ls (v.toList ++ st) μ1 Q) :
    W p l e Rm s m args below meth cc H locs cells slots (vx_MQ below (am_Qc D b0 en μ.1.length Q) (am_XC D b0 en μ.1.length Q) args s mc ms (am_F b0)) (F0 m pc la st0) :=
  am_after C B S L hk (fun r hr => by obtain ⟨v, μ1, rfl, h2⟩ := hn r hr; exact h2) hrest hr k1 (fun E μ1 hq => by obtain ⟨v, μ2, h1, -⟩ := hn _ hq; cases h1)
/-- a call of the class's own method out of the law: the receiver is the place 0 -/
theorem R_qV {σ : am_G} {ρ : am_Y} {P : am_G → Prop} (hc : c.2 pc = some (.invokevirtual idx, 3, mid, n)) (hs : c'.1 = am_sig mid) (hiv : am_iv c'.1 n) (hcall : am_Call am_TX d' 0 c' (.ref 0 :: as) (mm σ) (am_Ok v P)) (hP : ∀ σ1, P σ1 → smP pLo σ σ1) (hd : d' + 1 ≤ d) (hlen : as.length = n) (hst : stk = as.reverse ++ .ref 0 :: st)
    (hcn : c'.1.1.cls = "RankDesk") (hnone : c'.1.2.2.2.2 = none) (hw : (st.map fun v => v.category).sum ≤ 8)
    (h : ∀ σ1, P σ1 → am_R am_TX d k c (pc + 3) ls (v.toList ++ st) (ml σ1 ρ) Q) : am_R am_TX d k c pc ls stk (ml σ ρ) Q := by
  intro D b0 en p l e Rm s m args below meth cc H locs cells slots mc ms la C B Wd S L hk
  obtain ⟨⟨hx, hb, hml, hr⟩, ⟨ho, hts, hlk, hnm⟩, htab, ⟨hf, hlo⟩, hMF⟩ := id C
  obtain ⟨⟨i1, i2, i3⟩, i4⟩ := hiv
  obtain ⟨j1, j2, j3, j4⟩ := am_jw.of hMF hc hs
  have hct := cl_ct (ρ := ρ) hcall hP
  have hcwW : am_cw c'.1 ∈ am_W := hct.1.2.1
  have ecw : am_cw c'.1 = .code c'.1.1 c'.1.2.1 c'.1.2.2.1 c'.1.2.2.2.1 := by unfold am_cw; rw [hnone]
  have CB : CallB Rm s args c.1.1.cls idx c'.1.1 c'.1.2.1 c'.1.2.2.1 c'.1.2.2.2.1 (am_cw c'.1 :: am_W) (am_rm d' 0) 0 (1000 * 0) n :=
    ⟨rfl, rfl, by show 8 + d' + 1 ≤ _; omega, by show 8 + (c'.1.2.2.1 + 11) + (200 + 64 * d') ≤ _; omega, am_payW hts hcwW, by rw [ecw]; exact List.mem_cons_self, by rw [← ecw]; exact hts _ hcwW, hts _ j4, ⟨i1, i2⟩, am_len i3, hts _ j1⟩
  have hstk : stk.map (am_v en.1) = (as.map (am_v en.1)).reverse ++ .ref (en.1 0) :: st.map (am_v en.1) := by
    rw [hst]; simp [am_v]
  refine am_afterC (kc := 0) (k := k) C B S L (by omega) (fun r hr => ?_) rfl (vx_runV (As := as.map (am_v en.1)) (b := en.1 0) (C := c'.1.1.cls) (n := n) ⟨hx, hb, hml, ho, hts⟩ (hct.2 D b0 en l) ⟨CB, hts _ j2, hts _ j3⟩
    ⟨am_blind, by rw [hcn]; exact va_recv Wd.2.1 Wd.1 (am_clq (ci := 10) (by decide)) (am_ws_get (ml_lo (ρ := ρ) (σ := σ) (j := 0) rfl)), fun U hU hW => ⟨rfl, am_start B Wd S hU hW⟩⟩ rfl (by simpa using hlen) L.1 hstk (lv_room (am_stw hw)) (hMF.1 _ _ hc) ⟨by omega, by omega⟩) (fun v1 μ1 hq => ?_)
  · obtain ⟨σ1, rfl, -⟩ := hr
    exact ⟨v, ml σ1 ρ, rfl, by rw [ml_len, ml_len]⟩
  · obtain ⟨σ1, e1, h1⟩ := hq
    cases e1
    exact h σ1 h1
/-- a static method whose end is told of the class's state alone -/
theorem R_qS {σ : am_G} {ρ : am_Y} {P : am_G → Prop} (hc : c.2 pc = some (.invokestatic idx, 3, mid, n)) (hs : c'.1 = am_sig mid) (hiv : am_iv c'.1 n) (hcall : am_Call Tx d' kc c' as (ml σ ρ) (am_Oy v (fun σ1 ρ1 => ρ1 = ρ ∧ P σ1))) (hd : d' + 1 ≤ d) (hlen : as.length = n) (hst : stk = as.reverse ++ st)
    (hnn : Nat.ble 64 n = false) (hnone : c'.1.2.2.2.2 = none) (hw : (st.map fun v => v.category).sum ≤ 8) (h : ∀ σ1, P σ1 → am_R Tx d k c (pc + 3) ls (v.toList ++ st) (ml σ1 ρ) Q) : am_R Tx d (kc + k) c pc ls stk (ml σ ρ) Q := by
  refine R_invS hc hs hiv hcall hd hlen hst hnn hnone hw ?_ (fun v1 μ1 hq => ?_) (fun E μ1 hq => ?_)
  · rintro r ⟨σ1, ρ1, rfl, rfl, -⟩
    show (ml σ1 ρ1).1.length = _
    rw [ml_len, ml_len]
  · obtain ⟨σ1, ρ1, e1, rfl, h1⟩ := hq
    cases e1
    exact h σ1 h1
  · obtain ⟨σ1, ρ1, e1, -⟩ := hq
    cases e1
end AMQ
theorem okO_h {n k : Nat} {l : List (Option Value)} (h : 1000 ≤ k) (t : okO n l) : okO n (some (.ref k) :: l) := ⟨Or.inr h, t⟩
theorem okL_h {n k : Nat} {l : List Value} (h : 1000 ≤ k) (t : okL n l) : okL n (.ref k :: l) := ⟨Or.inr h, t⟩
