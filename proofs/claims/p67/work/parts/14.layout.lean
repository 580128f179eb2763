/-! ===== the places of all objects ===== -/
def Sh : List (Nat × Nat) := [(0, 10), (0, 3), (1, 400), (0, 9), (0, 4), (2, 36), (0, 1), (0, 0), (0, 4), (2, 36), (0, 4), (2, 36), (1, 6), (0, 6), (0, 5), (1, 1000), (0, 7), (0, 4), (2, 36), (0, 4), (2, 36), (0, 4), (2, 36), (2, 64), (0, 8), (4, 64), (0, 9), (0, 4), (2, 36), (0, 1), (0, 0), (0, 4), (2, 36), (0, 4), (2, 36), (1, 6), (0, 1), (0, 2), (5, 6), (0, 9), (0, 4), (2, 36), (0, 1), (0, 0), (0, 4), (2, 36), (0, 4), (2, 36), (1, 6), (0, 9), (0, 4), (2, 36), (0, 1), (0, 0), (0, 4), (2, 36), (0, 4), (2, 36), (1, 6), (0, 9), (0, 4), (2, 36), (0, 1), (0, 0), (0, 4), (2, 36), (0, 4), (2, 36), (1, 6), (0, 9), (0, 4), (2, 36), (0, 1), (0, 0), (0, 4), (2, 36), (0, 4), (2, 36), (1, 6), (0, 9), (0, 4), (2, 36), (0, 1), (0, 0), (0, 4), (2, 36), (0, 4), (2, 36), (1, 6), (0, 9), (0, 4), (2, 36), (0, 1), (0, 0), (0, 4), (2, 36), (0, 4), (2, 36), (1, 6), (0, 9), (0, 4), (2, 36), (0, 1), (0, 0), (0, 4), (2, 36), (0, 4), (2, 36), (1, 6), (0, 9), (0, 4), (2, 36), (0, 1), (0, 0), (0, 4), (2, 36), (0, 4), (2, 36), (1, 6), (4, 2)]
/-- the references that never change: an object, a field (an array, an index), the place -/
def am_PT : List (List (Nat × Nat)) := [[(0, 1), (1, 3), (2, 13), (3, 14), (4, 16), (5, 24), (6, 26), (7, 36), (8, 37), (9, 99), (10, 109), (11, 119)], [(1, 2)], [], [(0, 4), (1, 6), (2, 7), (6, 12)], [(2, 5)], [], [], [(0, 8), (1, 10)], [(2, 9)], [], [(2, 11)], [], [], [(3, 1), (4, 3)], [(1, 15)], [], [(0, 17), (1, 19), (2, 21), (3, 23)], [(2, 18)], [], [(2, 20)], [], [(2, 22)], [], [], [(0, 16), (1, 25)], [], [(0, 27), (1, 29), (2, 30), (6, 35)], [(2, 28)], [], [], [(0, 31), (1, 33)], [(2, 32)], [], [(2, 34)], [], [], [], [(2, 38)], [(0, 39), (1, 49), (2, 59), (3, 69), (4, 79), (5, 89)], [(0, 40), (1, 42), (2, 43), (6, 48)], [(2, 41)], [], [], [(0, 44), (1, 46)], [(2, 45)], [], [(2, 47)], [], [], [(0, 50), (1, 52), (2, 53), (6, 58)], [(2, 51)], [], [], [(0, 54), (1, 56)], [(2, 55)], [], [(2, 57)], [], [], [(0, 60), (1, 62), (2, 63), (6, 68)], [(2, 61)], [], [], [(0, 64), (1, 66)], [(2, 65)], [], [(2, 67)], [], [], [(0, 70), (1, 72), (2, 73), (6, 78)], [(2, 71)], [], [], [(0, 74), (1, 76)], [(2, 75)], [], [(2, 77)], [], [], [(0, 80), (1, 82), (2, 83), (6, 88)], [(2, 81)], [], [], [(0, 84), (1, 86)], [(2, 85)], [], [(2, 87)], [], [], [(0, 90), (1, 92), (2, 93), (6, 98)], [(2, 91)], [], [], [(0, 94), (1, 96)], [(2, 95)], [], [(2, 97)], [], [], [(0, 100), (1, 102), (2, 103), (6, 108)], [(2, 101)], [], [], [(0, 104), (1, 106)], [(2, 105)], [], [(2, 107)], [], [], [(0, 110), (1, 112), (2, 113), (6, 118)], [(2, 111)], [], [], [(0, 114), (1, 116)], [(2, 115)], [], [(2, 117)], [], [], []]
def am_P0 (a b : Nat) : Option Nat := ((am_PT.getD a []).find? (fun q => Nat.beq q.1 b)).map (fun q => q.2)
/-- (of whole's text: there a field of the model alone changed) -/
def am_P (_ρ a b : Nat) : Option Nat := am_P0 a b
/-- the system's state: ints, longs, a number that means nothing here -/
abbrev am_G : Type := (Nat → Nat → Int32) × (Nat → Nat → Int64) × Nat
def mm (σ : am_G) : am_M := (Sh, σ.1, σ.2.1, am_P σ.2.2)
def sI (σ : am_G) (k j : Nat) (x : Int32) : am_G := (am_up σ.1 k j x, σ.2.1, σ.2.2)
def sL (σ : am_G) (k j : Nat) (x : Int64) : am_G := (σ.1, am_up σ.2.1 k j x, σ.2.2)
theorem am_P_3 {ρ a b : Nat} (_h : b ≠ 3) : am_P ρ a b = am_P0 a b := rfl
/-- it ends with v, in a state of which P holds -/
def am_Ok (v : Option Value) (P : am_G → Prop) : am_Res → Prop := fun r => ∃ σ' : am_G, r = (.inl v, mm σ') ∧ P σ'
/-- it throws, and nothing has changed -/
def am_Thr (E : String) (σ : am_G) : am_Res → Prop := fun r => r = (.inr E, mm σ)
theorem am_Ok_n {σ : am_G} {v : Option Value} {P : am_G → Prop} : ∀ r, am_Ok v P r → r.2.1.length = (mm σ).1.length := by
  rintro r ⟨σ', rfl, -⟩
  rfl
theorem am_Thr_n {σ σ' : am_G} {E : String} : ∀ r, am_Thr E σ' r → r.2.1.length = (mm σ).1.length := by
  rintro r rfl
  rfl
section AMK
variable {Tx : am_Tx} {d d' k : Nat} {c c' : am_C} {pc mid n idx : Nat} {ls : List (Option Value)} {st stk as : List Value} {σ : am_G} {Q : am_Res → Prop} {v : Option Value} {P : am_G → Prop} {E : String}
theorem R_cV {b ci : Nat} (hc : c.2 pc = some (.invokevirtual idx, 3, mid, n)) (hs : c'.1 = am_sig mid) (hiv : am_iv c'.1 n) (hcall : am_Call Tx d' 0 c' (.ref b :: as) (mm σ) (am_Ok v P)) (hd : d' + 1 ≤ d) (hlen : as.length = n) (hst : stk = as.reverse ++ .ref b :: st) (hS : Sh[b]? = some (0, ci)) (hci : ci < 13) (hcn : (am_q ci).1 = c'.1.1.cls) (hnone : c'.1.2.2.2.2 = none) (hw : (st.map fun v => v.category).sum ≤ 8)
    (h : ∀ σ', P σ' → am_R Tx d k c (pc + 3) ls (v.toList ++ st) (mm σ') Q) : am_R Tx d k c pc ls stk (mm σ) Q := by
  rw [← Nat.zero_add k]
  refine R_invV hc hs hiv hcall hd hlen hst hS hci hcn hnone hw am_Ok_n (fun v1 μ1 hq => ?_) (fun E μ1 hq => ?_)
  · obtain ⟨σ', h1, h2⟩ := hq
    cases h1
    exact h σ' h2
  · obtain ⟨σ', h1, h2⟩ := hq
    cases h1
theorem R_cVx {b ci : Nat} (hc : c.2 pc = some (.invokevirtual idx, 3, mid, n)) (hs : c'.1 = am_sig mid) (hiv : am_iv c'.1 n) (hcall : am_Call Tx d' 1 c' (.ref b :: as) (mm σ) (am_Thr E σ)) (hd : d' + 1 ≤ d) (hlen : as.length = n) (hst : stk = as.reverse ++ .ref b :: st) (hS : Sh[b]? = some (0, ci)) (hci : ci < 13) (hcn : (am_q ci).1 = c'.1.1.cls) (hnone : c'.1.2.2.2.2 = none) (hw : (st.map fun v => v.category).sum ≤ 8)
    (h : am_Rx Tx d k c pc ls E (mm σ) Q) : am_R Tx d (1 + k) c pc ls stk (mm σ) Q := by
  refine R_invV hc hs hiv hcall hd hlen hst hS hci hcn hnone hw am_Thr_n (fun v1 μ1 hq => ?_) (fun E μ1 hq => ?_)
  · cases hq
  · cases hq
    exact h
theorem R_cS (hc : c.2 pc = some (.invokestatic idx, 3, mid, n)) (hs : c'.1 = am_sig mid) (hiv : am_iv c'.1 n) (hcall : am_Call Tx d' 0 c' (as) (mm σ) (am_Ok v P)) (hd : d' + 1 ≤ d) (hlen : as.length = n) (hst : stk = as.reverse ++ st) (hnn : Nat.ble 64 n = false) (hnone : c'.1.2.2.2.2 = none) (hw : (st.map fun v => v.category).sum ≤ 8)
    (h : ∀ σ', P σ' → am_R Tx d k c (pc + 3) ls (v.toList ++ st) (mm σ') Q) : am_R Tx d k c pc ls stk (mm σ) Q := by
  rw [← Nat.zero_add k]
  refine R_invS hc hs hiv hcall hd hlen hst hnn hnone hw am_Ok_n (fun v1 μ1 hq => ?_) (fun E μ1 hq => ?_)
  · obtain ⟨σ', h1, h2⟩ := hq
    cases h1
    exact h σ' h2
  · obtain ⟨σ', h1, h2⟩ := hq
    cases h1
theorem R_cSx (hc : c.2 pc = some (.invokestatic idx, 3, mid, n)) (hs : c'.1 = am_sig mid) (hiv : am_iv c'.1 n) (hcall : am_Call Tx d' 1 c' (as) (mm σ) (am_Thr E σ)) (hd : d' + 1 ≤ d) (hlen : as.length = n) (hst : stk = as.reverse ++ st) (hnn : Nat.ble 64 n = false) (hnone : c'.1.2.2.2.2 = none) (hw : (st.map fun v => v.category).sum ≤ 8)
    (h : am_Rx Tx d k c pc ls E (mm σ) Q) : am_R Tx d (1 + k) c pc ls stk (mm σ) Q := by
  refine R_invS hc hs hiv hcall hd hlen hst hnn hnone hw am_Thr_n (fun v1 μ1 hq => ?_) (fun E μ1 hq => ?_)
  · cases hq
  · cases hq
    exact h
theorem R_cN {nb : Nat} (hc : c.2 pc = some (.invokestatic idx, 3, mid, nb)) (hs : c'.1 = am_sig mid) (hiv : am_iv c'.1 n) (hcall : am_Call Tx d' 0 c' (as) (mm σ) (am_Ok v P)) (hd : d' + 1 ≤ d) (hlen : as.length = n) (hst : stk = as.reverse ++ st) (hnn : Nat.ble 64 nb = true) (hnone : c'.1.2.2.2.2 = none) (hw : (st.map fun v => v.category).sum ≤ 8)
    (h : ∀ σ', P σ' → am_R Tx d k c (pc + 3) ls (v.toList ++ st) (mm σ') Q) : am_R Tx d k c pc ls stk (mm σ) Q := by
  rw [← Nat.zero_add k]
  refine R_invN hc hs hiv hcall hd hlen hst hnn hnone hw am_Ok_n (fun v1 μ1 hq => ?_) (fun E μ1 hq => ?_)
  · obtain ⟨σ', h1, h2⟩ := hq
    cases h1
    exact h σ' h2
  · obtain ⟨σ', h1, h2⟩ := hq
    cases h1
theorem R_cNx {nb : Nat} (hc : c.2 pc = some (.invokestatic idx, 3, mid, nb)) (hs : c'.1 = am_sig mid) (hiv : am_iv c'.1 n) (hcall : am_Call Tx d' 1 c' (as) (mm σ) (am_Thr E σ)) (hd : d' + 1 ≤ d) (hlen : as.length = n) (hst : stk = as.reverse ++ st) (hnn : Nat.ble 64 nb = true) (hnone : c'.1.2.2.2.2 = none) (hw : (st.map fun v => v.category).sum ≤ 8)
    (h : am_Rx Tx d k c pc ls E (mm σ) Q) : am_R Tx d (1 + k) c pc ls stk (mm σ) Q := by
  refine R_invN hc hs hiv hcall hd hlen hst hnn hnone hw am_Thr_n (fun v1 μ1 hq => ?_) (fun E μ1 hq => ?_)
  · cases hq
  · cases hq
    exact h
theorem R_cH {hh : List (Nat × Nat × Nat × Nat)} {kc : Nat} (hc : c.2 pc = some (.invokestatic idx, 3, mid, n)) (hs : c'.1 = am_sig mid) (hiv : am_iv c'.1 n) (hcall : am_Call Tx d' kc c' as (mm σ) (am_Ok v P)) (hd : d' + 1 ≤ d) (hlen : as.length = n) (hst : stk = as.reverse ++ st) (hnn : Nat.ble 64 n = false) (hsome : c'.1.2.2.2.2 = some hh) (hw : (st.map fun v => v.category).sum ≤ 8)
    (h : ∀ σ', P σ' → am_R Tx d k c (pc + 3) ls (v.toList ++ st) (mm σ') Q) : am_R Tx d (kc + k) c pc ls stk (mm σ) Q := by
  refine R_invH hc hs hiv hcall hd hlen hst hnn hsome hw am_Ok_n (fun v1 μ1 hq => ?_) (fun E μ1 hq => ?_)
  · obtain ⟨σ', h1, h2⟩ := hq
    cases h1
    exact h σ' h2
  · obtain ⟨σ', h1, h2⟩ := hq
    cases h1
end AMK
theorem am_Call.room {Tx : am_Tx} {d d2 k k2 : Nat} {c : am_C} {as : List Value} {μ : am_M} {Q : am_Res → Prop} (h : am_Call Tx d k c as μ Q) (hd : d ≤ d2) (hk : k ≤ k2) : am_Call Tx d2 k2 c as μ Q := ⟨h.1, h.2.1, h.2.2.room hd hk⟩
theorem am_Call.mono {Tx : am_Tx} {d k : Nat} {c : am_C} {as : List Value} {μ : am_M} {Q Q2 : am_Res → Prop} (h : am_Call Tx d k c as μ Q) (hQ : ∀ r, Q r → Q2 r) : am_Call Tx d k c as μ Q2 := ⟨h.1, h.2.1, h.2.2.mono hQ⟩
theorem am_Ok.mono {v : Option Value} {P P2 : am_G → Prop} (h : ∀ σ, P σ → P2 σ) : ∀ r, am_Ok v P r → am_Ok v P2 r := fun _ ⟨σ, h1, h2⟩ => ⟨σ, h1, h σ h2⟩
/-- a matrix object and its cells behind it -/
def isMat (k : Nat) : Prop := Sh[k]? = some (0, 4) ∧ Sh[k + 1]? = some (2, 36) ∧ am_P0 k 2 = some (k + 1)
/-- a state and all that hangs on it -/
def isState (s : Nat) : Prop := Sh[s]? = some (0, 9) ∧ isMat (s + 1) ∧ Sh[s + 3]? = some (0, 1) ∧ Sh[s + 4]? = some (0, 0) ∧ isMat (s + 5) ∧ isMat (s + 7) ∧ Sh[s + 9]? = some (1, 6) ∧
  am_P0 s 0 = some (s + 1) ∧ am_P0 s 1 = some (s + 3) ∧ am_P0 s 2 = some (s + 4) ∧ am_P0 s 6 = some (s + 9) ∧ am_P0 (s + 4) 0 = some (s + 5) ∧ am_P0 (s + 4) 1 = some (s + 7)
theorem isState_26 : isState 26 := ⟨rfl, ⟨rfl, rfl, rfl⟩, rfl, rfl, ⟨rfl, rfl, rfl⟩, ⟨rfl, rfl, rfl⟩, rfl, rfl, rfl, rfl, rfl, rfl, rfl⟩
theorem isState_3 : isState 3 := ⟨rfl, ⟨rfl, rfl, rfl⟩, rfl, rfl, ⟨rfl, rfl, rfl⟩, ⟨rfl, rfl, rfl⟩, rfl, rfl, rfl, rfl, rfl, rfl, rfl⟩
