/-! ===== the law builds its text ===== -/
/-- the law's own places -/
def pOw (a _b : Nat) : Prop := 120 ≤ a ∧ a < 1000
/-- a builder at p with the text T; no more than N places; the class's and the fixed ones as in σ -/
def LB (p : Nat) (T : List Int32) (N : Nat) (σ τ : am_G) (ρ : am_Y) : Prop := (∃ v cap, sB τ ρ p v cap T) ∧ yl ρ ≤ N ∧ smP pOw σ τ
/-- the array of the primes had, at q -/
def HD (q : Nat) (l : List Nat) (τ : am_G) (ρ : am_Y) : Prop := (120 ≤ q ∧ ρ.1[q - 120]? = some (4, 98)) ∧ ∀ j, j < 98 → τ.1 q j = zP (j ∈ l)
theorem gx_ow {p v n : Nat} {σ σ1 : am_G} {ρ ρ1 : am_Y} (h : gx p v n σ ρ σ1 ρ1) (hp : 120 ≤ p ∧ p < 1000) (hv : 120 ≤ v ∧ v < 1000) : smP pOw σ σ1 := by
  obtain ⟨-, -, -, h4, h5, h6⟩ := h
  have h0 := @y_0 ρ
  refine ⟨fun a b hn => ⟨h4 a b ?_ ?_ ?_, h5 a b ?_⟩, h6⟩ <;> (unfold pOw at hn; omega)
theorem HD.gx {q p v n cap : Nat} {l : List Nat} {T : List Int32} {τ τ1 : am_G} {ρ ρ1 : am_Y} (h : HD q l τ ρ) (hs : sB τ ρ p v cap T) (g : gx p v n τ ρ τ1 ρ1) : HD q l τ1 ρ1 := by
  obtain ⟨⟨h1, h2⟩, h3⟩ := h
  obtain ⟨-, g2, -, g4, -, -⟩ := g
  have hlt : q < yl ρ := by
    have := (List.getElem?_eq_some_iff.mp h2).1
    unfold yl
    omega
  have np : q ≠ p := by
    rintro rfl
    have h5 := h2.symm.trans hs.1.1.2
    cases h5
  have nv : q ≠ v := by
    rintro rfl
    have h5 := h2.symm.trans hs.2.1.1.2
    cases h5
  refine ⟨⟨h1, g2 _ _ h2⟩, fun j hj => ?_⟩
  rw [g4 q j (Or.inl hlt) np nv]
  exact h3 j hj
theorem oA_lo {ρ : am_Y} {p ci : Nat} (h : oA ρ p ci) : 120 ≤ p := h.1
theorem am_okv_up {n m : Nat} {v : Value} (h : am_okv n v) (e : n ≤ m) : am_okv m v := by
  cases v with
  | ref k =>
    exact h.elim (fun z => Or.inl (Nat.lt_of_lt_of_le z e)) Or.inr
  | _ => exact h
theorem okO_up {n m : Nat} (e : n ≤ m) : ∀ {l : List (Option Value)}, okO n l → okO m l
  | [], _ => trivial
  | none :: l, h => okO_up (l := l) e h
  | some v :: l, h => ⟨am_okv_up h.1 e, okO_up (l := l) e h.2⟩
section BLD
variable {p N D K pc : Nat} {T : List Int32} {σ τ : am_G} {ρ : am_Y} {ls : List (Option Value)} {Q : am_Res → Prop}
theorem ld_s {i : Nat} {bs : List Int32} (hdg : decode c_L_load.1.2.1 pc = .ok (.invokevirtual 70, 3)) (hb : LB p T N σ τ ρ) (hi : (i, bs) ∈ am_SL) (hT : T.length + bs.length ≤ 400) (hN : N < 990) (hD : 6 ≤ D) (hls : okO (yl ρ) ls)
    (h : ∀ τ1 ρ1, LB p (T ++ bs) (N + 1) σ τ1 ρ1 → (∀ q l, HD q l τ ρ → HD q l τ1 ρ1) → (∀ m, okO (yl ρ) m → okO (yl ρ1) m) → am_R am_TX D K c_L_load (pc + 3) ls [.ref p] (ml τ1 ρ1) Q) : am_R am_TX D (1 + K) c_L_load pc ls [.ref (1000 + i), .ref p] (ml τ ρ) Q := by
  obtain ⟨⟨v, cap, hs⟩, hl, hq⟩ := hb
  have hpl := hs.1.1.lt
  have hp0 := hs.1.1.1
  have hv0 := hs.2.1.1.1
  have hvl := hs.2.1.1.lt
  refine Y_cV (k := K) (as := [.ref (1000 + i)]) hdg jw_l_s iv_JSB_append_s (sb_apps hs hi hT (by omega)) (by omega) rfl rfl hs.1.1.S (by decide) rfl (Nat.le_of_ble_eq_true rfl) okL_n hls (fun τ1 ρ1 hq1 => ?_)
  obtain ⟨v1, cap1, s1, -, g1⟩ := hq1
  refine h τ1 ρ1 ⟨⟨v1, cap1, s1⟩, by have := g1.1.2; omega, hq.trans (gx_ow g1 ⟨hp0, by omega⟩ ⟨hv0, by omega⟩)⟩ (fun q l z => z.gx hs g1) (fun m z => okO_up g1.1.1 z)
theorem ld_i {neg : Bool} {u : Nat} (hdg : decode c_L_load.1.2.1 pc = .ok (.invokevirtual 65, 3)) (hb : LB p T N σ τ ρ) (hu : u < 100) (hn : neg = true → u ≠ 0) (hT : T.length + 3 ≤ 400) (hN : N < 990) (hD : 6 ≤ D) (hls : okO (yl ρ) ls)
    (h : ∀ τ1 ρ1, LB p (T ++ dgZ neg u) (N + 1) σ τ1 ρ1 → (∀ q l, HD q l τ ρ → HD q l τ1 ρ1) → (∀ m, okO (yl ρ) m → okO (yl ρ1) m) → am_R am_TX D K c_L_load (pc + 3) ls [.ref p] (ml τ1 ρ1) Q) : am_R am_TX D (1 + K) c_L_load pc ls [.int (nZ neg u), .ref p] (ml τ ρ) Q := by
  obtain ⟨⟨v, cap, hs⟩, hl, hq⟩ := hb
  have hpl := hs.1.1.lt
  have hp0 := hs.1.1.1
  have hv0 := hs.2.1.1.1
  have hvl := hs.2.1.1.lt
  refine Y_cV (k := K) (as := [.int (nZ neg u)]) hdg jw_l_i iv_JSB_append_i (sb_appi hs hu hn hT (by omega)) (by omega) rfl rfl hs.1.1.S (by decide) rfl (Nat.le_of_ble_eq_true rfl) okL_n hls (fun τ1 ρ1 hq1 => ?_)
  obtain ⟨v1, cap1, s1, -, g1⟩ := hq1
  refine h τ1 ρ1 ⟨⟨v1, cap1, s1⟩, by have := g1.1.2; omega, hq.trans (gx_ow g1 ⟨hp0, by omega⟩ ⟨hv0, by omega⟩)⟩ (fun q l z => z.gx hs g1) (fun m z => okO_up g1.1.1 z)
theorem ld_n {u : Nat} (hdg : decode c_L_load.1.2.1 pc = .ok (.invokevirtual 65, 3)) (hb : LB p T N σ τ ρ) (hu : u < 100) (hT : T.length + 3 ≤ 400) (hN : N < 990) (hD : 6 ≤ D) (hls : okO (yl ρ) ls)
    (h : ∀ τ1 ρ1, LB p (T ++ dgP u) (N + 1) σ τ1 ρ1 → (∀ q l, HD q l τ ρ → HD q l τ1 ρ1) → (∀ m, okO (yl ρ) m → okO (yl ρ1) m) → am_R am_TX D K c_L_load (pc + 3) ls [.ref p] (ml τ1 ρ1) Q) : am_R am_TX D (1 + K) c_L_load pc ls [.int (nI u), .ref p] (ml τ ρ) Q :=
  ld_i (neg := false) hdg hb hu (fun z => absurd z (by decide)) hT hN hD hls h
end BLD
theorem sc_ow {σ τ : am_G} {ρ : am_Y} {xs : Nat → Int32} {L : Nat} (h : σ.1 3000 = xs ∧ σ.1 3001 0 = nI L ∧ L ≤ 3072) (q : smP pOw σ τ) : scP (ml τ ρ) xs L := by
  refine ⟨?_, ?_, h.2.2⟩
  · show τ.1 3000 = xs
    rw [← h.1]
    funext b
    exact q.i (by unfold pOw; omega)
  · show τ.1 3001 0 = nI L
    rw [← h.2.1]
    exact q.i (by unfold pOw; omega)
section BL2
variable {p D : Nat} {A : List Int32} {σ : am_G} {xs : Nat → Int32} {L R C : Nat} {Q : am_Res → Prop}
/-- the locals of the law's load -/
def ldL (R C p : Nat) (a6 a7 a8 a9 a10 : Option Value) : List (Option Value) := [some (.ref 0), some (.ref 3000), some (.int (nI 1)), some (.int (nI R)), some (.int (nI C)), some (.ref p), a6, a7, a8, a9, a10]
theorem okO_ld {n R C p : Nat} {a6 a7 a8 a9 a10 : Option Value} (h0 : 0 < n) (hp : p < n) (h : okO n [a6, a7, a8, a9, a10]) : okO n (ldL R C p a6 a7 a8 a9 a10) := okO_r h0 (okO_h (by decide) (okO_i (okO_i (okO_i (okO_r hp h)))))
theorem lp_ld_c {K n0 r : Nat} (hx : σ.1 3000 = xs ∧ σ.1 3001 0 = nI L ∧ L ≤ 3072) (hr : r < 6) (hC : C ≤ 6) (hA : A.length ≤ 250) (hN : n0 + 2 * C < 980) (hD : 8 ≤ D)
    (hk : ∀ τ ρ, LB p (A ++ rwT (eZ xs L r) C) (n0 + 2 * C) σ τ ρ → am_R am_TX D K c_L_load 117 (ldL R C p (some (.int (nI r))) (some (.int (nI C))) none none none) [] (ml τ ρ) Q) :
    ∀ u c τ ρ, c + u = C → LB p (A ++ rwT (eZ xs L r) c) (n0 + 2 * c) σ τ ρ → am_R am_TX D (2 * u + K) c_L_load 75 (ldL R C p (some (.int (nI r))) (some (.int (nI c))) none none none) [] (ml τ ρ) Q := by
  intro u
  induction u with
  | zero =>
    intro c τ ρ hc hb
    obtain rfl : c = C := by omega
    refine am_R.room (d := D) (k := K) ?_ (Nat.le_refl _) (by omega)
    refine R_iload rfl rfl ?_
    refine R_iload rfl rfl ?_
    refine R_nicmp_ge (x := c) (y := c) rfl rfl (by omega) (by omega) (fun _ => ?_) (fun z => absurd (Nat.le_refl c) z)
    exact hk τ ρ hb
  | succ u ih =>
    intro c τ ρ hc hb
    have hbd := (eZ_bd xs L c r).1
    have hlen := @rwT_le (eZ xs L r) c
    have hl : (A ++ rwT (eZ xs L r) c).length ≤ 280 := by rw [List.length_append]; omega
    have hpl : p < yl ρ := by obtain ⟨⟨v, cap, hs⟩, -⟩ := hb; exact hs.1.1.lt
    have h120 := @y_0 ρ
    refine am_R.room (d := D) (k := 1 + (1 + (2 * u + K))) ?_ (Nat.le_refl _) (by omega)
    refine R_iload rfl rfl ?_
    refine R_iload rfl rfl ?_
    refine R_nicmp_ge (x := c) (y := C) rfl rfl (by omega) (by omega) (fun z => by omega) (fun _ => ?_)
    refine R_aload rfl rfl ?_
    refine R_iload rfl rfl ?_
    have j96 : ∀ (i : Nat) (bs : List Int32), (i, bs) ∈ am_SL → bs = (if c = 0 then [] else [44]) → am_R am_TX D (1 + (1 + (2 * u + K))) c_L_load 96 (ldL R C p (some (.int (nI r))) (some (.int (nI c))) none none none) [.ref (1000 + i), .ref p] (ml τ ρ) Q := by
      intro i bs hi hbs
      have hbl : bs.length ≤ 1 := by rw [hbs]; split <;> decide
      refine ld_s (by decide +kernel) hb hi (by omega) (by omega) (by omega) (okO_ld (by omega) hpl (okO_i (okO_i (okO_0 (okO_0 (okO_0 okO_n)))))) (fun τ1 ρ1 b1 _ ok1 => ?_)
      refine R_aload_n rfl rfl ?_
      refine R_iload rfl rfl ?_
      refine R_iload rfl rfl ?_
      refine R_pS (as := [.ref 3000, .int (nI r), .int (nI c)]) rfl rfl iv_L_entry (pl_entry (sc_ow hx b1.2.2) (by omega) r hr) (by omega) rfl rfl rfl rfl (Nat.le_of_ble_eq_true rfl) ?_
      rw [iZ_dg hbd]
      refine ld_i (by decide +kernel) b1 (by omega) (fun z => by have := of_decide_eq_true z; omega) (by rw [List.length_append]; omega) (by omega) (by omega) (ok1 _ (okO_ld (by omega) hpl (okO_i (okO_i (okO_0 (okO_0 (okO_0 okO_n))))))) (fun τ2 ρ2 b2 _ _ => ?_)
      refine R_pop rfl rfl ?_
      refine R_iincN (x := c) (m := 1) rfl rfl rfl (by decide) ?_
      refine R_goto rfl rfl ?_
      refine ih (c + 1) τ2 ρ2 (by omega) ?_
      have e : ((A ++ rwT (eZ xs L r) c) ++ bs) ++ dgZ (decide (eZ xs L r c < 0)) (eZ xs L r c).natAbs = A ++ rwT (eZ xs L r) (c + 1) := by
        rw [hbs]
        show _ = A ++ ((rwT (eZ xs L r) c ++ (if c = 0 then [] else [44])) ++ dgI (eZ xs L r c))
        unfold dgI
        simp only [List.append_assoc]
      rw [e] at b2
      exact b2
    refine R_nif_le (x := c) rfl rfl (by omega) (fun z => ?_) (fun z => ?_)
    · refine R_ldcS (i := 5) rfl (List.mem_of_getElem? (i := 5) rfl) ?_
      exact j96 5 [] (List.mem_of_getElem? (i := 5) rfl) (if_pos (by omega)).symm
    · refine R_ldcS (i := 4) rfl (List.mem_of_getElem? (i := 4) rfl) ?_
      refine R_goto rfl rfl ?_
      exact j96 4 [44] (List.mem_of_getElem? (i := 4) rfl) (if_neg (by omega)).symm
theorem lp_ld_r {K n0 : Nat} (hx : σ.1 3000 = xs ∧ σ.1 3001 0 = nI L ∧ L ≤ 3072) (hR : R ≤ 6) (hC : C ≤ 6) (hA : A.length ≤ 13) (hN : n0 + 14 * R < 900) (hD : 8 ≤ D)
    (hk : ∀ τ ρ c, okO (yl ρ) [c] → LB p (rsT A (eZ xs L) C R) (n0 + 14 * R) σ τ ρ → am_R am_TX D K c_L_load 131 (ldL R C p (some (.int (nI R))) c none none none) [] (ml τ ρ) Q) :
    ∀ u r c τ ρ, r + u = R → okO (yl ρ) [c] → LB p (rsT A (eZ xs L) C r) (n0 + 14 * r) σ τ ρ → am_R am_TX D (14 * u + K) c_L_load 58 (ldL R C p (some (.int (nI r))) c none none none) [] (ml τ ρ) Q := by
  intro u
  induction u with
  | zero =>
    intro r c τ ρ hr hc hb
    obtain rfl : r = R := by omega
    refine am_R.room (d := D) (k := K) ?_ (Nat.le_refl _) (by omega)
    refine R_iload rfl rfl ?_
    refine R_iload_n rfl rfl ?_
    refine R_nicmp_ge (x := r) (y := r) rfl rfl (by omega) (by omega) (fun _ => ?_) (fun z => absurd (Nat.le_refl r) z)
    exact hk τ ρ _ hc hb
  | succ u ih =>
    intro r c τ ρ hr hc hb
    have hlen := @rsT_le A (eZ xs L) C hC r
    have hpl : p < yl ρ := by obtain ⟨⟨v, cap, hs⟩, -⟩ := hb; exact hs.1.1.lt
    have h120 := @y_0 ρ
    refine am_R.room (d := D) (k := 1 + (2 * C + (1 + (14 * u + K)))) ?_ (Nat.le_refl _) (by omega)
    refine R_iload rfl rfl ?_
    refine R_iload_n rfl rfl ?_
    refine R_nicmp_ge (x := r) (y := R) rfl rfl (by omega) (by omega) (fun z => by omega) (fun _ => ?_)
    refine R_aload rfl rfl ?_
    refine R_ldcS (i := 3) rfl (List.mem_of_getElem? (i := 3) rfl) ?_
    refine ld_s (i := 3) (bs := tRow) (by decide +kernel) hb (List.mem_of_getElem? (i := 3) rfl) (by rw [show tRow.length = 4 from rfl]; omega) (by omega) (by omega) (okO_ld (by omega) hpl (okO_i (by
      cases c with
      | none => exact okO_0 (okO_0 (okO_0 (okO_0 okO_n)))
      | some v => exact ⟨hc.1, okO_0 (okO_0 (okO_0 okO_n))⟩))) (fun τ1 ρ1 b1 _ ok1 => ?_)
    refine R_pop rfl rfl ?_
    refine R_iconst (v := 0) rfl rfl ?_
    refine R_istore rfl (by decide) ?_
    refine lp_ld_c (n0 := n0 + 14 * r + 1) (A := rsT A (eZ xs L) C r ++ tRow) hx (by omega) hC (by rw [List.length_append, show tRow.length = 4 from rfl]; omega) (by omega) hD (fun τ2 ρ2 b2 => ?_) C 0 τ1 ρ1 (by omega) (by rw [show rwT (eZ xs L r) 0 = [] from rfl, List.append_nil]; exact b1)
    have hpl2 : p < yl ρ2 := by obtain ⟨⟨v, cap, hs⟩, -⟩ := b2; exact hs.1.1.lt
    have h1202 := @y_0 ρ2
    have hw2 := @rwT_le (eZ xs L r) C
    refine R_aload rfl rfl ?_
    refine R_ldcS (i := 2) rfl (List.mem_of_getElem? (i := 2) rfl) ?_
    refine ld_s (i := 2) (bs := [59]) (by decide +kernel) b2 (List.mem_of_getElem? (i := 2) rfl) (by rw [List.length_append, List.length_append, show tRow.length = 4 from rfl, show [(59 : Int32)].length = 1 from rfl]; omega) (by omega) (by omega) (okO_ld (by omega) hpl2 (okO_i (okO_i (okO_0 (okO_0 (okO_0 okO_n)))))) (fun τ3 ρ3 b3 _ ok3 => ?_)
    refine R_pop rfl rfl ?_
    refine R_iincN (x := r) (m := 1) rfl rfl rfl (by decide) ?_
    refine R_goto rfl rfl ?_
    refine ih (r + 1) _ τ3 ρ3 (by omega) (okO_i okO_n) ?_
    obtain ⟨x1, x2, x3⟩ := b3
    exact ⟨x1, by omega, x3⟩
/-- the primes told: the array had, the text -/
theorem lp_ld_p {K n0 np q : Nat} {c : Option Value} {A : List Int32} (hx : σ.1 3000 = xs ∧ σ.1 3001 0 = nI L ∧ L ≤ 3072) (hnp : np ≤ 4) (hA : A.length ≤ 250) (hN : n0 + 3 * np < 900) (hD : 8 ≤ D)
    (hk : ∀ τ ρ a10, okO (yl ρ) (ldL R C p (some (.int (nI np))) (some (.int (nI (psL (fun k => pN xs L (80 + 2 * k)) np).length))) (some (.ref q)) (some (.int (nI np))) a10) → LB p (A ++ psT (psL (fun k => pN xs L (80 + 2 * k)) np)) (n0 + 3 * np) σ τ ρ → am_R am_TX D K c_L_load 215 (ldL R C p (some (.int (nI np))) (some (.int (nI (psL (fun k => pN xs L (80 + 2 * k)) np).length))) (some (.ref q)) (some (.int (nI np))) a10) [] (ml τ ρ) Q) :
    ∀ u k a10 τ ρ, k + u = np → okO (yl ρ) [a10] → HD q (psL (fun k => pN xs L (80 + 2 * k)) k) τ ρ → LB p (A ++ psT (psL (fun k => pN xs L (80 + 2 * k)) k)) (n0 + 3 * k) σ τ ρ → am_R am_TX D (3 * u + K) c_L_load 151 (ldL R C p (some (.int (nI np))) (some (.int (nI (psL (fun k => pN xs L (80 + 2 * k)) k).length))) (some (.ref q)) (some (.int (nI k))) a10) [] (ml τ ρ) Q := by
  intro u
  induction u with
  | zero =>
    intro k a10 τ ρ hkk ha hh hb
    obtain rfl : k = np := by omega
    refine am_R.room (d := D) (k := K) ?_ (Nat.le_refl _) (by omega)
    refine R_iload rfl rfl ?_
    refine R_iload rfl rfl ?_
    refine R_nicmp_ge (x := k) (y := k) rfl rfl (by omega) (by omega) (fun _ => ?_) (fun z => absurd (Nat.le_refl k) z)
    have hpl : p < yl ρ := by obtain ⟨⟨v, cap, hs⟩, -⟩ := hb; exact hs.1.1.lt
    have h120 := @y_0 ρ
    have hql : q < yl ρ := by
      have := (List.getElem?_eq_some_iff.mp hh.1.2).1
      have := hh.1.1
      unfold yl
      omega
    exact hk τ ρ _ (okO_ld (by omega) hpl (okO_i (okO_i (okO_r hql (okO_i ha))))) hb
  | succ u ih =>
    intro k a10 τ ρ hkk ha hh hb
    have hpr := pN_mem xs L (80 + 2 * k)
    obtain ⟨hp2, hp97⟩ := prL_le _ hpr
    have hll := @psL_le (fun k => pN xs L (80 + 2 * k)) k
    have hlen := psT_le (psL (fun k => pN xs L (80 + 2 * k)) k)
    have hpl : p < yl ρ := by obtain ⟨⟨v, cap, hs⟩, -⟩ := hb; exact hs.1.1.lt
    have h120 := @y_0 ρ
    have hql : q < yl ρ := by
      have := (List.getElem?_eq_some_iff.mp hh.1.2).1
      have := hh.1.1
      unfold yl
      omega
    have hlq : yl ρ ≤ n0 + 3 * k := hb.2.1
    have el : psL (fun k => pN xs L (80 + 2 * k)) (k + 1) = if pN xs L (80 + 2 * k) ∈ psL (fun k => pN xs L (80 + 2 * k)) k then psL (fun k => pN xs L (80 + 2 * k)) k else psL (fun k => pN xs L (80 + 2 * k)) k ++ [pN xs L (80 + 2 * k)] := rfl
    refine am_R.room (d := D) (k := 1 + (1 + (1 + (3 * u + K)))) ?_ (Nat.le_refl _) (by omega)
    refine R_iload rfl rfl ?_
    refine R_iload rfl rfl ?_
    refine R_nicmp_ge (x := k) (y := np) rfl rfl (by omega) (by omega) (fun z => by omega) (fun _ => ?_)
    refine R_aload_n rfl rfl ?_
    refine R_bipush (v := 80) rfl (by decide) ?_
    refine R_iconst (v := 2) rfl rfl ?_
    refine R_iload rfl rfl ?_
    refine R_imulN (x := 2) (y := k) rfl ?_
    refine R_iaddN (x := 80) (y := 2 * k) rfl ?_
    refine R_pS (as := [.ref 3000, .int (nI (80 + 2 * k))]) rfl rfl iv_L_prime (pl_prime (sc_ow hx hb.2.2) (by omega)) (by omega) rfl rfl rfl rfl (Nat.le_of_ble_eq_true rfl) ?_
    refine R_istore rfl (by decide) ?_
    refine R_aload rfl rfl ?_
    refine R_iload rfl rfl ?_
    refine Y_xZ (j := pN xs L (80 + 2 * k)) rfl (ml_hi hh.1.1 hh.1.2) rfl (by omega) (by decide) ?_
    rw [hh.2 _ (by omega)]
    refine R_zif_eq rfl rfl (fun hno => ?_) (fun hin => ?_)
    · rw [if_neg hno] at el
      refine R_aload rfl rfl ?_
      refine R_iload rfl rfl ?_
      refine R_iconst (v := 1) rfl rfl ?_
      refine Y_wZ (j := pN xs L (80 + 2 * k)) rfl (ml_hi hh.1.1 hh.1.2) rfl (by omega) (by decide) ?_
      rw [vp_b1]
      have hb0 : LB p (A ++ psT (psL (fun k => pN xs L (80 + 2 * k)) k)) (n0 + 3 * k) σ (sI τ q (pN xs L (80 + 2 * k)) 1) ρ := by
        obtain ⟨⟨v, cap, ⟨s1, s2, s3, s4⟩, s5, ⟨s6, s7⟩, s8⟩, b2, b3⟩ := hb
        have np : p ≠ q := by
          rintro rfl
          have h5 := hh.1.2.symm.trans s1.2
          cases h5
        have nv : v ≠ q := by
          rintro rfl
          have h5 := hh.1.2.symm.trans s5.1.2
          cases h5
        exact ⟨⟨v, cap, ⟨s1, s2, (sI_o (Or.inl np)).trans s3, (sI_o (Or.inl np)).trans s4⟩, s5, ⟨fun j hj => (sI_o (Or.inl nv)).trans (s6 j hj), fun j hj => by rw [sI_o (Or.inl nv)]; exact s7 j hj⟩, s8⟩, b2, b3.trans (smP_sI (by unfold pOw; have := hh.1.1; omega))⟩
      have hh0 : HD q (psL (fun k => pN xs L (80 + 2 * k)) (k + 1)) (sI τ q (pN xs L (80 + 2 * k)) 1) ρ := by
        refine ⟨hh.1, fun j hj => ?_⟩
        rw [sI_1, if_pos rfl, el]
        by_cases c : j = pN xs L (80 + 2 * k)
        · rw [if_pos c, zP_t (List.mem_append.mpr (Or.inr (List.mem_singleton.mpr c)))]
        · rw [if_neg c, hh.2 j hj]
          exact zP_c ⟨fun z => List.mem_append.mpr (Or.inl z), fun z => (List.mem_append.mp z).elim (fun y => y) (fun y => absurd (List.mem_singleton.mp y) c)⟩
      have okl : okO (yl ρ) (ldL R C p (some (.int (nI np))) (some (.int (nI (psL (fun k => pN xs L (80 + 2 * k)) k).length))) (some (.ref q)) (some (.int (nI k))) (some (.int (nI (pN xs L (80 + 2 * k)))))) := okO_ld (by omega) hpl (okO_i (okO_i (okO_r hql (okO_i (okO_i okO_n)))))
      refine R_aload rfl rfl ?_
      refine R_ldcS (i := 6) rfl (List.mem_of_getElem? (i := 6) rfl) ?_
      refine ld_s (i := 6) (bs := tPrm) (by decide +kernel) hb0 (List.mem_of_getElem? (i := 6) rfl) (by rw [List.length_append, show tPrm.length = 6 from rfl]; omega) (by omega) (by omega) okl (fun τ1 ρ1 b1 d1 ok1 => ?_)
      refine R_iload rfl rfl ?_
      refine ld_n (by decide +kernel) b1 (by omega) (by rw [List.length_append, List.length_append, show tPrm.length = 6 from rfl]; omega) (by omega) (by omega) (ok1 _ okl) (fun τ2 ρ2 b2 d2 ok2 => ?_)
      refine R_ldcS (i := 2) rfl (List.mem_of_getElem? (i := 2) rfl) ?_
      have hdp := @dgP_le (pN xs L (80 + 2 * k))
      refine ld_s (i := 2) (bs := [59]) (by decide +kernel) b2 (List.mem_of_getElem? (i := 2) rfl) (by rw [List.length_append, List.length_append, List.length_append, show tPrm.length = 6 from rfl, show [(59 : Int32)].length = 1 from rfl]; omega) (by omega) (by omega) (ok2 _ (ok1 _ okl)) (fun τ3 ρ3 b3 d3 ok3 => ?_)
      refine R_pop rfl rfl ?_
      refine R_iincN (x := (psL (fun k => pN xs L (80 + 2 * k)) k).length) (m := 1) rfl rfl rfl (by decide) ?_
      refine R_iincN (x := k) (m := 1) rfl rfl rfl (by decide) ?_
      refine R_goto rfl rfl ?_
      have g := ih (k + 1) (some (.int (nI (pN xs L (80 + 2 * k))))) τ3 ρ3 (by omega) (okO_i okO_n) (d3 _ _ (d2 _ _ (d1 _ _ hh0))) (by
        obtain ⟨x1, x2, x3⟩ := b3
        have e : (((A ++ psT (psL (fun k => pN xs L (80 + 2 * k)) k)) ++ tPrm) ++ dgP (pN xs L (80 + 2 * k))) ++ [59] = A ++ psT (psL (fun k => pN xs L (80 + 2 * k)) (k + 1)) := by
          rw [el, psT_s]
          simp only [List.append_assoc]
        rw [e] at x1
        exact ⟨x1, by omega, x3⟩)
      rw [show (psL (fun k => pN xs L (80 + 2 * k)) (k + 1)).length = (psL (fun k => pN xs L (80 + 2 * k)) k).length + 1 from by rw [el, List.length_append]; rfl] at g
      exact g
    · rw [if_pos hin] at el
      refine R_goto rfl rfl ?_
      refine R_iincN (x := k) (m := 1) rfl rfl rfl (by decide) ?_
      refine R_goto rfl rfl ?_
      have g := ih (k + 1) (some (.int (nI (pN xs L (80 + 2 * k))))) τ ρ (by omega) (okO_i okO_n) (by rw [el]; exact hh) (by
        obtain ⟨x1, x2, x3⟩ := hb
        rw [el]
        exact ⟨x1, by omega, x3⟩)
      rw [el] at g
      exact am_R.room g (Nat.le_refl _) (by omega)
end BL2
