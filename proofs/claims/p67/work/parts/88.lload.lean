/-! ===== the law's load ===== -/
section LDE
variable {h w rh pn D : Nat} {f v rl : am_Gr} {I : Nat → Int32} {ρ : am_Y} {xs : Nat → Int32} {L R C p : Nat} {x6 x7 : Int32} {x8 : Nat}
theorem lp_le_c {σ : am_G} (hx : ∀ τ, smP (plc 17 26) σ τ → scP (ml τ ρ) xs L) (hv : vS σ 26 R C (fRw (eZ xs L) C R) v rh rl pn I) (hD : 9 ≤ D) {r : Nat} (hr : r < R) {Q : am_Res → Prop}
    (hk : ∀ τ, smP (plc 17 26) σ τ → am_R am_TX D 0 c_L_load 324 (ldL R C p (some (.int x6)) (some (.int x7)) (some (.ref x8)) (some (.int (nI r))) (some (.int (nI C)))) [] (ml τ ρ) Q) :
    ∀ u c τ, c + u = C → smP (plc 17 26) σ τ → am_R am_TX D 0 c_L_load 290 (ldL R C p (some (.int x6)) (some (.int x7)) (some (.ref x8)) (some (.int (nI r))) (some (.int (nI c)))) [] (ml τ ρ) Q := by
  have hR := hv.1.1.2
  have hC := hv.1.2.1.2
  intro u
  induction u with
  | zero =>
    intro c τ hc q
    obtain rfl : c = C := by omega
    refine R_iload rfl rfl ?_
    refine R_iload rfl rfl ?_
    refine R_nicmp_ge (x := c) (y := c) rfl rfl (by omega) (by omega) (fun _ => ?_) (fun z => absurd (Nat.le_refl c) z)
    exact hk τ q
  | succ u ih =>
    intro c τ hc q
    have hbd := (eZ_bd xs L c r).1
    refine R_iload rfl rfl ?_
    refine R_iload rfl rfl ?_
    refine R_nicmp_ge (x := c) (y := C) rfl rfl (by omega) (by omega) (fun z => by omega) (fun _ => ?_)
    refine R_aload_n rfl rfl ?_
    refine R_iload rfl rfl ?_
    refine R_iload rfl rfl ?_
    refine R_qV (as := [.int (nI r), .int (nI c)]) rfl rfl iv_D_entry (sp_D_entry (vS_q q hv) hr (by omega)) (fun _ z => sm_lo z) (by omega) rfl rfl rfl rfl (Nat.le_of_ble_eq_true rfl) (fun τ1 q1 => ?_)
    have q1 := q.trans q1
    have e : (fRw (eZ xs L) C R r c).toInt32 = iZ (eZ xs L r c) := by
      unfold fRw
      rw [if_pos ⟨hr, by omega⟩]
      exact iZ_64 hbd
    rw [e]
    refine R_aload_n rfl rfl ?_
    refine R_iload rfl rfl ?_
    refine R_iload rfl rfl ?_
    refine R_pS (as := [.ref 3000, .int (nI r), .int (nI c)]) rfl rfl iv_L_entry (pl_entry (hx τ1 q1) (by omega) r (by omega)) (by omega) rfl rfl rfl rfl (Nat.le_of_ble_eq_true rfl) ?_
    refine R_icmp_eq rfl rfl (fun _ => ?_) (fun z => absurd rfl z)
    refine R_iincN (x := c) (m := 1) rfl rfl rfl (by decide) ?_
    refine R_goto rfl rfl ?_
    exact ih (c + 1) τ1 (by omega) q1
theorem lp_le_r {σ : am_G} (hx : ∀ τ, smP (plc 17 26) σ τ → scP (ml τ ρ) xs L) (hv : vS σ 26 R C (fRw (eZ xs L) C R) v rh rl pn I) (hD : 9 ≤ D) :
    ∀ u r a10 τ, r + u = R → smP (plc 17 26) σ τ → am_R am_TX D 0 c_L_load 281 (ldL R C p (some (.int x6)) (some (.int x7)) (some (.ref x8)) (some (.int (nI r))) a10) [] (ml τ ρ) (am_Oy (some (.int 1)) (fun σ1 ρ1 => ρ1 = ρ ∧ smP (plc 17 26) σ σ1)) := by
  have hR := hv.1.1.2
  intro u
  induction u with
  | zero =>
    intro r a10 τ hr q
    obtain rfl : r = R := by omega
    refine R_iload rfl rfl ?_
    refine R_iload_n rfl rfl ?_
    refine R_nicmp_ge (x := r) (y := r) rfl rfl (by omega) (by omega) (fun _ => ?_) (fun z => absurd (Nat.le_refl r) z)
    refine R_iconst (v := 1) rfl rfl ?_
    exact T_zreturn rfl rfl rfl ⟨_, _, rfl, rfl, q⟩
  | succ u ih =>
    intro r a10 τ hr q
    refine R_iload rfl rfl ?_
    refine R_iload_n rfl rfl ?_
    refine R_nicmp_ge (x := r) (y := R) rfl rfl (by omega) (by omega) (fun z => by omega) (fun _ => ?_)
    refine R_iconst (v := 0) rfl rfl ?_
    refine R_istore rfl (by decide) ?_
    refine lp_le_c hx hv hD (by omega) (fun τ1 q1 => ?_) C 0 τ (by omega) q
    refine R_iincN (x := r) (m := 1) rfl rfl rfl (by decide) ?_
    refine R_goto rfl rfl ?_
    exact ih (r + 1) _ τ1 (by omega) q1
end LDE
/-- what the law's load leaves -/
def ldP (xs : Nat → Int32) (L N : Nat) (σ1 : am_G) (ρ1 : am_Y) : Prop := (∃ J P2 pn, vS σ1 26 (1 + dN xs L 0 6) (1 + dN xs L 1 6) (fRw (eZ xs L) (1 + dN xs L 1 6) (1 + dN xs L 0 6)) (fun _ _ => 0) 0 (fun _ _ => 0) pn J ∧ prP pn J P2) ∧ yOk ρ1 ∧ yl ρ1 ≤ N ∧ σ1.1 3000 = xs ∧ σ1.1 3001 0 = nI L
theorem sc_lo {σ τ : am_G} {xs : Nat → Int32} {L : Nat} {p : Nat → Nat → Prop} (q : smP p σ τ) (hp : ∀ a b, 3000 ≤ a → ¬ p a b) (h1 : σ.1 3000 = xs) (h2 : σ.1 3001 0 = nI L) : τ.1 3000 = xs ∧ τ.1 3001 0 = nI L := ⟨(funext fun b => q.i (hp _ b (by decide))).trans h1, (q.i (hp _ 0 (by decide))).trans h2⟩
theorem pl_load {xs : Nat → Int32} {L h w rh pn n : Nat} {f v rl : am_Gr} {I : Nat → Int32} {Hs : Nat → am_Sn} {σ : am_G} {ρ : am_Y} (hx : σ.1 3000 = xs ∧ σ.1 3001 0 = nI L ∧ L ≤ 3072) (hv : vS σ 26 h w f v rh rl pn I) (hH : cH σ n Hs) (hB : iC σ 0 []) (hok : yOk ρ) (hyl : yl ρ ≤ 130) : am_Call am_TX 10 120 c_L_load [.ref 0, .ref 3000, .int (nI 1)] (ml σ ρ) (am_Oy (some (.int 1)) (ldP xs L 400)) := by
  have h120 := @y_0 ρ
  have hs : scP (ml σ ρ) xs L := hx
  have r6 := dN_lt (xs := xs) (L := L) (k := 0) (n := 6) (by decide)
  have c6 := dN_lt (xs := xs) (L := L) (k := 1) (n := 6) (by decide)
  have p5 := dN_lt (xs := xs) (L := L) (k := 2) (n := 5) (by decide)
  refine ⟨mf_L_load, Nat.le_of_ble_eq_true rfl, ?_⟩
  refine R_iload_n rfl rfl ?_
  refine R_aload_n rfl rfl ?_
  refine R_iconst (v := 0) rfl rfl ?_
  refine R_bipush (v := 7) rfl (by decide) ?_
  refine R_iload_n rfl rfl ?_
  refine R_isubN (x := 7) (y := 1) rfl (by decide) ?_
  refine R_pS (as := [.ref 3000, .int (nI 0), .int (nI 6)]) rfl rfl iv_L_draw (pl_draw hs (by decide) (by decide) (by decide)) (by decide) rfl rfl rfl rfl (Nat.le_of_ble_eq_true rfl) ?_
  refine R_iaddN (x := 1) (y := dN xs L 0 6) rfl ?_
  refine R_istore_n rfl (by decide) ?_
  refine R_iload_n rfl rfl ?_
  refine R_aload_n rfl rfl ?_
  refine R_iconst (v := 1) rfl rfl ?_
  refine R_bipush (v := 7) rfl (by decide) ?_
  refine R_iload_n rfl rfl ?_
  refine R_isubN (x := 7) (y := 1) rfl (by decide) ?_
  refine R_pS (as := [.ref 3000, .int (nI 1), .int (nI 6)]) rfl rfl iv_L_draw (pl_draw hs (by decide) (by decide) (by decide)) (by decide) rfl rfl rfl rfl (Nat.le_of_ble_eq_true rfl) ?_
  refine R_iaddN (x := 1) (y := dN xs L 1 6) rfl ?_
  refine R_istore rfl (by decide) ?_
  unfold ldP
  generalize hRR : 1 + dN xs L 0 6 = R
  generalize hCC : 1 + dN xs L 1 6 = C
  have hR : 1 ≤ R ∧ R ≤ 6 := by omega
  have hC : 1 ≤ C ∧ C ≤ 6 := by omega
  have okl : ∀ n p, 120 ≤ n → p < n → okO n (ldL R C p none none none none none) := fun n p h1 h2 => okO_ld (by omega) h2 (okO_0 (okO_0 (okO_0 (okO_0 (okO_0 okO_n)))))
  have okl0 : ∀ n, 120 ≤ n → okO n [some (.ref 0), some (.ref 3000), some (.int (nI 1)), some (.int (nI R)), some (.int (nI C)), none, none, none, none, none, none] := fun n h1 => okO_r (by omega) (okO_h (by decide) (okO_i (okO_i (okO_i (okO_0 (okO_0 (okO_0 (okO_0 (okO_0 (okO_0 okO_n))))))))))
  refine am_R.room (d := 10) (k := 1 + (2 + (1 + (1 + (1 + (1 + (14 * R + (1 + (3 * dN xs L 2 5 + (2 + 0)))))))))) ?_ (Nat.le_refl _) (by omega)
  refine Y_new (k := 2 + (1 + (1 + (1 + (1 + (14 * R + (1 + (3 * dN xs L 2 5 + (2 + 0))))))))) rfl (by decide) okL_n.all (okl0 _ h120).all hok (by omega) ?_
  have hpn : yl (nY ρ (0, 11)) = yl ρ + 1 := nY_l
  refine R_dup rfl rfl ?_
  refine R_ldcS (i := 0) rfl (List.mem_of_getElem? (i := 0) rfl) ?_
  refine Y_cI (k := 1 + (1 + (1 + (1 + (14 * R + (1 + (3 * dN xs L 2 5 + (2 + 0)))))))) (as := [.ref (1000 + 0)]) rfl rfl iv_JSB_init (sb_init (i := 0) (bs := tMat) oA_new (if_pos rfl) (if_pos rfl) (List.mem_of_getElem? (i := 0) rfl) (nY_ok hok) (by omega)) (by decide) rfl rfl rfl rfl rfl rfl (Nat.le_of_ble_eq_true rfl) (by rw [hpn]; exact okL_r (by omega) okL_n) (by rw [hpn]; exact okl0 _ (by omega)) (fun σ1 ρ1 hq => ?_)
  obtain ⟨v1, cap1, s1, l1, g1⟩ := hq
  have b1 : LB (yl ρ) tMat (yl ρ + 3) σ σ1 ρ1 := by
    refine ⟨⟨v1, cap1, s1⟩, by have := g1.1.2; omega, ?_⟩
    have e1 : smP pOw σ (nN σ (yl ρ)) := ⟨fun a b hn => ⟨nN_o (fun e => hn (by unfold pOw; omega)), if_neg (fun e => hn (by unfold pOw; omega))⟩, rfl⟩
    exact e1.trans (gx_ow g1 ⟨h120, by omega⟩ ⟨h120, by omega⟩)
  have hp1 : yl ρ < yl ρ1 := by have := s1.1.1.lt; omega
  generalize hpp : yl ρ = p at *
  refine R_iload_n rfl rfl ?_
  refine ld_n (by decide +kernel) b1 (by omega) (by decide) (by omega) (by decide) (okl0 _ (by omega)) (fun σ2 ρ2 b2 _ o2 => ?_)
  have d1 := @dgP_le R
  have d2 := @dgP_le C
  refine R_ldcS (i := 1) rfl (List.mem_of_getElem? (i := 1) rfl) ?_
  refine ld_s (i := 1) (bs := [32]) (by decide +kernel) b2 (List.mem_of_getElem? (i := 1) rfl) (by rw [List.length_append, show tMat.length = 7 from rfl, show [(32 : Int32)].length = 1 from rfl]; omega) (by omega) (by decide) (o2 _ (okl0 _ (by omega))) (fun σ3 ρ3 b3 _ o3 => ?_)
  refine R_iload rfl rfl ?_
  refine ld_n (by decide +kernel) b3 (by omega) (by rw [List.length_append, List.length_append, show tMat.length = 7 from rfl, show [(32 : Int32)].length = 1 from rfl]; omega) (by omega) (by decide) (o3 _ (o2 _ (okl0 _ (by omega)))) (fun σ4 ρ4 b4 _ o4 => ?_)
  refine R_ldcS (i := 2) rfl (List.mem_of_getElem? (i := 2) rfl) ?_
  refine ld_s (i := 2) (bs := [59]) (by decide +kernel) b4 (List.mem_of_getElem? (i := 2) rfl) (by rw [List.length_append, List.length_append, List.length_append, show tMat.length = 7 from rfl, show [(32 : Int32)].length = 1 from rfl, show [(59 : Int32)].length = 1 from rfl]; omega) (by omega) (by decide) (o4 _ (o3 _ (o2 _ (okl0 _ (by omega))))) (fun σ5 ρ5 b5 _ o5 => ?_)
  have b5 : LB p (hdT R C) (p + 7) σ σ5 ρ5 := b5
  refine R_astore rfl (by decide) ?_
  refine R_iconst (v := 0) rfl rfl ?_
  refine R_istore rfl (by decide) ?_
  refine lp_ld_r (n0 := p + 7) (A := hdT R C) hx hR.2 hC.2 hdT_le (by omega) (by decide) (fun τ ρτ c0 okc hb => ?_) R 0 none σ5 ρ5 (by omega) (okO_0 okO_n) (by rw [Nat.mul_zero, Nat.add_zero]; exact b5)
  have hrl := @rsT_le (hdT R C) (eZ xs L) C hC.2 R
  have hhl := @hdT_le R C
  have q6 := hb.2.2
  have hy6 : yl ρτ ≤ p + 7 + 14 * R := hb.2.1
  have h1206 := @y_0 ρτ
  have hp6 : p < yl ρτ := by obtain ⟨⟨v, cap, hs⟩, -⟩ := hb; exact hs.1.1.lt
  have hok6 : yOk ρτ := by obtain ⟨⟨v, cap, hs⟩, -⟩ := hb; exact hs.2.2.2
  refine R_aload_n rfl rfl ?_
  refine R_iconst (v := 2) rfl rfl ?_
  refine R_iconst (v := 5) rfl rfl ?_
  refine R_pS (as := [.ref 3000, .int (nI 2), .int (nI 5)]) rfl rfl iv_L_draw (pl_draw (sc_ow hx q6) (by decide) (by decide) (by decide)) (by decide) rfl rfl rfl rfl (Nat.le_of_ble_eq_true rfl) ?_
  generalize dN xs L 2 5 = np at *
  refine R_istore rfl (by decide) ?_
  refine R_iconst (v := 0) rfl rfl ?_
  refine R_istore rfl (by decide) ?_
  refine R_bipush (v := 98) rfl (by decide) ?_
  refine Y_newZ (k := 3 * np + (2 + 0)) (N := 98) rfl rfl (by decide) okL_n.all (okO_ld (R := R) (C := C) (p := p) (by omega) hp6 (okO_i (okO_i (okO_0 (okO_0 (okO_0 okO_n)))))).all hok6 (by omega) ?_
  have b7 : LB p (rsT (hdT R C) (eZ xs L) C R) (p + 8 + 14 * R) σ (nN τ (yl ρτ)) (nY ρτ (4, 98)) := by
    obtain ⟨⟨v, cap, ⟨x1, x2, x3, x4⟩, ⟨x5, x6, x7⟩, ⟨x8, x9⟩, x10⟩, y2, y3⟩ := hb
    have hvl := x5.lt
    refine ⟨⟨v, cap, ⟨x1.up, (if_neg (by omega)).trans x2, by rw [nN_o (by omega)]; exact x3, by rw [nN_o (by omega)]; exact x4⟩, ⟨x5.up, x6, x7⟩, ⟨fun j hj => by rw [nN_o (by omega)]; exact x8 j hj, fun j hj => by rw [nN_o (by omega)]; exact x9 j hj⟩, nY_ok x10⟩, by rw [nY_l]; omega, y3.trans ⟨fun a b hn => ⟨nN_o (fun e => hn (by unfold pOw; omega)), if_neg (fun e => hn (by unfold pOw; omega))⟩, rfl⟩⟩
  have hd7 : HD (yl ρτ) [] (nN τ (yl ρτ)) (nY ρτ (4, 98)) := ⟨⟨h1206, nY_new⟩, fun j hj => by
    show (if yl ρτ = yl ρτ then (0 : Int32) else _) = _
    rw [if_pos rfl, zP_f List.not_mem_nil]⟩
  refine R_astore rfl (by decide) ?_
  refine R_iconst (v := 0) rfl rfl ?_
  refine R_istore rfl (by decide) ?_
  refine lp_ld_p (n0 := p + 8 + 14 * R) (q := yl ρτ) (c := none) (np := np) (A := rsT (hdT R C) (eZ xs L) C R) hx (by omega) (by omega) (by omega) (by decide) (fun τ2 ρ2 a10 ok2 hb2 => ?_) np 0 none _ _ (by omega) (okO_0 okO_n) hd7 (by
    rw [show psT (psL (fun k => pN xs L (80 + 2 * k)) 0) = [] from rfl, List.append_nil, Nat.mul_zero, Nat.add_zero]
    exact b7)
  have hpl := @psL_le (fun k => pN xs L (80 + 2 * k)) np
  have hnd := @psL_nd (fun k => pN xs L (80 + 2 * k)) np
  have hpp2 := psL_pr (p := fun k => pN xs L (80 + 2 * k)) (fun k => pN_mem xs L (80 + 2 * k)) np
  generalize psL (fun k => pN xs L (80 + 2 * k)) np = ps at *
  have hptl := psT_le ps
  have hTl : (rsT (hdT R C) (eZ xs L) C R ++ psT ps).length ≤ 380 := by rw [List.length_append]; omega
  have hbd : ∀ r c, -20 ≤ eZ xs L r c ∧ eZ xs L r c ≤ 20 := fun r c => (eZ_bd xs L c r).1
  have hlt : ltr (rsT (hdT R C) (eZ xs L) C R ++ psT ps) := ltr_lts (lts_a (lts_r (lts_h (by omega) (by omega)) (fun r c => by have := hbd r c; omega) R) (lts_p ps (fun q hq => by have := prL_le q (hpp2 q hq); omega)))
  obtain ⟨P2, pa1, pa2, pa3⟩ := pa_text (B := rsT (hdT R C) (eZ xs L) C R ++ psT ps) (ev := eZ xs L) (h := R) (w := C) (ps := ps) hR hC hbd (by omega) hnd hpp2 (tx_eq (by omega))
  generalize rsT (hdT R C) (eZ xs L) C R ++ psT ps = T at *
  obtain ⟨⟨v2, cap2, s2⟩, y2, q2⟩ := hb2
  have h1202 := @y_0 ρ2
  refine R_aload_n rfl rfl ?_
  refine R_aload rfl rfl ?_
  refine Y_cV (k := 0) (as := []) (by decide +kernel) jw_l_t iv_JSB_toString (sb_toStr s2 (by omega)) (by decide) rfl rfl s2.1.1.S (by decide) rfl (Nat.le_of_ble_eq_true rfl) (okL_r (by omega) okL_n) ok2 (fun τ3 ρ3 hq3 => ?_)
  obtain ⟨t1, t2, t3, -, -, t4, t5, t6⟩ := hq3
  have q3 : smP pOw σ τ3 := q2.trans ⟨fun a b hn => ⟨t4 a b (by unfold pOw at hn; omega), t5 a b (by unfold pOw at hn; omega)⟩, t6⟩
  have hB3 : iC τ3 0 [] := hB.fr q3 (fun b => ⟨by unfold pOw; omega, by unfold pOw; omega⟩)
  refine R_qS (kc := 0) (k := 0) (as := [.ref 0, .ref (yl ρ2)]) rfl rfl iv_L_feed (pl_feed hB3 (fun σ9 hσ9 => tx_m (w := yl ρ2 + 1) ⟨⟨t1.1.1, t1.1.2.1, (hσ9.i (by unfold pI; omega)).trans t1.1.2.2⟩, t1.2.1, fun j hj => (hσ9.i (by unfold pI; omega)).trans (t1.2.2 j hj)⟩ (by omega) (asc_ltr hlt)) hlt hTl) (by decide) rfl rfl rfl rfl (Nat.le_of_ble_eq_true rfl) (fun τ4 h4 => ?_)
  obtain ⟨q4, hB4⟩ := h4
  have hv4 := q4.vS (q3.vS hv (fun a b _ _ => by unfold pOw; omega)) (fun a b _ _ => by unfold pI; omega)
  have hH4 := (hH.fr q3 (fun a b _ _ => by unfold pOw; omega)).fr q4 (fun a b _ _ => by unfold pI; omega)
  refine R_aload_n rfl rfl ?_
  refine R_qV (as := []) rfl rfl iv_D_load (sp_D_load hv4 hH4 hB4 pa1) (fun _ z => z.1.mono (fun a b h => by unfold pLo; omega)) (by decide) rfl rfl rfl rfl (Nat.le_of_ble_eq_true rfl) (fun τ5 h5 => ?_)
  obtain ⟨q5, -, e1, e2, -, J, v5, -, j5⟩ := h5
  rw [pa2, pa3] at v5
  have v5 : vS τ5 26 R C (fRw (eZ xs L) C R) (fun _ _ => 0) 0 (fun _ _ => 0) ps.length J := v5
  have sc5 : τ5.1 3000 = xs ∧ τ5.1 3001 0 = nI L := by
    obtain ⟨k1, k2⟩ := sc_lo q3 (fun a b h => by unfold pOw; omega) hx.1 hx.2.1
    obtain ⟨k3, k4⟩ := sc_lo q4 (fun a b h => by unfold pI; omega) k1 k2
    exact sc_lo q5 (fun a b h => by omega) k3 k4
  refine R_iload_n rfl rfl ?_
  refine R_icmp_ne rfl rfl (fun z => absurd rfl z) (fun _ => ?_)
  refine R_aload_n rfl rfl ?_
  refine R_qV (as := []) rfl rfl iv_D_errorCode sp_D_errorCode (fun _ z => z ▸ smP.refl) (by decide) rfl rfl rfl rfl (Nat.le_of_ble_eq_true rfl) (fun τ6 h6 => ?_)
  subst h6
  rw [e1]
  refine R_if_ne rfl rfl (fun z => absurd rfl z) (fun _ => ?_)
  refine R_aload_n rfl rfl ?_
  refine R_qV (as := []) rfl rfl iv_D_errorPosition sp_D_errorPosition (fun _ z => z ▸ smP.refl) (by decide) rfl rfl rfl rfl (Nat.le_of_ble_eq_true rfl) (fun τ7 h7 => ?_)
  subst h7
  rw [e2]
  refine R_iconst (v := -1) rfl rfl ?_
  refine R_icmp_ne rfl rfl (fun z => absurd rfl z) (fun _ => ?_)
  refine R_aload_n rfl rfl ?_
  refine R_iconst (v := 0) rfl rfl ?_
  refine R_qV (as := [.int 0]) rfl rfl iv_D_count (sp_D_count_0 v5) (fun _ z => sm_lo z) (by decide) rfl rfl rfl rfl (Nat.le_of_ble_eq_true rfl) (fun τ8 q8 => ?_)
  refine R_iload_n rfl rfl ?_
  refine R_icmp_ne rfl rfl (fun z => absurd rfl z) (fun _ => ?_)
  refine R_aload_n rfl rfl ?_
  refine R_iconst (v := 1) rfl rfl ?_
  refine R_qV (as := [.int 1]) rfl rfl iv_D_count (sp_D_count_1 (vS_q q8 v5)) (fun _ z => sm_lo z) (by decide) rfl rfl rfl rfl (Nat.le_of_ble_eq_true rfl) (fun τ9 q9 => ?_)
  have q9 := q8.trans q9
  refine R_iload rfl rfl ?_
  refine R_icmp_ne rfl rfl (fun z => absurd rfl z) (fun _ => ?_)
  refine R_aload_n rfl rfl ?_
  refine R_iconst (v := 2) rfl rfl ?_
  refine R_qV (as := [.int 2]) rfl rfl iv_D_count (sp_D_count_2 (vS_q q9 v5)) (fun _ z => sm_lo z) (by decide) rfl rfl rfl rfl (Nat.le_of_ble_eq_true rfl) (fun τ10 q10 => ?_)
  have q10 := q9.trans q10
  refine R_iload rfl rfl ?_
  refine R_icmp_eq rfl rfl (fun _ => ?_) (fun z => absurd rfl z)
  refine R_iconst (v := 0) rfl rfl ?_
  refine R_istore rfl (by decide) ?_
  refine am_R.mono (lp_le_r (ρ := ρ3) (xs := xs) (L := L) (fun τ h => ?_) v5 (by decide) R 0 _ _ (by omega) q10) ?_
  · obtain ⟨k1, k2⟩ := sc_lo h (fun a b h => by unfold plc; omega) sc5.1 sc5.2
    exact ⟨k1, k2, hx.2.2⟩
  · rintro r ⟨σ9, ρ9, rfl, rfl, q11⟩
    obtain ⟨k1, k2⟩ := sc_lo q11 (fun a b h => by unfold plc; omega) sc5.1 sc5.2
    exact ⟨σ9, ρ9, rfl, ⟨J, _, ps.length, vS_q q11 v5, j5⟩, t2, by omega, k1, k2⟩
