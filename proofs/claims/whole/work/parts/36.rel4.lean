/-! ===== the model's relation is the class's ===== -/
def pL (a b : Nat) : Prop := pW a b ∨ pK a b ∨ a = 125
theorem pL_W : ∀ a b, pW a b → pL a b := fun _ _ h => Or.inl h
theorem pL_K : ∀ a b, pK a b → pL a b := fun _ _ h => Or.inr (Or.inl h)
theorem pL_X : ∀ a b, pX a b → pL a b := fun _ _ h => Or.inr (Or.inr h)
theorem pL_ok : ∀ a b, pL a b → ¬ (a = 120 ∧ b = 4) ∧ a ≠ 121 ∧ a ≠ 122 := fun a b h => by unfold pL pW pK at h; omega
theorem pL_mV {σ σ1 : am_G} (q : smP pL σ σ1) {h w : Nat} {f : am_Gr} (hv : mV σ h w f) : mV σ1 h w f := pKW_mV q pL_ok hv
/-- the relation's numbers before they are scaled -/
def rwF (f : am_Gr) (m h w r : Nat) (q : Nat) : Int64 := r0G f w (wi (prR f m h w r) r) (prC f m (prR f m h w r) h w w) h 0 q
/-- those of the first i of the basis, and the own one -/
def rwI (f : am_Gr) (m h w r i : Nat) (q : Nat) : Int64 := if q = r ∨ ((prR f m h w r).testBit q = true ∧ nb (prR f m h w r) q < i) then rwF f m h w r q else 0
theorem nb_sel {S i : Nat} (hS : S < 64) (hi : i < pc S) : nb S (sel S i) = i ∧ S.testBit (sel S i) = true ∧ sel S i < 6 := by
  have key : ∀ S : Nat, S < 64 → ∀ i : Nat, i < 6 → (i < pc S → nb S (sel S i) = i ∧ S.testBit (sel S i) = true ∧ sel S i < 6) := by decide +kernel
  have := @pc_le S
  exact key S hS i (by omega) hi
theorem sel_lt_r {S i r : Nat} (hS : S < 2 ^ r) (hr : r < 6) (hi : i < pc S) : sel S i < r := by
  have h64 := p2_64 hS (show r ≤ 6 by omega)
  have h1 := nb_sel h64 hi
  refine Classical.byContradiction fun hn => ?_
  exact tb_hi (Nat.lt_of_lt_of_le hS (Nat.pow_le_pow_right (n := 2) (by omega) (show r ≤ sel S i by omega))) h1.2.1
theorem rwI_s {f : am_Gr} {m h w r i q : Nat} (hB : prR f m h w r < 64) (hi : i < pc (prR f m h w r)) (hq : q < 6) : rwI f m h w r (i + 1) q = if q = sel (prR f m h w r) i then rwF f m h w r q else rwI f m h w r i q := by
  have h1 := nb_sel hB hi
  unfold rwI
  generalize prR f m h w r = B at *
  by_cases e : q = sel B i
  · rw [if_pos e, if_pos (Or.inr ⟨by rw [e]; exact h1.2.1, by rw [e, h1.1]; omega⟩)]
  · rw [if_neg e]
    by_cases e2 : q = r ∨ (B.testBit q = true ∧ nb B q < i)
    · rw [if_pos e2, if_pos (by rcases e2 with a | a; exact Or.inl a; exact Or.inr ⟨a.1, by omega⟩)]
    · rw [if_neg e2, if_neg]
      rintro (a | a)
      · exact e2 (Or.inl a)
      · by_cases e3 : nb B q = i
        · have := sel_nb hB hq a.1
          rw [e3] at this; exact e this.symm
        · exact e2 (Or.inr ⟨a.1, by omega⟩)
theorem rwI_n {f : am_Gr} {m h w r q : Nat} (hr : r < h) (hh : h ≤ 6) (hq : q < 6) : rwI f m h w r (pc (prR f m h w r)) q = rwF f m h w r q := by
  have hB := prR_lt2 (f := f) (m := m) (h := h) (w := w) r
  unfold rwI rwF
  have h64 := p2_64 hB (show r ≤ 6 by omega)
  by_cases e : q = r ∨ ((prR f m h w r).testBit q = true ∧ nb (prR f m h w r) q < pc (prR f m h w r))
  · rw [if_pos e]
  · rw [if_neg e]
    unfold r0G
    refine (if_neg ?_).symm
    rintro ⟨-, -, h3⟩
    rcases (tb_wi h64 (by omega) hq).mp h3 with g | g
    · exact e (Or.inr ⟨g, by rw [pc_nb h64]; exact nb_lt hq g⟩)
    · exact e (Or.inl g)
theorem rd_rd {m : Nat} {x : Int64} {i : Nat} (hx : mB x) (hm0 : 2 ≤ m) (hm : m ≤ 97) (hi : i < 97) : rdL m (rdL m x * (nI i).toInt64) = rdL m (x * (nI i).toInt64) := by
  have h1 := rd_rng (m := m) (v := x) (by omega) (by omega)
  have h2 := rdL_int (m := m) (v := x) (by omega)
  have h3 := nI_64 (n := i) (by omega)
  have b1 : ((rdL m x).toInt * (i : Int)).natAbs ≤ 97 * 97 := by rw [Int.natAbs_mul]; exact Nat.mul_le_mul (by omega) (by omega)
  have b2 : (x.toInt * (i : Int)).natAbs ≤ 46080000000 * 97 := by rw [Int.natAbs_mul]; exact Nat.mul_le_mul hx (by omega)
  have p1 : (rdL m x * (nI i).toInt64).toInt = (rdL m x).toInt * (i : Int) := by
    rw [Int64.toInt_mul, h3]
    generalize (rdL m x).toInt * (i : Int) = z at *
    exact Int.bmod_eq_of_le (by omega) (by omega)
  have p2 : (x * (nI i).toInt64).toInt = x.toInt * (i : Int) := by
    rw [Int64.toInt_mul, h3]
    generalize x.toInt * (i : Int) = z at *
    exact Int.bmod_eq_of_le (by omega) (by omega)
  apply Int64.toInt_inj.mp
  have q1 := rdL_int (m := m) (v := rdL m x * (nI i).toInt64) (by omega)
  have q2 := rdL_int (m := m) (v := x * (nI i).toInt64) (by omega)
  rw [q1, q2, p1, p2, h2, Int.mul_emod, Int.emod_emod_of_dvd _ (Int.dvd_refl _), ← Int.mul_emod]
theorem ivF_nI {n : Nat} {v : Int64} : ∀ (u t : Nat), t + u ≤ n → ∃ i, i ≤ n ∧ (i < n ∨ u = 0 ∨ i = 0) ∧ ivF n v u t = (nI i).toInt64
  | 0, t, _ => ⟨0, by omega, Or.inr (Or.inl rfl), rfl⟩
  | u + 1, t, h => by
    simp only [ivF]
    by_cases e : rdL n (v * (nI t).toInt64) = 1
    · rw [if_pos e]; exact ⟨t, by omega, Or.inl (by omega), rfl⟩
    · rw [if_neg e]
      obtain ⟨i, a, b, c⟩ := ivF_nI (n := n) (v := v) u (t + 1) (by omega)
      by_cases e2 : i < n
      · exact ⟨i, a, Or.inl e2, c⟩
      · by_cases e3 : u = 0
        · subst e3; exact ⟨0, by omega, Or.inr (Or.inr rfl), rfl⟩
        · exact ⟨i, a, by omega, c⟩
theorem ivL_nI {n : Nat} {v : Int64} (h2 : 2 ≤ n) : ∃ i, i < n ∧ ivL n v = (nI i).toInt64 := by
  obtain ⟨i, a, b, c⟩ := ivF_nI (n := n) (v := v) (n - 1) 1 (by omega)
  rcases b with b | b | b
  · exact ⟨i, b, c⟩
  · omega
  · exact ⟨i, by omega, c⟩
theorem z_div {x : Int64} (h : ¬ x = 0) : (0 : Int64) / x = 0 := by
  rw [l_eq0, Int64.toInt_div, l0, Int.zero_tdiv]; rfl
theorem rlG_k {f : am_Gr} {m h w r k : Nat} : rlG f m h w r 0 k = if k < h then scV m (rwF f m h w r) h r k else rwF f m h w r k := by
  show (if 0 = 0 ∧ k < h then scV m (rwF f m h w r) h r k else rwF f m h w r k) = _
  by_cases hk : k < h
  · rw [if_pos hk, if_pos ⟨rfl, hk⟩]
  · rw [if_neg hk, if_neg (fun z => hk z.2)]
/-- what the model's scaling gives is the class's relation -/
theorem rl_0 {f : am_Gr} {h w r k : Nat} (hr : r < h) (hf : fSm f h w) (hh : h ≤ 6) (hw : w ≤ 6) :
    ¬ fdL (rwF f 0 h w r) 6 = 0 ∧ mB (fdL (rwF f 0 h w r) 6) ∧ rwF f 0 h w r k / (if rwF f 0 h w r r < 0 then -fdL (rwF f 0 h w r) 6 else fdL (rwF f 0 h w r) 6) = rlG f 0 h w r 0 k := by
  obtain ⟨o1, o2, o3, o4⟩ := r0G_ok hr zdom_0 (by omega) hf hh hw
  have e6 : fdL (rwF f 0 h w r) 6 = fdL (rwF f 0 h w r) h := fdL_6 hh o2 o1
  obtain ⟨t1, t2⟩ := fdL_t (x := rwF f 0 h w r) h o2
  have hne : ¬ fdL (rwF f 0 h w r) h = 0 := fun e => by
    rw [l_eq0, t1] at e
    have := gzN_0 (x := rwF f 0 h w r) h (by omega) r hr
    unfold rwF at this
    rw [o3] at this
    rw [this] at o4
    exact o4 (Int.dvd_zero _)
  refine ⟨by rw [e6]; exact hne, by rw [e6]; exact t2, ?_⟩
  rw [e6]
  have hD : ¬ (if rwF f 0 h w r r < 0 then -fdL (rwF f 0 h w r) h else fdL (rwF f 0 h w r) h) = 0 := by
    split
    · intro e
      have e2 := congrArg Int64.toInt e
      unfold mB at t2
      rw [Int64.toInt_neg, Int.bmod_eq_of_le (by omega) (by omega), l0] at e2
      exact hne (l_eq0.mpr (by omega))
    · exact hne
  rw [rlG_k]
  by_cases hk : k < h
  · have e4 : scV 0 (rwF f 0 h w r) h r k = qtL (rwF f 0 h w r k) (if rwF f 0 h w r r < 0 then -fdL (rwF f 0 h w r) h else fdL (rwF f 0 h w r) h) := scV_0 rfl
    rw [if_pos hk, e4]
    unfold qtL
    rw [if_neg hD]
  · rw [if_neg hk, show rwF f 0 h w r k = 0 from o1 k (by omega)]
    exact z_div hD
theorem rl_p {f : am_Gr} {m h w r k : Nat} (hp : m ∈ prL) (hr : r < h) (hf : fSm f h w) (hh : h ≤ 6) (hw : w ≤ 6) :
    mB (rwF f m h w r r) ∧ ¬ (m : Int) ∣ (rwF f m h w r r).toInt ∧ rdL m (rdL m (rwF f m h w r k) * ivL m (rwF f m h w r r)) = rlG f m h w r 0 k := by
  have hb := prL_le m hp
  obtain ⟨o1, o2, o3, o4⟩ := r0G_ok (m := m) hr (zdom_p hp) hb.2 hf hh hw
  refine ⟨o2 r hr, by unfold rwF; rw [o3]; exact o4, ?_⟩
  obtain ⟨i, hi, e⟩ := ivL_nI (n := m) (v := rwF f m h w r r) hb.1
  rw [rlG_k]
  by_cases hk : k < h
  · have e4 : scV m (rwF f m h w r) h r k = rdL m (rwF f m h w r k * ivL m (rwF f m h w r r)) := scV_n (by omega)
    rw [if_pos hk, e4, e]
    exact rd_rd (o2 k hk) hb.1 hb.2 (by omega)
  · rw [if_neg hk, show rwF f m h w r k = 0 from o1 k (by omega), rdL_z, Int64.zero_mul, rdL_z]
set_option maxRecDepth 100000 in
set_option maxHeartbeats 4000000 in
theorem lp_lrz {σ : am_G} {m r p3 p4 p5 : Nat} {d k0 : Nat} {Q : am_Res → Prop}  (hx : ∀ (τ : am_G), (smP pX σ τ ∧ ∀ k, k < 6 → τ.2.1 125 k = 0) → am_R am_TX d k0 c_M_layRelation 62 [some (.ref 120), some (.int (nI m)), some (.int (nI r)), some (.int (nI p3)), some (.int (nI p4)), some (.int (nI p5)), some (.int (nI 6)), none] [] (mm τ) Q) : ∀ (uu i : Nat) (τ : am_G), i + uu = 6 → (smP pX σ τ ∧ ∀ k, k < i → τ.2.1 125 k = 0) → am_R am_TX d k0 c_M_layRelation 41 [some (.ref 120), some (.int (nI m)), some (.int (nI r)), some (.int (nI p3)), some (.int (nI p4)), some (.int (nI p5)), some (.int (nI i)), none] [] (mm τ) Q := by
  intro uu
  induction uu with
  | zero =>
    intro i τ hi hI
    obtain rfl : 6 = i := by omega
    refine R_iload rfl rfl ?_
    refine R_bipush (v := 6) rfl (by decide) ?_
    refine R_nicmp_ge (x := 6) (y := 6) rfl rfl (by omega) (by omega) (fun h1 => ?_) (fun z => by omega)
    exact hx τ hI
  | succ uu ih =>
    intro i τ hi hI
    refine R_iload rfl rfl ?_
    refine R_bipush (v := 6) rfl (by decide) ?_
    refine R_nicmp_ge (x := i) (y := 6) rfl rfl (by omega) (by omega) (fun z => by omega) (fun h1 => ?_)
    refine R_aload_n rfl rfl ?_
    refine R_gP (x := 125) rfl rfl fp_11_10 rfl ?_
    refine R_iload rfl rfl ?_
    refine R_lconst (v := 0) rfl rfl ?_
    refine R_wL (j := i) rfl rfl rfl (by omega) (by decide) ?_
    refine R_iincN (x := i) (m := 1) rfl rfl rfl (by decide) ?_
    refine R_goto rfl rfl ?_
    refine (ih (i + 1) _ (by omega) ⟨hI.1.trans (smP_sL rfl), fun k hk => ?_⟩).weak ⟨rfl, rfl, rfl, rfl, rfl, rfl, rfl, trivial⟩
    by_cases e : k = i
    · subst e; exact sL_s
    · rw [sL_o (Or.inr e)]; exact hI.2 k (by omega)
set_option maxRecDepth 100000 in
set_option maxHeartbeats 4000000 in
theorem lp_lr {σ : am_G} {h w m r : Nat} {f : am_Gr} {d k0 : Nat} {Q : am_Res → Prop} (hv : mV σ h w f) (hs : fSm f h w) (hmd : m ∈ mdL) (hr : r < h) (hd : 10 ≤ d) (hx : ∀ (τ : am_G), (smP pL σ τ ∧ pkV τ (pc (prR f m h w r)) (sel (prR f m h w r)) ∧ xV τ (rwI f m h w r (pc (prR f m h w r)))) → am_R am_TX d k0 c_M_layRelation 141 [some (.ref 120), some (.int (nI m)), some (.int (nI r)), none, none, some (.int (nI (prC f m (prR f m h w r) h w w))), some (.int (nI (pc (prR f m h w r)))), none] [] (mm τ) Q) : ∀ (uu i : Nat) (τ : am_G), i + uu = pc (prR f m h w r) → (smP pL σ τ ∧ pkV τ (pc (prR f m h w r)) (sel (prR f m h w r)) ∧ xV τ (rwI f m h w r i)) → am_R am_TX d k0 c_M_layRelation 85 [some (.ref 120), some (.int (nI m)), some (.int (nI r)), none, none, some (.int (nI (prC f m (prR f m h w r) h w w))), some (.int (nI i)), none] [] (mm τ) Q := by
  have hh1 := hv.1.1.1
  have hh6 := hv.1.1.2
  have hw1 := hv.1.2.1
  have hw6 := hv.1.2.2
  have hB2 := prR_lt2 (f := f) (m := m) (h := h) (w := w) r
  have hB64 := p2_64 hB2 (show r ≤ 6 by omega)
  have hC2 := prC_lt2 (f := f) (m := m) (S := (prR f m h w r)) (h := h) (w := w) w
  have hC1 := (prof_ne (r := r) (by omega) (md_dom hmd).1 (md_dom hmd).2 hs hh6 hw6).1
  have hp6 := @pc_le (prR f m h w r)
  have hm97 := (md_dom hmd).2
  intro uu
  induction uu with
  | zero =>
    intro i τ hi hI
    obtain rfl : pc (prR f m h w r) = i := by omega
    skip
    refine R_iload rfl rfl ?_
    refine R_aload_n rfl rfl ?_
    refine R_gIN (n := (pc (prR f m h w r))) rfl rfl fd_11_9 hI.2.1.1 ?_
    refine R_nicmp_ge (x := (pc (prR f m h w r))) (y := (pc (prR f m h w r))) rfl rfl (by omega) (by omega) (fun h1 => ?_) (fun z => by omega)
    exact hx τ hI
  | succ uu ih =>
    intro i τ hi hI
    have hs6 := (nb_sel hB64 (show i < pc (prR f m h w r) by omega)).2.2
    refine R_iload rfl rfl ?_
    refine R_aload_n rfl rfl ?_
    refine R_gIN (n := (pc (prR f m h w r))) rfl rfl fd_11_9 hI.2.1.1 ?_
    refine R_nicmp_ge (x := i) (y := (pc (prR f m h w r))) rfl rfl (by omega) (by omega) (fun z => by omega) (fun h1 => ?_)
    refine R_aload_n rfl rfl ?_
    refine R_gP (x := 124) rfl rfl fp_11_8 rfl ?_
    refine R_iload rfl rfl ?_
    refine R_xI (j := i) rfl rfl rfl (by omega) (by decide) ?_
    rw [hI.2.1.2 i (by omega)]
    refine R_istore rfl (by decide) ?_
    refine R_aload_n rfl rfl ?_
    refine R_gP (x := 124) rfl rfl fp_11_8 rfl ?_
    refine R_iload rfl rfl ?_
    refine R_iload_n rfl rfl ?_
    refine R_wI (j := i) rfl rfl rfl (by omega) (by decide) ?_
    refine R_aload_n rfl rfl ?_
    refine R_gP (x := 125) rfl rfl fp_11_10 rfl ?_
    refine R_iload rfl rfl ?_
    refine R_aload_n rfl rfl ?_
    refine R_iconst (v := 0) rfl rfl ?_
    refine R_iload rfl rfl ?_
    have hpk : pkV (sI τ 124 i (nI r)) (pc (prR f m h w r)) (fun j => if j = i then r else sel (prR f m h w r) j) := ⟨(sI_o (Or.inl (by decide))).trans hI.2.1.1, fun j hj => by
      by_cases e : j = i
      · subst e; dsimp only; rw [if_pos rfl]; exact sI_s
      · dsimp only; rw [if_neg e, sI_o (Or.inr e)]; exact hI.2.1.2 j hj⟩
    have hfr : smP pL σ (sI τ 124 i (nI r)) := hI.1.trans (smP_sI (Or.inr (Or.inl (Or.inr rfl))))
    refine R_cV (as := [.int (nI 0), .int (nI (prC f m (prR f m h w r) h w w))]) rfl rfl iv_M_determinant ((sp_det (pL_mV hfr hv) hs hpk pc_le (fun j hj => by split; exact hr; exact Nat.lt_trans (sel_lt_r hB2 (by omega) hj) hr) (pc (prR f m h w r)) 0 (prC f m (prR f m h w r) h w w) (by omega) hC1 hC2).room (d2 := 9) (by have := @pc_le (prR f m h w r); omega) (Nat.le_refl 0)) (by omega) rfl rfl rfl (by decide) rfl rfl (Nat.le_of_ble_eq_true rfl) (fun _ q => ?_)
    obtain rfl := q.symm
    refine R_lneg rfl ?_
    refine R_wL (j := (sel (prR f m h w r) i)) rfl rfl rfl (by omega) (by decide) ?_
    refine R_aload_n rfl rfl ?_
    refine R_gP (x := 124) rfl rfl fp_11_8 rfl ?_
    refine R_iload rfl rfl ?_
    refine R_iload rfl rfl ?_
    refine R_wI (j := i) rfl rfl rfl (by omega) (by decide) ?_
    refine R_iincN (x := i) (m := 1) rfl rfl rfl (by decide) ?_
    refine R_goto rfl rfl ?_
    have hse := nb_sel hB64 (show i < pc (prR f m h w r) by omega)
    refine (ih (i + 1) _ (by omega) ⟨((hI.1.trans (smP_sI (Or.inr (Or.inl (Or.inr rfl))))).trans (smP_sL (Or.inr (Or.inr rfl)))).trans (smP_sI (Or.inr (Or.inl (Or.inr rfl)))), ⟨?_, fun j hj => ?_⟩, fun k hk => ?_⟩).weak ⟨rfl, rfl, rfl, rfl, rfl, trivial⟩
    · rw [sI_o (Or.inl (by decide))]
      show (sI τ 124 i (nI r)).1 120 9 = _
      exact (sI_o (Or.inl (by decide))).trans hI.2.1.1
    · by_cases e : j = i
      · subst e; exact sI_s
      · rw [sI_o (Or.inr e)]
        show (sI τ 124 i (nI r)).1 124 j = _
        exact (sI_o (Or.inr e)).trans (hI.2.1.2 j hj)
    · rw [rwI_s hB64 (by omega) hk]
      by_cases e : k = sel (prR f m h w r) i
      · rw [if_pos e]
        subst e
        refine (sL_s (σ := sI τ 124 i (nI r))).trans ?_
        have hmi := rel_minor (f := f) (w := w) (B := (prR f m h w r)) (C := (prC f m (prR f m h w r) h w w)) (r := r) (t := i) hw6 (by omega) hB2 hC2 hC1 (by omega)
        unfold rwF r0G
        rw [if_pos ⟨rfl, Nat.lt_trans (sel_lt_r hB2 (by omega) (by omega)) hr, (tb_wi hB64 (by omega) hse.2.2).mpr (Or.inl hse.2.1)⟩, hmi]
        simp only [Nat.zero_add]
      · rw [if_neg e]
        exact (sL_o (σ := sI τ 124 i (nI r)) (Or.inr e)).trans (hI.2.2 k hk)
theorem xV_w {f : am_Gr} {m h w r : Nat} {σ : am_G} (hr : r < h) (hh : h ≤ 6) (hx : xV σ (rwI f m h w r (pc (prR f m h w r)))) : xV σ (rwF f m h w r) := fun k hk => (hx k hk).trans (rwI_n hr hh hk)
set_option maxRecDepth 100000 in
set_option maxHeartbeats 4000000 in
theorem en_lr0 {σ : am_G} {h w r : Nat} {f : am_Gr} {d k0 : Nat} (hv : mV σ h w f) (hs : fSm f h w) (hr : r < h) (hn : ¬ (prR f 0 h w h).testBit r = true) {τ : am_G} (hf2 : smP pL σ τ) (hx : xV τ (rwI f 0 h w r (pc (prR f 0 h w r)))) (hd : 3 ≤ d) : am_R am_TX d k0 c_M_layRelation 141 [some (.ref 120), some (.int (nI 0)), some (.int (nI r)), none, none, none, none, none] [] (mm τ) (am_Ok (some (.int (zP (¬ (prR f 0 h w h).testBit r = true)))) (fun σ1 => smP pL σ σ1 ∧ (¬ (prR f 0 h w h).testBit r = true → xV σ1 (fun k => rlG f 0 h w r 0 k)))) := by
  have hh1 := hv.1.1.1
  have hh6 := hv.1.1.2
  have hw1 := hv.1.2.1
  have hw6 := hv.1.2.2
  refine R_iload_n rfl rfl ?_
  refine R_nif_ne (x := 0) rfl rfl (by omega) (fun z => by omega) (fun h1 => ?_)
  refine R_aload_n rfl rfl ?_
  refine R_iload_n rfl rfl ?_
  refine R_cV (as := [.int (nI r)]) rfl rfl iv_M_simplify (sp_simplify (X := rwF f 0 h w r) (r := r) (xV_w hr hh6 hx) (by omega) (rl_0 (k := 0) hr hs hh6 hw6).1 (rl_0 (k := 0) hr hs hh6 hw6).2.1) (by omega) rfl rfl rfl (by decide) rfl rfl (Nat.le_of_ble_eq_true rfl) (fun ρ7 hρ7 => ?_)
  obtain ⟨q1, q2⟩ := hρ7
  refine R_goto rfl rfl ?_
  refine R_iconst (v := 1) rfl rfl ?_
  exact T_zreturn rfl rfl rfl (am_oki (zP_t hn).symm ⟨hf2.trans (q1.mono pL_X), fun _ k hk => by rw [q2 k hk]; exact (rl_0 hr hs hh6 hw6).2.2⟩)
set_option maxRecDepth 100000 in
set_option maxHeartbeats 4000000 in
theorem en_lr1 {σ : am_G} {h w m r : Nat} {f : am_Gr} {d k0 : Nat} (hv : mV σ h w f) (hs : fSm f h w) (hp : m ∈ prL) (hr : r < h) (hn : ¬ (prR f m h w h).testBit r = true) {τ : am_G} (hf2 : smP pL σ τ) (hx : xV τ (rwI f m h w r (pc (prR f m h w r)))) (hd : 3 ≤ d) : am_R am_TX d k0 c_M_layRelation 141 [some (.ref 120), some (.int (nI m)), some (.int (nI r)), none, none, none, none, none] [] (mm τ) (am_Ok (some (.int (zP (¬ (prR f m h w h).testBit r = true)))) (fun σ1 => smP pL σ σ1 ∧ (¬ (prR f m h w h).testBit r = true → xV σ1 (fun k => rlG f m h w r 0 k)))) := by
  have hh1 := hv.1.1.1
  have hh6 := hv.1.1.2
  have hw1 := hv.1.2.1
  have hw6 := hv.1.2.2
  have hb := prL_le m hp
  refine R_iload_n rfl rfl ?_
  refine R_nif_ne (x := m) rfl rfl (by omega) (fun h1 => ?_) (fun z => by omega)
  refine R_aload_n rfl rfl ?_
  refine R_iload_n rfl rfl ?_
  refine R_iload_n rfl rfl ?_
  refine R_cV (as := [.int (nI m), .int (nI r)]) rfl rfl iv_M_reduceAll (sp_reduceAll (X := rwF f m h w r) (r := r) (m := m) (xV_w hr hh6 hx) (by omega) hp (rl_p (k := 0) hp hr hs hh6 hw6).1 (rl_p (k := 0) hp hr hs hh6 hw6).2.1) (by omega) rfl rfl rfl (by decide) rfl rfl (Nat.le_of_ble_eq_true rfl) (fun ρ7 hρ7 => ?_)
  obtain ⟨q1, q2⟩ := hρ7
  refine R_iconst (v := 1) rfl rfl ?_
  exact T_zreturn rfl rfl rfl (am_oki (zP_t hn).symm ⟨hf2.trans (q1.mono pL_X), fun _ k hk => by rw [q2 k hk]; exact (rl_p hp hr hs hh6 hw6).2.2⟩)
set_option maxRecDepth 100000 in
set_option maxHeartbeats 4000000 in
theorem sp_layRelation {σ : am_G} {h w m r : Nat} {f : am_Gr} (hv : mV σ h w f) (hs : fSm f h w) (hmd : m ∈ mdL) (hr : r < h) : am_Call am_TX 11 0 c_M_layRelation [.ref 120, .int (nI m), .int (nI r)] (mm σ) (am_Ok (some (.int (zP (¬ (prR f m h w h).testBit r = true)))) (fun σ1 => smP pL σ σ1 ∧ (¬ (prR f m h w h).testBit r = true → xV σ1 (fun k => rlG f m h w r 0 k)))) := by
  have hh1 := hv.1.1.1
  have hh6 := hv.1.1.2
  have hw1 := hv.1.2.1
  have hw6 := hv.1.2.2
  have hB2 := prR_lt2 (f := f) (m := m) (h := h) (w := w) r
  have hB64 := p2_64 hB2 (show r ≤ 6 by omega)
  have hC2 := prC_lt2 (f := f) (m := m) (S := (prR f m h w r)) (h := h) (w := w) w
  have hC1 := (prof_ne (r := r) (by omega) (md_dom hmd).1 (md_dom hmd).2 hs hh6 hw6).1
  have hp6 := @pc_le (prR f m h w r)
  have hm97 := (md_dom hmd).2
  have hP64 := prR_lt (f := f) (m := m) (h := h) (w := w) h hh6
  have hBh : prR f m h w r < 2 ^ h := Nat.lt_of_lt_of_le hB2 (Nat.pow_le_pow_right (n := 2) (by omega) (by omega))
  refine ⟨mf_M_layRelation, Nat.le_of_ble_eq_true rfl, ?_⟩
  refine R_aload_n rfl rfl ?_
  refine R_iload_n rfl rfl ?_
  refine R_aload_n rfl rfl ?_
  refine R_cV (as := []) rfl rfl iv_M_allColumns (sp_mallColumns hv) (by decide) rfl rfl rfl (by decide) rfl rfl (Nat.le_of_ble_eq_true rfl) (fun _ q => ?_)
  obtain rfl := q.symm
  refine R_cV (as := [.int (nI m), .int (nI (2 ^ w - 1))]) rfl rfl iv_M_profileOfRows (sp_mprofileOfRows (m := m) hv hs (md_dom hmd).1 (md_dom hmd).2) (by decide) rfl rfl rfl (by decide) rfl rfl (Nat.le_of_ble_eq_true rfl) (fun σ2 hσ2 => ?_)
  refine R_istore_n rfl (by decide) ?_
  refine R_iload_n rfl rfl ?_
  refine R_iload_n rfl rfl ?_
  refine R_cS (as := [.int (nI (prR f m h w h)), .int (nI r)]) rfl rfl iv_M_has (sp_mhas (s := (prR f m h w h)) (k := r) (by first | assumption | exact lw_lt (by omega) | exact wi_lt (by first | assumption | omega) (by omega) | exact wo_lt (by first | assumption | omega) (by omega) | omega) (by omega)) (by decide) rfl rfl rfl rfl (Nat.le_of_ble_eq_true rfl) (fun _ q => ?_)
  obtain rfl := q.symm
  refine R_zif_eq rfl rfl (fun h1 => ?_) (fun h1 => ?_)
  · refine R_iload_n rfl rfl ?_
    refine R_iconst (v := 1) rfl rfl ?_
    refine R_iload_n rfl rfl ?_
    refine R_shl1N (y := r) rfl (by omega) ?_
    refine R_iconst (v := 1) rfl rfl ?_
    refine R_isubN (x := (2 ^ r)) (y := 1) rfl (Nat.pos_of_ne_zero (by simp)) ?_
    refine R_iand rfl ?_
    rw [prR_and hh6 (by omega)]
    refine R_istore rfl (by decide) ?_
    refine R_aload_n rfl rfl ?_
    refine R_iload_n rfl rfl ?_
    refine R_iload rfl rfl ?_
    refine R_cV (as := [.int (nI m), .int (nI (prR f m h w r))]) rfl rfl iv_M_profileOfColumns (sp_mprofileOfColumns (m := m) (S := (prR f m h w r)) ((hσ2.mono (q := pL) pL_W).mV hv (fun b => by unfold pL pW pK; omega) (fun b => by unfold pL pW pK; omega) (by unfold pL pW pK; omega)) hs (md_dom hmd).1 (md_dom hmd).2 hB64) (by decide) rfl rfl rfl (by decide) rfl rfl (Nat.le_of_ble_eq_true rfl) (fun σ5 hσ5 => ?_)
    refine R_istore rfl (by decide) ?_
    refine R_iconst (v := 0) rfl rfl ?_
    refine R_istore rfl (by decide) ?_
    refine ((lp_lrz (fun τ1 hτ1 => ?_) 6 0 _ (by omega) ⟨smP.refl, fun k hk => absurd hk (Nat.not_lt_zero k)⟩).weak ⟨rfl, rfl, rfl, rfl, rfl, rfl, rfl, trivial⟩)
    refine R_aload_n rfl rfl ?_
    refine R_gP (x := 125) rfl rfl fp_11_10 rfl ?_
    refine R_iload_n rfl rfl ?_
    refine R_aload_n rfl rfl ?_
    refine R_iload rfl rfl ?_
    refine R_iload rfl rfl ?_
    refine R_cV (as := [.int (nI (prR f m h w r)), .int (nI (prC f m (prR f m h w r) h w w))]) rfl rfl iv_M_minorOf (sp_mminorOf (S := (prR f m h w r)) (s := (prC f m (prR f m h w r) h w w)) (pL_mV (((hσ2.mono (q := pL) pL_W).trans (hσ5.mono (q := pL) pL_W)).trans (hτ1.1.mono pL_X)) hv) hs hBh hC2 hC1) (by decide) rfl rfl rfl (by decide) rfl rfl (Nat.le_of_ble_eq_true rfl) (fun ρ5 hρ5 => ?_)
    refine R_wL (j := r) rfl rfl rfl (by omega) (by decide) ?_
    refine R_aload_n rfl rfl ?_
    refine R_iload rfl rfl ?_
    refine R_cV (as := [.int (nI (prR f m h w r))]) rfl rfl iv_M_pick (sp_pick (S := (prR f m h w r)) hB64) (by decide) rfl rfl rfl (by decide) rfl rfl (Nat.le_of_ble_eq_true rfl) (fun ρ6 hρ6 => ?_)
    obtain ⟨q61, q62⟩ := hρ6
    refine R_iconst (v := 0) rfl rfl ?_
    refine R_istore rfl (by decide) ?_
    refine ((lp_lr hv hs hmd hr (by omega) (fun τ2 hτ2 => ?_) (pc (prR f m h w r)) 0 _ (by omega) ⟨((((((hσ2.mono (q := pL) pL_W).trans (hσ5.mono (q := pL) pL_W)).trans (hτ1.1.mono pL_X)).trans (hρ5.mono pL_K)).trans (smP_sL (p := pL) (Or.inr (Or.inr rfl)))).trans (q61.mono pL_K)), q62, fun k hk => by
      rw [q61.l (by unfold pK; omega)]
      have hz5 : ∀ k, k < 6 → ρ5.2.1 125 k = 0 := fun k hk => by rw [hρ5.l (by unfold pK; omega)]; exact hτ1.2 k hk
      unfold rwI
      by_cases e : k = r
      · subst e
        rw [if_pos (Or.inl rfl)]
        exact sL_s.trans (r0G_ok hr (md_dom hmd).1 (md_dom hmd).2 hs hh6 hw6).2.2.1.symm
      · rw [if_neg (by omega), sL_o (Or.inr e)]
        exact hz5 k hk⟩).weak ⟨rfl, rfl, rfl, rfl, rfl, trivial⟩)
    rcases List.mem_cons.mp hmd with e | e
    · subst e
      exact (en_lr0 hv hs hr h1 hτ2.1 hτ2.2.2 (by omega)).weak ⟨rfl, rfl, rfl, trivial⟩
    · exact (en_lr1 hv hs e hr h1 hτ2.1 hτ2.2.2 (by omega)).weak ⟨rfl, rfl, rfl, trivial⟩
  · refine R_iconst (v := 0) rfl rfl ?_
    exact T_zreturn rfl rfl rfl (am_oki (zP_f (fun z => z h1)).symm ⟨(hσ2.mono (q := pL) pL_W), fun z => absurd h1 z⟩)
