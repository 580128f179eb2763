/-! ===== the law's primes ===== -/
section LPR
variable {h w rh pn : Nat} {f v rl : am_Gr} {I : Nat → Int32} {ρ : am_Y} {P : Nat → Nat}
def unl (f : am_Gr) (h w p : Nat) : Prop := rkO f p (2 ^ h - 1) (2 ^ w - 1) h w < rkO f 0 (2 ^ h - 1) (2 ^ w - 1) h w
theorem nuF_n : ∀ u t, (∀ p, t ≤ p → p < t + u → p ∈ prL → ¬ unl f h w p) → nuF f h w u t = -1
  | 0, _, _ => rfl
  | u + 1, t, hn => by
    simp only [nuF]
    rw [if_neg (fun z => hn t (Nat.le_refl t) (by omega) z.1 z.2)]
    exact nuF_n u (t + 1) (fun p h1 h2 => hn p (by omega) (by omega))
theorem nuF_s {p : Nat} (hp : p ∈ prL) (hu : unl f h w p) : ∀ u t, t ≤ p → p < t + u → (∀ p', t ≤ p' → p' < p → p' ∈ prL → ¬ unl f h w p') → nuF f h w u t = nI p
  | 0, t, h1, h2, _ => by omega
  | u + 1, t, h1, h2, hn => by
    simp only [nuF]
    by_cases e : t = p
    · subst e
      rw [if_pos ⟨hp, hu⟩]
    · rw [if_neg (fun z => hn t (Nat.le_refl t) (by omega) z.1 z.2)]
      exact nuF_s hp hu u (t + 1) (by omega) (by omega) (fun p' h3 h4 => hn p' (by omega) h4)
theorem prL_ix : ∀ p ∈ prL, ∃ j, j < 25 ∧ prL.getD j 0 = p := by decide +kernel
theorem prL_up : ∀ j, j < 25 → ∀ i, i < 25 → (prL.getD i 0 < prL.getD j 0 → i < j) := by decide +kernel
theorem prL_rg : ∀ j, j < 25 → prL.getD j 0 ∈ prL ∧ 2 ≤ prL.getD j 0 ∧ prL.getD j 0 ≤ 97 := by decide +kernel
/-- the first unlucky prime from fr on among the first i -/
def fdP1 (f : am_Gr) (h w fr i : Nat) (x : Int32) : Prop := (x = -1 ∧ ∀ j, j < i → fr ≤ prL.getD j 0 → ¬ unl f h w (prL.getD j 0)) ∨ ∃ j, j < i ∧ x = nI (prL.getD j 0) ∧ fr ≤ prL.getD j 0 ∧ unl f h w (prL.getD j 0) ∧ ∀ j', j' < j → fr ≤ prL.getD j' 0 → ¬ unl f h w (prL.getD j' 0)
theorem fdP1_e {fr : Nat} (hfr : 2 ≤ fr ∧ fr ≤ 97) {x : Int32} (hx : fdP1 f h w fr 25 x) : nuF f h w (98 - fr) fr = x := by
  rcases hx with ⟨rfl, hn⟩ | ⟨j, hj, rfl, h1, h2, h3⟩
  · refine nuF_n _ _ (fun p p1 p2 p3 => ?_)
    obtain ⟨j, hj, rfl⟩ := prL_ix p p3
    exact hn j hj p1
  · obtain ⟨r1, r2, r3⟩ := prL_rg j hj
    refine nuF_s r1 h2 _ _ h1 (by omega) (fun p p1 p2 p3 => ?_)
    obtain ⟨i, hi, rfl⟩ := prL_ix p p3
    exact h3 i (prL_up j hj i hi p2) p1
theorem lp_pr2 {fr D s : Nat} (hfr : 2 ≤ fr ∧ fr ≤ 97) (hD : 9 ≤ D) (hs : s = ulF f h w P pn) (hP : prP pn I P) {σ : am_G} (hv : vS σ 26 h w f v rh rl pn I) :
    ∀ u i x p τ, i + u = 25 → fdP1 f h w fr i x → smP (plc 17 26) σ τ → am_R am_TX D 0 c_L_primes 61 [some (.ref 0), some (.int (nI fr)), some (.int (nI s)), some (.int x), some (.ref 4001), some (.int (nI 25)), some (.int (nI i)), p] [] (ml τ ρ) (am_Oy (some (.int 1)) (fun σ1 ρ1 => ρ1 = ρ ∧ smP (plc 17 26) σ σ1)) := by
  have hh := hv.1.1.2
  intro u
  induction u with
  | zero =>
    intro i x p τ hi hx q
    obtain rfl : i = 25 := by omega
    refine R_iload rfl rfl ?_
    refine R_iload rfl rfl ?_
    refine R_nicmp_ge (x := 25) (y := 25) rfl rfl (by decide) (by decide) (fun _ => ?_) (fun z => absurd (Nat.le_refl 25) z)
    refine R_aload_n rfl rfl ?_
    refine R_qV (as := []) rfl rfl iv_D_unlucky (sp_D_unlucky (vS_q q hv) hP) (fun _ z => sm_lo z) (by omega) rfl rfl rfl rfl (Nat.le_of_ble_eq_true rfl) (fun τ1 q1 => ?_)
    have q1 := q.trans q1
    rw [← hs]
    refine R_iload_n rfl rfl ?_
    refine R_icmp_ne rfl rfl (fun z => absurd rfl z) (fun _ => ?_)
    refine R_aload_n rfl rfl ?_
    refine R_iload_n rfl rfl ?_
    refine R_qV (as := [.int (nI fr)]) rfl rfl iv_D_nextUnlucky (sp_D_nextUnlucky (vS_q q1 hv) hfr) (fun _ z => sm_lo z) (by omega) rfl rfl rfl rfl (Nat.le_of_ble_eq_true rfl) (fun τ2 q2 => ?_)
    have q2 := q1.trans q2
    rw [fdP1_e hfr hx]
    refine R_iload_n rfl rfl ?_
    refine R_icmp_ne rfl rfl (fun z => absurd rfl z) (fun _ => ?_)
    refine R_iconst (v := 1) rfl rfl ?_
    refine R_goto rfl rfl ?_
    exact T_zreturn rfl rfl rfl ⟨_, _, rfl, rfl, q2⟩
  | succ u ih =>
    intro i x p τ hi hx q
    have hi25 : i < 25 := by omega
    obtain ⟨r1, r2, r3⟩ := prL_rg i hi25
    have m6 := @rkO_6 f (prL.getD i 0) (2 ^ h - 1) (2 ^ w - 1) h w hh
    have m7 := @rkO_6 f 0 (2 ^ h - 1) (2 ^ w - 1) h w hh
    have next : ∀ τ y, smP (plc 17 26) σ τ → fdP1 f h w fr (i + 1) y → am_R am_TX D 0 c_L_primes 105 [some (.ref 0), some (.int (nI fr)), some (.int (nI s)), some (.int x), some (.ref 4001), some (.int (nI 25)), some (.int (nI i)), some (.int (nI (prL.getD i 0)))] [.int y] (ml τ ρ) (am_Oy (some (.int 1)) (fun σ1 ρ1 => ρ1 = ρ ∧ smP (plc 17 26) σ σ1)) := by
      intro τ y q hy
      refine R_istore_n rfl (by decide) ?_
      refine R_iincN (x := i) (m := 1) rfl rfl rfl (by decide) ?_
      refine R_goto rfl rfl ?_
      exact ih (i + 1) y _ τ (by omega) hy q
    have keep : ∀ τ, smP (plc 17 26) σ τ → (x = -1 → fr ≤ prL.getD i 0 → ¬ unl f h w (prL.getD i 0)) → am_R am_TX D 0 c_L_primes 104 [some (.ref 0), some (.int (nI fr)), some (.int (nI s)), some (.int x), some (.ref 4001), some (.int (nI 25)), some (.int (nI i)), some (.int (nI (prL.getD i 0)))] [] (ml τ ρ) (am_Oy (some (.int 1)) (fun σ1 ρ1 => ρ1 = ρ ∧ smP (plc 17 26) σ σ1)) := by
      intro τ q hk
      refine R_iload_n rfl rfl ?_
      refine next τ x q ?_
      rcases hx with ⟨e, hn⟩ | ⟨j, hj, h1⟩
      · refine Or.inl ⟨e, fun j hj hf => ?_⟩
        by_cases c : j = i
        · subst c; exact hk e hf
        · exact hn j (by omega) hf
      · exact Or.inr ⟨j, by omega, h1⟩
    refine R_iload rfl rfl ?_
    refine R_iload rfl rfl ?_
    refine R_nicmp_ge (x := i) (y := 25) rfl rfl (by omega) (by decide) (fun z => by omega) (fun _ => ?_)
    refine R_aload rfl rfl ?_
    refine R_iload rfl rfl ?_
    refine R_pld (j := i) rfl rfl hi25 ?_
    rw [(prT_prL i hi25).1]
    refine R_istore rfl (by decide) ?_
    refine R_iload_n rfl rfl ?_
    refine R_if_ge rfl rfl (fun z => ?_) (fun z => ?_)
    · exact keep τ q (fun e => by rw [e] at z; exact absurd z (by decide))
    · have hx1 : x = -1 := by
        rcases hx with ⟨e, -⟩ | ⟨j, hj, e, -⟩
        · exact e
        · have := prL_rg j (by omega)
          rw [e] at z
          exact absurd (nI_pos' (by omega)) z
      refine R_iload rfl rfl ?_
      refine R_iload_n rfl rfl ?_
      refine R_nicmp_lt (x := prL.getD i 0) (y := fr) rfl rfl (by omega) (by omega) (fun z2 => ?_) (fun z2 => ?_)
      · exact keep τ q (fun _ y => by omega)
      · refine R_aload_n rfl rfl ?_
        refine R_iload rfl rfl ?_
        refine R_qV (as := [.int (nI (prL.getD i 0))]) rfl rfl iv_D_rank (sp_D_rank (vS_q q hv) (List.mem_cons_of_mem _ r1)) (fun _ z => sm_lo z) (by omega) rfl rfl rfl rfl (Nat.le_of_ble_eq_true rfl) (fun τ1 q1 => ?_)
        have q1 := q.trans q1
        refine R_aload_n rfl rfl ?_
        refine R_iconst (v := 0) rfl rfl ?_
        refine R_qV (as := [.int (nI 0)]) rfl rfl iv_D_rank (sp_D_rank (vS_q q1 hv) List.mem_cons_self) (fun _ z => sm_lo z) (by omega) rfl rfl rfl rfl (Nat.le_of_ble_eq_true rfl) (fun τ2 q2 => ?_)
        have q2 := q1.trans q2
        refine R_nicmp_ge (x := rkO f (prL.getD i 0) (2 ^ h - 1) (2 ^ w - 1) h w) (y := rkO f 0 (2 ^ h - 1) (2 ^ w - 1) h w) rfl rfl (by omega) (by omega) (fun z3 => ?_) (fun z3 => ?_)
        · exact keep τ2 q2 (fun _ _ y => by unfold unl at y; omega)
        · refine R_iload rfl rfl ?_
          refine R_goto rfl rfl ?_
          refine next τ2 _ q2 (Or.inr ⟨i, by omega, rfl, by omega, by unfold unl; omega, fun j' hj' hf => ?_⟩)
          rcases hx with ⟨-, hn⟩ | ⟨j, hj, e, -⟩
          · exact hn j' hj' hf
          · have := prL_rg j (by omega)
            exact absurd (e.symm.trans hx1) (nI_m1 (by omega))
theorem lp_pr1 {fr D : Nat} (hfr : 2 ≤ fr ∧ fr ≤ 97) (hD : 9 ≤ D) (hP : prP pn I P) {σ : am_G} (hv : vS σ 26 h w f v rh rl pn I) :
    ∀ u i τ, i + u = pn → smP (plc 17 26) σ τ → am_R am_TX D 0 c_L_primes 4 [some (.ref 0), some (.int (nI fr)), some (.int (nI (ulF f h w P i))), some (.int (nI i)), none, none, none, none] [] (ml τ ρ) (am_Oy (some (.int 1)) (fun σ1 ρ1 => ρ1 = ρ ∧ smP (plc 17 26) σ σ1)) := by
  have hh := hv.1.1.2
  have hp6 : pn ≤ 6 := hv.2.2.2.1.2
  intro u
  induction u with
  | zero =>
    intro i τ hi q
    obtain rfl : i = pn := by omega
    refine R_iload_n rfl rfl ?_
    refine R_aload_n rfl rfl ?_
    refine R_iconst (v := 2) rfl rfl ?_
    refine R_qV (as := [.int 2]) rfl rfl iv_D_count (sp_D_count_2 (vS_q q hv)) (fun _ z => sm_lo z) (by omega) rfl rfl rfl rfl (Nat.le_of_ble_eq_true rfl) (fun τ1 q1 => ?_)
    have q1 := q.trans q1
    refine R_nicmp_ge (x := i) (y := i) rfl rfl (by omega) (by omega) (fun _ => ?_) (fun z => absurd (Nat.le_refl i) z)
    refine R_iconst (v := -1) rfl rfl ?_
    refine R_istore_n rfl (by decide) ?_
    refine R_gsP rfl (by decide +kernel) jf_prm ?_
    refine R_astore rfl (by decide) ?_
    refine R_aload rfl rfl ?_
    refine R_pln rfl ?_
    refine R_istore rfl (by decide) ?_
    refine R_iconst (v := 0) rfl rfl ?_
    refine R_istore rfl (by decide) ?_
    exact lp_pr2 hfr hD rfl hP hv 25 0 (-1) none τ1 rfl (Or.inl ⟨rfl, fun j hj => absurd hj (Nat.not_lt_zero j)⟩) q1
  | succ u ih =>
    intro i τ hi q
    have hP1 := hP i (by omega)
    have s6 : ulF f h w P i < 64 := ulF_lt i (by omega)
    have m6 := @rkO_6 f (P i) (2 ^ h - 1) (2 ^ w - 1) h w hh
    have m7 := @rkO_6 f 0 (2 ^ h - 1) (2 ^ w - 1) h w hh
    refine R_iload_n rfl rfl ?_
    refine R_aload_n rfl rfl ?_
    refine R_iconst (v := 2) rfl rfl ?_
    refine R_qV (as := [.int 2]) rfl rfl iv_D_count (sp_D_count_2 (vS_q q hv)) (fun _ z => sm_lo z) (by omega) rfl rfl rfl rfl (Nat.le_of_ble_eq_true rfl) (fun τ1 q1 => ?_)
    have q1 := q.trans q1
    refine R_nicmp_ge (x := i) (y := pn) rfl rfl (by omega) (by omega) (fun z => by omega) (fun _ => ?_)
    refine R_iload_n rfl rfl ?_
    refine R_aload_n rfl rfl ?_
    refine R_aload_n rfl rfl ?_
    refine R_iload_n rfl rfl ?_
    refine R_qV (as := [.int (nI i)]) rfl rfl iv_D_prime (sp_D_prime (p := i) (vS_q q1 hv) (by omega)) (fun _ z => sm_lo z) (by omega) rfl rfl rfl rfl (Nat.le_of_ble_eq_true rfl) (fun τ2 q2 => ?_)
    have q2 := q1.trans q2
    rw [hP1.1]
    refine R_qV (as := [.int (nI (P i))]) rfl rfl iv_D_rank (sp_D_rank (vS_q q2 hv) (List.mem_cons_of_mem _ hP1.2)) (fun _ z => sm_lo z) (by omega) rfl rfl rfl rfl (Nat.le_of_ble_eq_true rfl) (fun τ3 q3 => ?_)
    have q3 := q2.trans q3
    refine R_aload_n rfl rfl ?_
    refine R_iconst (v := 0) rfl rfl ?_
    refine R_qV (as := [.int (nI 0)]) rfl rfl iv_D_rank (sp_D_rank (vS_q q3 hv) List.mem_cons_self) (fun _ z => sm_lo z) (by omega) rfl rfl rfl rfl (Nat.le_of_ble_eq_true rfl) (fun τ4 q4 => ?_)
    have q4 := q3.trans q4
    refine R_nicmp_ge (x := rkO f (P i) (2 ^ h - 1) (2 ^ w - 1) h w) (y := rkO f 0 (2 ^ h - 1) (2 ^ w - 1) h w) rfl rfl (by omega) (by omega) (fun z => ?_) (fun z => ?_)
    · refine R_iconst (v := 0) rfl rfl ?_
      refine R_ior rfl ?_
      rw [Int32.or_zero]
      refine R_istore_n rfl (by decide) ?_
      refine R_iincN (x := i) (m := 1) rfl rfl rfl (by decide) ?_
      refine R_goto rfl rfl ?_
      have g := ih (i + 1) τ4 (by omega) q4
      rw [show ulF f h w P (i + 1) = ulF f h w P i from if_neg (by omega)] at g
      exact g
    · refine R_iconst (v := 1) rfl rfl ?_
      refine R_iload_n rfl rfl ?_
      refine R_shl1N (y := i) rfl (by omega) ?_
      refine R_goto rfl rfl ?_
      refine R_iorB (s := ulF f h w P i) (y := i) rfl s6 (by omega) ?_
      refine R_istore_n rfl (by decide) ?_
      refine R_iincN (x := i) (m := 1) rfl rfl rfl (by decide) ?_
      refine R_goto rfl rfl ?_
      have g := ih (i + 1) τ4 (by omega) q4
      rw [show ulF f h w P (i + 1) = wi (ulF f h w P i) i from if_pos (by omega)] at g
      exact g
theorem pl_primes {fr : Nat} (hfr : 2 ≤ fr ∧ fr ≤ 97) (hP : prP pn I P) {σ : am_G} (hv : vS σ 26 h w f v rh rl pn I) : am_Call am_TX 9 0 c_L_primes [.ref 0, .int (nI fr)] (ml σ ρ) (am_Oy (some (.int 1)) (fun σ1 ρ1 => ρ1 = ρ ∧ smP (plc 17 26) σ σ1)) := by
  refine ⟨mf_L_primes, Nat.le_of_ble_eq_true rfl, ?_⟩
  refine R_iconst (v := 0) rfl rfl ?_
  refine R_istore_n rfl (by decide) ?_
  refine R_iconst (v := 0) rfl rfl ?_
  refine R_istore_n rfl (by decide) ?_
  exact lp_pr1 hfr (by decide) hP hv pn 0 σ (by omega) smP.refl
end LPR
