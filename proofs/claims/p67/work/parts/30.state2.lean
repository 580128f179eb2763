set_option maxRecDepth 100000 in
set_option maxHeartbeats 4000000 in
theorem sp_primeAt {σ : am_G} {s p : Nat} (hS : isState s) (hp : p < 6) : am_Call am_TX 0 0 c_State_primeAt [.ref s, .int (nI p)] (mm σ) (am_Ok (some (.int (σ.1 (s + 9) p))) (fun σ1 => σ1 = σ)) := by
  refine ⟨mf_State_primeAt, Nat.le_of_ble_eq_true rfl, ?_⟩
  refine R_iload_n rfl rfl ?_
  refine R_nif_lt (x := p) rfl rfl (by omega) (fun z => by omega) (fun h1 => ?_)
  refine R_iload_n rfl rfl ?_
  refine R_aload_n rfl rfl ?_
  refine R_gP (x := (s + 9)) rfl hS.1 fp_9_6 ((am_P_3 (by decide)).trans hS.2.2.2.2.2.2.2.2.2.2.1) ?_
  refine R_aln (v := 6) rfl hS.2.2.2.2.2.2.1 (by decide) (by decide) ?_
  refine R_nicmp_ge (x := p) (y := 6) rfl rfl (by omega) (by omega) (fun z => by omega) (fun h2 => ?_)
  refine R_aload_n rfl rfl ?_
  refine R_gP (x := (s + 9)) rfl hS.1 fp_9_6 ((am_P_3 (by decide)).trans hS.2.2.2.2.2.2.2.2.2.2.1) ?_
  refine R_iload_n rfl rfl ?_
  refine R_xI (j := p) rfl hS.2.2.2.2.2.2.1 rfl (by omega) (by decide) ?_
  refine R_goto rfl rfl ?_
  exact T_ireturn rfl rfl (am_oki rfl rfl)
set_option maxRecDepth 100000 in
set_option maxHeartbeats 4000000 in
theorem lp_hasPrime {σ : am_G} {s pn : Nat} {x : Int32} {d k0 : Nat} (hS : isState s) (hp : σ.1 s 3 = nI pn) (hp6 : pn ≤ 6) (hd : 1 ≤ d)  : ∀ (uu i : Nat) (τ : am_G), i + uu = pn → (τ = σ ∧ ∀ j, j < i → ¬ σ.1 (s + 9) j = x) → am_R am_TX d k0 c_State_hasPrime 2 [some (.ref s), some (.int x), some (.int (nI i))] [] (mm τ) (am_Ok (some (.int (zP (∃ j, j < pn ∧ σ.1 (s + 9) j = x)))) (fun σ1 => σ1 = σ)) := by
  intro uu
  induction uu with
  | zero =>
    intro i τ hi hI
    obtain rfl : pn = i := by omega
    refine R_iload_n rfl rfl ?_
    refine R_aload_n rfl rfl ?_
    refine R_gIN (n := pn) rfl hS.1 fd_9_3 (by rw [hI.1]; exact hp) ?_
    refine R_nicmp_ge (x := pn) (y := pn) rfl rfl (by omega) (by omega) (fun h1 => ?_) (fun z => by omega)
    refine R_iconst (v := 0) rfl rfl ?_
    exact T_zreturn rfl rfl rfl (am_oki ((zP_f (fun ⟨j, hj, q⟩ => hI.2 j hj q)).symm) hI.1)
  | succ uu ih =>
    intro i τ hi hI
    refine R_iload_n rfl rfl ?_
    refine R_aload_n rfl rfl ?_
    refine R_gIN (n := pn) rfl hS.1 fd_9_3 (by rw [hI.1]; exact hp) ?_
    refine R_nicmp_ge (x := i) (y := pn) rfl rfl (by omega) (by omega) (fun z => by omega) (fun h1 => ?_)
    refine R_aload_n rfl rfl ?_
    refine R_iload_n rfl rfl ?_
    refine R_cV (as := [.int (nI i)]) rfl rfl iv_State_primeAt (sp_primeAt (p := i) hS (by omega)) (by omega) rfl rfl hS.1 (by decide) rfl rfl (Nat.le_of_ble_eq_true rfl) (fun _ q => ?_)
    obtain rfl := q.symm
    refine R_iload_n rfl rfl ?_
    refine R_icmp_ne rfl rfl (fun h2 => ?_) (fun h2 => ?_)
    · refine R_iincN (x := i) (m := 1) rfl rfl rfl (by decide) ?_
      refine R_goto rfl rfl ?_
      refine (ih (i + 1) τ (by omega) ⟨hI.1, fun c hc => ?_⟩).weak ⟨rfl, rfl, rfl, trivial⟩
      by_cases e : c = i
      · subst e; rw [← hI.1]; exact h2
      · exact hI.2 c (by omega)
    · refine R_iconst (v := 1) rfl rfl ?_
      exact T_zreturn rfl rfl rfl (am_oki ((zP_t ⟨i, by omega, by rw [← hI.1]; first | exact h2 | exact Classical.not_not.mp h2⟩).symm) hI.1)
set_option maxRecDepth 100000 in
set_option maxHeartbeats 4000000 in
theorem sp_hasPrime {σ : am_G} {s pn : Nat} {x : Int32} (hS : isState s) (hp : σ.1 s 3 = nI pn) (hp6 : pn ≤ 6) : am_Call am_TX 1 0 c_State_hasPrime [.ref s, .int x] (mm σ) (am_Ok (some (.int (zP (∃ j, j < pn ∧ σ.1 (s + 9) j = x)))) (fun σ1 => σ1 = σ)) := by
  refine ⟨mf_State_hasPrime, Nat.le_of_ble_eq_true rfl, ?_⟩
  refine R_iconst (v := 0) rfl rfl ?_
  refine R_istore_n rfl (by decide) ?_
  exact (lp_hasPrime hS hp hp6 (by omega) pn 0 σ (by omega) ⟨rfl, fun c hc => absurd hc (by omega)⟩).weak ⟨rfl, rfl, rfl, trivial⟩
set_option maxRecDepth 100000 in
set_option maxHeartbeats 4000000 in
theorem sp_addPrime {σ : am_G} {s pn : Nat} {x : Int32} (hS : isState s) (hp : σ.1 s 3 = nI pn) (hp6 : pn < 6) : am_Call am_TX 0 0 c_State_addPrime [.ref s, .int x] (mm σ) (am_Ok none (fun σ1 => σ1 = sI (sI σ (s + 9) pn x) s 3 (nI (pn + 1)))) := by
  refine ⟨mf_State_addPrime, Nat.le_of_ble_eq_true rfl, ?_⟩
  refine R_aload_n rfl rfl ?_
  refine R_gIN (n := pn) rfl hS.1 fd_9_3 hp ?_
  refine R_nif_lt (x := pn) rfl rfl (by omega) (fun z => by omega) (fun h1 => ?_)
  refine R_aload_n rfl rfl ?_
  refine R_gIN (n := pn) rfl hS.1 fd_9_3 hp ?_
  refine R_aload_n rfl rfl ?_
  refine R_gP (x := (s + 9)) rfl hS.1 fp_9_6 ((am_P_3 (by decide)).trans hS.2.2.2.2.2.2.2.2.2.2.1) ?_
  refine R_aln (v := 6) rfl hS.2.2.2.2.2.2.1 (by decide) (by decide) ?_
  refine R_nicmp_ge (x := pn) (y := 6) rfl rfl (by omega) (by omega) (fun z => by omega) (fun h2 => ?_)
  refine R_aload_n rfl rfl ?_
  refine R_gP (x := (s + 9)) rfl hS.1 fp_9_6 ((am_P_3 (by decide)).trans hS.2.2.2.2.2.2.2.2.2.2.1) ?_
  refine R_aload_n rfl rfl ?_
  refine R_gIN (n := pn) rfl hS.1 fd_9_3 hp ?_
  refine R_iload_n rfl rfl ?_
  refine R_wI (j := pn) rfl hS.2.2.2.2.2.2.1 rfl (by omega) (by decide) ?_
  refine R_aload_n rfl rfl ?_
  refine R_dup rfl rfl ?_
  refine R_gIN (n := pn) rfl hS.1 fd_9_3 ((sI_o (Or.inl (by omega))).trans hp) ?_
  refine R_iconst (v := 1) rfl rfl ?_
  refine R_iaddN (x := pn) (y := 1) rfl ?_
  refine R_pI rfl hS.1 fw_9_3 rfl ?_
  exact T_return rfl rfl (am_okv0 rfl)
/-- what a state says after reset: the primes stay -/
def rsI (q : Nat → Int32) : Nat → Int32 := fun k => if k < 2 then 0 else if k < 8 then -1 else q (k - 8)
set_option maxRecDepth 100000 in
set_option maxHeartbeats 4000000 in
theorem sp_State_reset0 {σ : am_G} {s h w : Nat} (hS : isState s) : am_Call am_TX 2 0 c_State_reset [.ref s, .int (nI h), .int (nI w)] (mm σ) (am_Ok none (fun σ1 => σ1 = sI (sI (sI (clS (setM (setM (gS (setM σ (s + 1) h w (fun _ _ => 0)) (s + 3) (fun _ => -1)) (s + 5) 1 h (fun _ _ => 0)) (s + 7) 0 h (fun _ _ => 0)) (s + 4) (-1) (-1)) s 3 0) s 4 0) s 5 0)) := by
  refine ⟨mf_State_reset, Nat.le_of_ble_eq_true rfl, ?_⟩
  refine R_aload_n rfl rfl ?_
  refine R_gP (x := (s + 1)) rfl hS.1 fp_9_0 ((am_P_3 (by decide)).trans hS.2.2.2.2.2.2.2.1) ?_
  refine R_iload_n rfl rfl ?_
  refine R_iload_n rfl rfl ?_
  refine R_cV (as := [.int (nI h), .int (nI w)]) rfl rfl iv_Matrix_reset (sp_Matrix_reset (h := h) (w := w) hS.2.1) (by decide) rfl rfl hS.2.1.1 (by decide) rfl rfl (Nat.le_of_ble_eq_true rfl) (fun _ q => ?_)
  obtain rfl := q.symm
  refine R_aload_n rfl rfl ?_
  refine R_gP (x := (s + 3)) rfl hS.1 fp_9_1 ((am_P_3 (by decide)).trans hS.2.2.2.2.2.2.2.2.1) ?_
  refine R_cV (as := []) rfl rfl iv_Guess_clear (sp_Guess_clear hS.2.2.1) (by decide) rfl rfl hS.2.2.1 (by decide) rfl rfl (Nat.le_of_ble_eq_true rfl) (fun _ q => ?_)
  obtain rfl := q.symm
  refine R_aload_n rfl rfl ?_
  refine R_gP (x := (s + 4)) rfl hS.1 fp_9_2 ((am_P_3 (by decide)).trans hS.2.2.2.2.2.2.2.2.2.1) ?_
  refine R_iload_n rfl rfl ?_
  refine R_cV (as := [.int (nI h)]) rfl rfl iv_Certificate_clear (sp_Certificate_clear (n := h) hS) (by decide) rfl rfl hS.2.2.2.1 (by decide) rfl rfl (Nat.le_of_ble_eq_true rfl) (fun _ q => ?_)
  obtain rfl := q.symm
  refine R_aload_n rfl rfl ?_
  refine R_iconst (v := 0) rfl rfl ?_
  refine R_pI rfl hS.1 fw_9_3 rfl ?_
  refine R_aload_n rfl rfl ?_
  refine R_iconst (v := 0) rfl rfl ?_
  refine R_pI rfl hS.1 fw_9_4 rfl ?_
  refine R_aload_n rfl rfl ?_
  refine R_iconst (v := 0) rfl rfl ?_
  refine R_pI rfl hS.1 fw_9_5 rfl ?_
  exact T_return rfl rfl (am_okv0 rfl)
theorem aS_self {σ : am_G} {p n : Nat} : aS σ p n (fun j => σ.1 p j) = σ := by
  refine Prod.ext ?_ rfl
  funext a b
  show aI σ.1 p n (fun j => σ.1 p j) a b = σ.1 a b
  unfold aI
  by_cases ha : a = p
  · subst ha
    rw [if_pos rfl]
    by_cases hb : b < n
    · rw [if_pos hb]
    · rw [if_neg hb]
  · rw [if_neg ha]
theorem rs_put {σ : am_G} {s h w : Nat} : sI (sI (sI (clS (setM (setM (gS (setM σ (s + 1) h w (fun _ _ => 0)) (s + 3) (fun _ => -1)) (s + 5) 1 h (fun _ _ => 0)) (s + 7) 0 h (fun _ _ => 0)) (s + 4) (-1) (-1)) s 3 0) s 4 0) s 5 0 = putS σ s h w (fun _ _ => 0) (fun _ _ => 0) 0 (fun _ _ => 0) 0 (rsI (fun j => σ.1 (s + 9) j)) := by
  have e : ∀ (τ : am_G) (q : Nat → Int32), (∀ j, τ.1 (s + 9) j = q j) → aS τ (s + 9) 6 q = τ := fun τ q h => by
    have e1 : q = fun j => τ.1 (s + 9) j := funext (fun j => (h j).symm)
    rw [e1]; exact aS_self
  unfold putS
  rw [e]
  · rfl
  · intro j
    have h1 : rsI (fun j => σ.1 (s + 9) j) (8 + j) = σ.1 (s + 9) j := by
      unfold rsI
      rw [if_neg (by omega), if_neg (by omega), show 8 + j - 8 = j by omega]
    rw [h1, sI_o (Or.inl (by omega)), sI_o (Or.inl (by omega)), sI_o (Or.inl (by omega))]
    have f1 : smP (fun a _ => a < s + 9 ∧ s ≤ a) σ (clS (setM (setM (gS (setM σ (s + 1) h w (fun _ _ => 0)) (s + 3) (fun j => rsI (fun j => σ.1 (s + 9) j) (4 + j))) (s + 5) 1 h (fun _ _ => 0)) (s + 7) 0 h (fun _ _ => 0)) (s + 4) (rsI (fun j => σ.1 (s + 9) j) 2) (rsI (fun j => σ.1 (s + 9) j) 3)) :=
      ((((smP_setM (fun b => by omega) (fun b => by omega)).trans (gS_fr (fun b => by omega))).trans (smP_setM (fun b => by omega) (fun b => by omega))).trans (smP_setM (fun b => by omega) (fun b => by omega))).trans (clS_fr (fun b => by omega))
    exact f1.i (by omega)
theorem sp_State_reset {σ : am_G} {s h w : Nat} (hS : isState s) : am_Call am_TX 2 0 c_State_reset [.ref s, .int (nI h), .int (nI w)] (mm σ) (am_Ok none (fun σ1 => σ1 = putS σ s h w (fun _ _ => 0) (fun _ _ => 0) 0 (fun _ _ => 0) 0 (rsI (fun j => σ.1 (s + 9) j)))) := by
  have z := sp_State_reset0 (σ := σ) (h := h) (w := w) hS
  rw [rs_put] at z
  exact z

