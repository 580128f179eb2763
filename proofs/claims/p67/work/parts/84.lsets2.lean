/-! ===== the law's sets, its walk ===== -/
/-- the class's answers' places, and the law's own array at k -/
def pSe (k a b : Nat) : Prop := plc 17 26 a b ∨ a = k
theorem sm_e {σ σ1 : am_G} {k : Nat} (h : smP (plc 17 26) σ σ1) : smP (pSe k) σ σ1 := h.mono (fun _ _ => Or.inl)
theorem vS_e {σ σ1 : am_G} {k : Nat} (q : smP (pSe k) σ σ1) (hk : 120 ≤ k) {h w : Nat} {f v : am_Gr} {rh : Nat} {rl : am_Gr} {pn : Nat} {I : Nat → Int32} (hv : vS σ 26 h w f v rh rl pn I) : vS σ1 26 h w f v rh rl pn I := q.vS hv (fun a b _ _ => by unfold pSe plc; omega)
/-- the array's ints: i of them are of the next set -/
def arF (f : am_Gr) (m h w k a i : Nat) (τ : am_G) : Prop := ∀ j, j < h → fsC f m h w j (if j < i then a + 1 else a) (τ.1 k j)
theorem arF.q {f : am_Gr} {m h w k a i : Nat} {τ τ1 : am_G} (h1 : arF f m h w k a i τ) (hk : 120 ≤ k) (q : smP (plc 17 26) τ τ1) : arF f m h w k a i τ1 := fun j hj => by rw [q.i (by unfold plc; omega)]; exact h1 j hj
section LST
variable {h w rh pn m S k : Nat} {f v rl : am_Gr} {I : Nat → Int32} {ρ : am_Y}
theorem lp_st_end (hd : zdom m) (hm : m ≤ 97) (hf : fSm f h w) (hmd : m ∈ mdL) (hS : S < 2 ^ h) (hk : 120 ≤ k) {D : Nat} (hD : 9 ≤ D) {σ τ : am_G} (hv : vS σ 26 h w f v rh rl pn I) (q : smP (pSe k) σ τ) {z u : Option Value} : am_R am_TX D 0 c_L_sets 393 [some (.ref 0), some (.int (nI m)), some (.int (nI S)), some (.int (nI (2 ^ w - 1))), some (.int (nI (2 ^ h - 1))), some (.int (nI (cbN (frB f m h w) (rkO f m (2 ^ h - 1) (2 ^ w - 1) h w) (2 ^ h)))), some (.int (nI (ccN (frB f m h w) 6 (2 ^ h)))), some (.ref k), some (.int (nI (spN f m h w S h))), some (.int (nI (mrN f m h w S h))), z, u] [] (ml τ ρ) (am_Oy (some (.int 1)) (fun σ1 ρ1 => ρ1 = ρ ∧ smP (pSe k) σ σ1)) := by
  have hh := hv.1.1.2
  have hw := hv.1.2.1.2
  have hS6 := p2_64 hS hh
  have fin : ∀ τ, smP (pSe k) σ τ → am_R am_TX D 0 c_L_sets 415 [some (.ref 0), some (.int (nI m)), some (.int (nI S)), some (.int (nI (2 ^ w - 1))), some (.int (nI (2 ^ h - 1))), some (.int (nI (cbN (frB f m h w) (rkO f m (2 ^ h - 1) (2 ^ w - 1) h w) (2 ^ h)))), some (.int (nI (ccN (frB f m h w) 6 (2 ^ h)))), some (.ref k), some (.int (nI (spN f m h w S h))), some (.int (nI (mrN f m h w S h))), z, u] [] (ml τ ρ) (am_Oy (some (.int 1)) (fun σ1 ρ1 => ρ1 = ρ ∧ smP (pSe k) σ σ1)) := by
    intro τ q
    refine R_aload_n rfl rfl ?_
    refine R_iload_n rfl rfl ?_
    refine R_qV (as := [.int (nI m)]) rfl rfl iv_D_bases (sp_D_bases (vS_e q hk hv) hmd) (fun _ z => sm_lo z) (by omega) rfl rfl rfl rfl (Nat.le_of_ble_eq_true rfl) (fun τ1 r1 => ?_)
    have q1 := q.trans (sm_e r1)
    rw [cb_64 hh]
    refine R_iload rfl rfl ?_
    refine R_icmp_ne rfl rfl (fun z => absurd rfl z) (fun _ => ?_)
    refine R_aload_n rfl rfl ?_
    refine R_iload_n rfl rfl ?_
    refine R_qV (as := [.int (nI m)]) rfl rfl iv_D_circuits (sp_D_circuits (vS_e q1 hk hv) hmd) (fun _ z => sm_lo z) (by omega) rfl rfl rfl rfl (Nat.le_of_ble_eq_true rfl) (fun τ2 r2 => ?_)
    have q2 := q1.trans (sm_e r2)
    refine R_iload rfl rfl ?_
    refine R_icmp_ne rfl rfl (fun z => absurd rfl z) (fun _ => ?_)
    refine R_aload_n rfl rfl ?_
    refine R_iload_n rfl rfl ?_
    refine R_iload_n rfl rfl ?_
    refine R_qV (as := [.int (nI m), .int (nI S)]) rfl rfl iv_D_closure (sp_D_closure (vS_e q2 hk hv) hmd hS) (fun _ z => sm_lo z) (by omega) rfl rfl rfl rfl (Nat.le_of_ble_eq_true rfl) (fun τ3 r3 => ?_)
    have q3 := q2.trans (sm_e r3)
    refine R_iload rfl rfl ?_
    refine R_icmp_ne rfl rfl (fun z => absurd rfl z) (fun _ => ?_)
    refine R_iload_n rfl rfl ?_
    refine R_iload rfl rfl ?_
    refine R_iconst (v := -1) rfl rfl ?_
    refine R_ixor rfl ?_
    refine R_iand rfl ?_
    rw [sdf_raw S hS6 _ (spN_lt h hh), sub_cl hh hS]
    refine R_if_ne rfl rfl (fun z => absurd rfl z) (fun _ => ?_)
    refine R_iconst (v := 1) rfl rfl ?_
    refine R_goto rfl rfl ?_
    exact T_zreturn rfl rfl rfl ⟨_, _, rfl, rfl, q3⟩
  refine R_aload_n rfl rfl ?_
  refine R_iload_n rfl rfl ?_
  refine R_iload_n rfl rfl ?_
  refine R_qV (as := [.int (nI m), .int (nI (S))]) rfl rfl iv_D_areIndependent (sp_D_areIndependent (m := m) (S := S) (vS_e q hk hv) hmd hS) (fun _ z => sm_lo z) (by omega) rfl rfl rfl rfl (Nat.le_of_ble_eq_true rfl) (fun τ4 r4 => ?_)
  have q4 := q.trans (sm_e r4)
  refine R_zif_eq rfl rfl (fun _ => fin _ q4) (fun hfr => ?_)
  refine R_aload_n rfl rfl ?_
  refine R_iload_n rfl rfl ?_
  refine R_iload_n rfl rfl ?_
  refine R_qV (as := [.int (nI m), .int (nI S)]) rfl rfl iv_D_extensions (sp_D_extensions (vS_e q4 hk hv) hmd hS hfr) (fun _ z => sm_lo z) (by omega) rfl rfl rfl rfl (Nat.le_of_ble_eq_true rfl) (fun τ5 r5 => ?_)
  have q5 := q4.trans (sm_e r5)
  rw [ext_eq hd hm hf hh hw hS hfr]
  refine R_iload rfl rfl ?_
  exact R_icmp_eq rfl rfl (fun _ => fin _ q5) (fun z => absurd rfl z)
theorem lp_st_2 (hd : zdom m) (hm : m ≤ 97) (hf : fSm f h w) (hmd : m ∈ mdL) (hS : S < 2 ^ h) (hk : 120 ≤ k) {σ0 : am_G} (hA : (ml σ0 ρ).1[k]? = some (1, 6)) {D : Nat} (hD : 9 ≤ D) {σ : am_G} (hv : vS σ 26 h w f v rh rl pn I) {u9 : Option Value} : ∀ u r τ, r + u = h → arF f m h w k (2 ^ h) 0 τ → smP (pSe k) σ τ → am_R am_TX D 0 c_L_sets 289 [some (.ref 0), some (.int (nI m)), some (.int (nI S)), some (.int (nI (2 ^ w - 1))), some (.int (nI (2 ^ h - 1))), some (.int (nI (cbN (frB f m h w) (rkO f m (2 ^ h - 1) (2 ^ w - 1) h w) (2 ^ h)))), some (.int (nI (ccN (frB f m h w) 6 (2 ^ h)))), some (.ref k), some (.int (nI (spN f m h w S r))), some (.int (nI (mrN f m h w S r))), some (.int (nI r)), u9] [] (ml τ ρ) (am_Oy (some (.int 1)) (fun σ1 ρ1 => ρ1 = ρ ∧ smP (pSe k) σ σ1)) := by
  have hh := hv.1.1.2
  have hw := hv.1.2.1.2
  have hS6 := p2_64 hS hh
  intro u
  induction u with
  | zero =>
    intro r τ hr ha q
    obtain rfl : r = h := by omega
    refine R_iload rfl rfl ?_
    refine R_aload_n rfl rfl ?_
    refine R_iconst (v := 0) rfl rfl ?_
    refine R_qV (as := [.int 0]) rfl rfl iv_D_count (sp_D_count_0 (vS_e q hk hv)) (fun _ z => sm_lo z) (by omega) rfl rfl rfl rfl (Nat.le_of_ble_eq_true rfl) (fun τ6 r6 => ?_)
    have q6 := q.trans (sm_e r6)
    refine R_nicmp_ge (x := r) (y := r) rfl rfl (by omega) (by omega) (fun _ => ?_) (fun z => absurd (Nat.le_refl r) z)
    exact lp_st_end hd hm hf hmd hS hk hD hv q6
  | succ u ih =>
    intro r τ hr ha q
    have hrh : r < h := by omega
    have m1 := @rkO_6 f m (wi S r) (2 ^ w - 1) h w hh
    have m2 := @rkO_6 f m S (2 ^ w - 1) h w hh
    have s6 : spN f m h w S r < 64 := spN_lt r (by omega)
    have s7 : mrN f m h w S r < 64 := p2_64 (mr_lt2 r) (by omega)
    have hwi : wi S r < 2 ^ h := wi_p2 hh hS hrh
    have nxt : ∀ τ, arF f m h w k (2 ^ h) 0 τ → smP (pSe k) σ τ → am_R am_TX D 0 c_L_sets 387 [some (.ref 0), some (.int (nI m)), some (.int (nI S)), some (.int (nI (2 ^ w - 1))), some (.int (nI (2 ^ h - 1))), some (.int (nI (cbN (frB f m h w) (rkO f m (2 ^ h - 1) (2 ^ w - 1) h w) (2 ^ h)))), some (.int (nI (ccN (frB f m h w) 6 (2 ^ h)))), some (.ref k), some (.int (nI (spN f m h w S (r + 1)))), some (.int (nI (mrN f m h w S (r + 1)))), some (.int (nI r)), u9] [] (ml τ ρ) (am_Oy (some (.int 1)) (fun σ1 ρ1 => ρ1 = ρ ∧ smP (pSe k) σ σ1)) := by
      intro τ ha q
      refine R_iincN (x := r) (m := 1) rfl rfl rfl (by decide) ?_
      refine R_goto rfl rfl ?_
      exact ih (r + 1) τ (by omega) ha q
    have j351 : ∀ τ, arF f m h w k (2 ^ h) 0 τ → smP (pSe k) σ τ → am_R am_TX D 0 c_L_sets 351 [some (.ref 0), some (.int (nI m)), some (.int (nI S)), some (.int (nI (2 ^ w - 1))), some (.int (nI (2 ^ h - 1))), some (.int (nI (cbN (frB f m h w) (rkO f m (2 ^ h - 1) (2 ^ w - 1) h w) (2 ^ h)))), some (.int (nI (ccN (frB f m h w) 6 (2 ^ h)))), some (.ref k), some (.int (nI (spN f m h w S (r + 1)))), some (.int (nI (mrN f m h w S r))), some (.int (nI r)), u9] [] (ml τ ρ) (am_Oy (some (.int 1)) (fun σ1 ρ1 => ρ1 = ρ ∧ smP (pSe k) σ σ1)) := by
      intro τ ha q
      have no : ∀ τ, arF f m h w k (2 ^ h) 0 τ → smP (pSe k) σ τ → ¬ (¬ S.testBit r = true ∧ frB f m h w (wi S r) = true) → am_R am_TX D 0 c_L_sets 383 [some (.ref 0), some (.int (nI m)), some (.int (nI S)), some (.int (nI (2 ^ w - 1))), some (.int (nI (2 ^ h - 1))), some (.int (nI (cbN (frB f m h w) (rkO f m (2 ^ h - 1) (2 ^ w - 1) h w) (2 ^ h)))), some (.int (nI (ccN (frB f m h w) 6 (2 ^ h)))), some (.ref k), some (.int (nI (spN f m h w S (r + 1)))), some (.int (nI (mrN f m h w S r))), some (.int (nI r)), u9] [.int (nI (mrN f m h w S r))] (ml τ ρ) (am_Oy (some (.int 1)) (fun σ1 ρ1 => ρ1 = ρ ∧ smP (pSe k) σ σ1)) := by
        intro τ ha q hn
        refine R_iconst (v := 0) rfl rfl ?_
        refine R_ior rfl ?_
        rw [Int32.or_zero]
        refine R_istore rfl (by decide) ?_
        have g := nxt τ ha q
        rw [show mrN f m h w S (r + 1) = mrN f m h w S r from if_neg hn] at g
        exact g
      refine R_iload rfl rfl ?_
      refine R_iload_n rfl rfl ?_
      refine R_iload rfl rfl ?_
      refine R_pS (as := [.int (nI S), .int (nI r)]) rfl rfl iv_L_has (pl_has hS6 (by omega)) (by omega) rfl rfl rfl rfl (Nat.le_of_ble_eq_true rfl) ?_
      refine R_zif_ne rfl rfl (fun hb => no τ ha q (fun z => z.1 hb)) (fun hb => ?_)
      refine R_aload_n rfl rfl ?_
      refine R_iload_n rfl rfl ?_
      refine R_iload_n rfl rfl ?_
      refine R_iconst (v := 1) rfl rfl ?_
      refine R_iload rfl rfl ?_
      refine R_shl1N (y := r) rfl (by omega) ?_
      refine R_iorB (s := S) (y := r) rfl hS6 (by omega) ?_
      refine R_qV (as := [.int (nI m), .int (nI (wi S r))]) rfl rfl iv_D_areIndependent (sp_D_areIndependent (m := m) (S := wi S r) (vS_e q hk hv) hmd hwi) (fun _ z => sm_lo z) (by omega) rfl rfl rfl rfl (Nat.le_of_ble_eq_true rfl) (fun τ7 r7 => ?_)
      have q7 := q.trans (sm_e r7)
      have ha1 := ha.q hk r7
      refine R_zif_eq rfl rfl (fun hn => no _ ha1 q7 (fun z => hn z.2)) (fun hfr => ?_)
      refine R_iconst (v := 1) rfl rfl ?_
      refine R_iload rfl rfl ?_
      refine R_shl1N (y := r) rfl (by omega) ?_
      refine R_goto rfl rfl ?_
      refine R_iorB (s := mrN f m h w S r) (y := r) rfl s7 (by omega) ?_
      refine R_istore rfl (by decide) ?_
      have g := nxt _ ha1 q7
      rw [show mrN f m h w S (r + 1) = wi (mrN f m h w S r) r from if_pos ⟨hb, hfr⟩] at g
      exact g
    refine R_iload rfl rfl ?_
    refine R_aload_n rfl rfl ?_
    refine R_iconst (v := 0) rfl rfl ?_
    refine R_qV (as := [.int 0]) rfl rfl iv_D_count (sp_D_count_0 (vS_e q hk hv)) (fun _ z => sm_lo z) (by omega) rfl rfl rfl rfl (Nat.le_of_ble_eq_true rfl) (fun τ8 r8 => ?_)
    have q8 := q.trans (sm_e r8)
    have ha1 := ha.q hk r8
    refine R_nicmp_ge (x := r) (y := h) rfl rfl (by omega) (by omega) (fun z => by omega) (fun _ => ?_)
    refine R_aload_n rfl rfl ?_
    refine R_iload_n rfl rfl ?_
    refine R_iload rfl rfl ?_
    refine R_qV (as := [.int (nI m), .int (nI r)]) rfl rfl iv_D_circuit (sp_D_circuit (vS_e q8 hk hv) hrh hmd) (fun _ z => sm_lo z) (by omega) rfl rfl rfl rfl (Nat.le_of_ble_eq_true rfl) (fun τ9 r9 => ?_)
    have q9 := q8.trans (sm_e r9)
    have ha2 := ha1.q hk r9
    have hfs := ha2 r hrh
    rw [if_neg (Nat.not_lt_zero r)] at hfs
    rw [fsC_e hfs]
    refine R_aload rfl rfl ?_
    refine R_iload rfl rfl ?_
    refine Y_xI (j := r) rfl hA rfl (by omega) (by decide) ?_
    refine R_icmp_eq rfl rfl (fun _ => ?_) (fun z => absurd rfl z)
    refine R_iload rfl rfl ?_
    refine R_aload_n rfl rfl ?_
    refine R_iload_n rfl rfl ?_
    refine R_iload_n rfl rfl ?_
    refine R_iconst (v := 1) rfl rfl ?_
    refine R_iload rfl rfl ?_
    refine R_shl1N (y := r) rfl (by omega) ?_
    refine R_iorB (s := S) (y := r) rfl hS6 (by omega) ?_
    refine R_iload_n rfl rfl ?_
    refine R_qV (as := [.int (nI m), .int (nI (wi S r)), .int (nI (2 ^ w - 1))]) rfl rfl iv_D_rankOf (sp_D_rankOf (m := m) (S := wi S r) (T := 2 ^ w - 1) (vS_e q9 hk hv) hmd hwi (lwP2 (Nat.le_refl w))) (fun _ z => sm_lo z) (by omega) rfl rfl rfl rfl (Nat.le_of_ble_eq_true rfl) (fun τ10 r10 => ?_)
    have q10 := q9.trans (sm_e r10)
    have ha3 := ha2.q hk r10
    refine R_aload_n rfl rfl ?_
    refine R_iload_n rfl rfl ?_
    refine R_iload_n rfl rfl ?_
    refine R_iload_n rfl rfl ?_
    refine R_qV (as := [.int (nI m), .int (nI (S)), .int (nI (2 ^ w - 1))]) rfl rfl iv_D_rankOf (sp_D_rankOf (m := m) (S := S) (T := 2 ^ w - 1) (vS_e q10 hk hv) hmd hS (lwP2 (Nat.le_refl w))) (fun _ z => sm_lo z) (by omega) rfl rfl rfl rfl (Nat.le_of_ble_eq_true rfl) (fun τ11 r11 => ?_)
    have q11 := q10.trans (sm_e r11)
    have ha4 := ha3.q hk r11
    refine R_nicmp_ne (x := rkO f m (wi S r) (2 ^ w - 1) h w) (y := rkO f m S (2 ^ w - 1) h w) rfl rfl (by omega) (by omega) (fun z => ?_) (fun z => ?_)
    · refine R_iconst (v := 0) rfl rfl ?_
      refine R_ior rfl ?_
      rw [Int32.or_zero]
      refine R_istore rfl (by decide) ?_
      have g := j351 _ ha4 q11
      rw [show spN f m h w S (r + 1) = spN f m h w S r from if_neg z] at g
      exact g
    · refine R_iconst (v := 1) rfl rfl ?_
      refine R_iload rfl rfl ?_
      refine R_shl1N (y := r) rfl (by omega) ?_
      refine R_goto rfl rfl ?_
      refine R_iorB (s := spN f m h w S r) (y := r) rfl s6 (by omega) ?_
      refine R_istore rfl (by decide) ?_
      have g := j351 _ ha4 q11
      rw [show spN f m h w S (r + 1) = wi (spN f m h w S r) r from if_pos z] at g
      exact g
theorem sm_ar {σ τ : am_G} {j : Nat} {x : Int32} (q : smP (pSe k) σ τ) : smP (pSe k) σ (sI τ k j x) := q.trans (smP_sI (Or.inr rfl))
theorem lp_st_a (hmd : m ∈ mdL) (hk : 120 ≤ k) {σ0 : am_G} (hA : (ml σ0 ρ).1[k]? = some (1, 6)) {D kk a b c : Nat} (hD : 9 ≤ D) (ha : a < 2 ^ h) {fr : Option Value} {σ : am_G} (hv : vS σ 26 h w f v rh rl pn I) {Qx : am_Res → Prop} (hci : ciB (frB f m h w) 6 a = true)
    (hx : ∀ τ r, arF f m h w k (a + 1) 0 τ → smP (pSe k) σ τ → am_R am_TX D kk c_L_sets 274 [some (.ref 0), some (.int (nI m)), some (.int (nI S)), some (.int (nI (2 ^ w - 1))), some (.int (nI (2 ^ h - 1))), some (.int (nI b)), some (.int (nI c)), some (.ref k), some (.int (nI a)), fr, some (.int (1)), r] [] (ml τ ρ) Qx) :
    ∀ u i τ, i + u = h → arF f m h w k a i τ → smP (pSe k) σ τ → am_R am_TX D kk c_L_sets 220 [some (.ref 0), some (.int (nI m)), some (.int (nI S)), some (.int (nI (2 ^ w - 1))), some (.int (nI (2 ^ h - 1))), some (.int (nI b)), some (.int (nI c)), some (.ref k), some (.int (nI a)), fr, some (.int (1)), some (.int (nI i))] [] (ml τ ρ) Qx := by
  have hh := hv.1.1.2
  have ha6 := p2_64 ha hh
  intro u
  induction u with
  | zero =>
    intro i τ hi har q
    obtain rfl : i = h := by omega
    refine R_iload rfl rfl ?_
    refine R_aload_n rfl rfl ?_
    refine R_iconst (v := 0) rfl rfl ?_
    refine R_qV (as := [.int 0]) rfl rfl iv_D_count (sp_D_count_0 (vS_e q hk hv)) (fun _ z => sm_lo z) (by omega) rfl rfl rfl rfl (Nat.le_of_ble_eq_true rfl) (fun τ12 r12 => ?_)
    have q12 := q.trans (sm_e r12)
    have ha1 := har.q hk r12
    refine R_nicmp_ge (x := i) (y := i) rfl rfl (by omega) (by omega) (fun _ => ?_) (fun z => absurd (Nat.le_refl i) z)
    exact hx _ _ (fun j hj => by have := ha1 j hj; rw [if_pos hj] at this; rw [if_neg (Nat.not_lt_zero j)]; exact this) q12
  | succ u ih =>
    intro i τ hi har q
    have hih : i < h := by omega
    have st : ∀ τ x, arF f m h w k a i τ → fsC f m h w i (a + 1) x → smP (pSe k) σ τ → am_R am_TX D kk c_L_sets 267 [some (.ref 0), some (.int (nI m)), some (.int (nI S)), some (.int (nI (2 ^ w - 1))), some (.int (nI (2 ^ h - 1))), some (.int (nI b)), some (.int (nI c)), some (.ref k), some (.int (nI a)), fr, some (.int (1)), some (.int (nI i))] [.int x, .int (nI i), .ref k] (ml τ ρ) Qx := by
      intro τ x har hxx q
      refine Y_wI (j := i) rfl hA rfl (by omega) (by decide) ?_
      refine R_iincN (x := i) (m := 1) rfl rfl rfl (by decide) ?_
      refine R_goto rfl rfl ?_
      refine ih (i + 1) _ (by omega) (fun j hj => ?_) (sm_ar q)
      rw [sI_1, if_pos rfl]
      by_cases c : j = i
      · subst c
        rw [if_pos rfl, if_pos (by omega)]
        exact hxx
      · rw [if_neg c]
        have := har j hj
        by_cases d : j < i
        · rw [if_pos d] at this
          rw [if_pos (by omega)]
          exact this
        · rw [if_neg d] at this
          rw [if_neg (by omega)]
          exact this
    have keep : ∀ τ, arF f m h w k a i τ → (τ.1 k i = -1 → ¬ ciR f m h w i a) → smP (pSe k) σ τ → am_R am_TX D kk c_L_sets 262 [some (.ref 0), some (.int (nI m)), some (.int (nI S)), some (.int (nI (2 ^ w - 1))), some (.int (nI (2 ^ h - 1))), some (.int (nI b)), some (.int (nI c)), some (.ref k), some (.int (nI a)), fr, some (.int (1)), some (.int (nI i))] [.int (nI i), .ref k] (ml τ ρ) Qx := by
      intro τ har hn q
      have h1 := har i hih
      rw [if_neg (Nat.lt_irrefl i)] at h1
      refine R_aload rfl rfl ?_
      refine R_iload rfl rfl ?_
      refine Y_xI (j := i) rfl hA rfl (by omega) (by decide) ?_
      exact st τ _ har (fsC_f h1 hn) q
    refine R_iload rfl rfl ?_
    refine R_aload_n rfl rfl ?_
    refine R_iconst (v := 0) rfl rfl ?_
    refine R_qV (as := [.int 0]) rfl rfl iv_D_count (sp_D_count_0 (vS_e q hk hv)) (fun _ z => sm_lo z) (by omega) rfl rfl rfl rfl (Nat.le_of_ble_eq_true rfl) (fun τ13 r13 => ?_)
    have q13 := q.trans (sm_e r13)
    have ha1 := har.q hk r13
    refine R_nicmp_ge (x := i) (y := h) rfl rfl (by omega) (by omega) (fun z => by omega) (fun _ => ?_)
    refine R_iload rfl rfl ?_
    refine R_if_eq rfl rfl (fun z => absurd z (by decide)) (fun _ => ?_)
    refine R_aload rfl rfl ?_
    refine R_iload rfl rfl ?_
    refine R_iload rfl rfl ?_
    refine R_iload rfl rfl ?_
    refine R_pS (as := [.int (nI a), .int (nI i)]) rfl rfl iv_L_has (pl_has ha6 (by omega)) (by omega) rfl rfl rfl rfl (Nat.le_of_ble_eq_true rfl) ?_
    refine R_zif_eq rfl rfl (fun hb => keep _ ha1 (fun _ z => hb z.1) q13) (fun hb => ?_)
    have h1 := ha1 i hih
    rw [if_neg (Nat.lt_irrefl i)] at h1
    refine R_aload rfl rfl ?_
    refine R_iload rfl rfl ?_
    refine Y_xI (j := i) rfl hA rfl (by omega) (by decide) ?_
    refine R_if_ge rfl rfl (fun z => keep _ ha1 (fun e => by rw [e] at z; exact absurd z (by decide)) q13) (fun z => ?_)
    refine R_iload rfl rfl ?_
    refine R_goto rfl rfl ?_
    exact st _ _ ha1 (fsC_t h1 ha6 (Int32.not_le.mp z) ⟨hb, hci⟩) q13
theorem lp_st_c (hmd : m ∈ mdL) (hk : 120 ≤ k) {D kk a b c fr : Nat} (hD : 9 ≤ D) (ha : a < 2 ^ h) {σ : am_G} (hv : vS σ 26 h w f v rh rl pn I) {Qx : am_Res → Prop}
    (hx : ∀ τ r, arF f m h w k a 0 τ → smP (pSe k) σ τ → am_R am_TX D kk c_L_sets 202 [some (.ref 0), some (.int (nI m)), some (.int (nI S)), some (.int (nI (2 ^ w - 1))), some (.int (nI (2 ^ h - 1))), some (.int (nI b)), some (.int (nI c)), some (.ref k), some (.int (nI a)), some (.int (nI fr)), some (.int (zP (ciB (frB f m h w) 6 a = true))), r] [] (ml τ ρ) Qx) :
    ∀ u i τ, i + u = h → arF f m h w k a 0 τ → smP (pSe k) σ τ → am_R am_TX D kk c_L_sets 147 [some (.ref 0), some (.int (nI m)), some (.int (nI S)), some (.int (nI (2 ^ w - 1))), some (.int (nI (2 ^ h - 1))), some (.int (nI b)), some (.int (nI c)), some (.ref k), some (.int (nI a)), some (.int (nI fr)), some (.int (zP ((!frB f m h w a && ciN (frB f m h w) a i) = true))), some (.int (nI i))] [] (ml τ ρ) Qx := by
  have hh := hv.1.1.2
  have ha6 := p2_64 ha hh
  intro u
  induction u with
  | zero =>
    intro i τ hi har q
    obtain rfl : i = h := by omega
    refine R_iload rfl rfl ?_
    refine R_aload_n rfl rfl ?_
    refine R_iconst (v := 0) rfl rfl ?_
    refine R_qV (as := [.int 0]) rfl rfl iv_D_count (sp_D_count_0 (vS_e q hk hv)) (fun _ z => sm_lo z) (by omega) rfl rfl rfl rfl (Nat.le_of_ble_eq_true rfl) (fun τ14 r14 => ?_)
    have q14 := q.trans (sm_e r14)
    have ha1 := har.q hk r14
    refine R_nicmp_ge (x := i) (y := i) rfl rfl (by omega) (by omega) (fun _ => ?_) (fun z => absurd (Nat.le_refl i) z)
    rw [← ci_6 hh ha]
    exact hx _ _ ha1 q14
  | succ u ih =>
    intro i τ hi har q
    have hih : i < h := by omega
    have put : ∀ τ (y : Int32), arF f m h w k a 0 τ → smP (pSe k) σ τ → y = zP ((!frB f m h w a && ciN (frB f m h w) a (i + 1)) = true) → am_R am_TX D kk c_L_sets 194 [some (.ref 0), some (.int (nI m)), some (.int (nI S)), some (.int (nI (2 ^ w - 1))), some (.int (nI (2 ^ h - 1))), some (.int (nI b)), some (.int (nI c)), some (.ref k), some (.int (nI a)), some (.int (nI fr)), some (.int (zP ((!frB f m h w a && ciN (frB f m h w) a i) = true))), some (.int (nI i))] [.int y] (ml τ ρ) Qx := by
      intro τ y har q hy
      subst hy
      refine R_istore rfl (by decide) ?_
      refine R_iincN (x := i) (m := 1) rfl rfl rfl (by decide) ?_
      refine R_goto rfl rfl ?_
      exact ih (i + 1) τ (by omega) har q
    have e1 : (!frB f m h w a && ciN (frB f m h w) a (i + 1)) = ((!frB f m h w a && ciN (frB f m h w) a i) && (!a.testBit i || frB f m h w (wo a i))) := by
      show (!frB f m h w a && (ciN (frB f m h w) a i && (!a.testBit i || frB f m h w (wo a i)))) = _
      rw [Bool.and_assoc]
    have no : ∀ τ, arF f m h w k a 0 τ → smP (pSe k) σ τ → ¬ (!frB f m h w a && ciN (frB f m h w) a (i + 1)) = true → am_R am_TX D kk c_L_sets 193 [some (.ref 0), some (.int (nI m)), some (.int (nI S)), some (.int (nI (2 ^ w - 1))), some (.int (nI (2 ^ h - 1))), some (.int (nI b)), some (.int (nI c)), some (.ref k), some (.int (nI a)), some (.int (nI fr)), some (.int (zP ((!frB f m h w a && ciN (frB f m h w) a i) = true))), some (.int (nI i))] [] (ml τ ρ) Qx := by
      intro τ har q hn
      refine R_iconst (v := 0) rfl rfl ?_
      exact put τ 0 har q (zP_f hn).symm
    have yes : ∀ τ, arF f m h w k a 0 τ → smP (pSe k) σ τ → (!frB f m h w a && ciN (frB f m h w) a (i + 1)) = true → am_R am_TX D kk c_L_sets 189 [some (.ref 0), some (.int (nI m)), some (.int (nI S)), some (.int (nI (2 ^ w - 1))), some (.int (nI (2 ^ h - 1))), some (.int (nI b)), some (.int (nI c)), some (.ref k), some (.int (nI a)), some (.int (nI fr)), some (.int (zP ((!frB f m h w a && ciN (frB f m h w) a i) = true))), some (.int (nI i))] [] (ml τ ρ) Qx := by
      intro τ har q hn
      refine R_iconst (v := 1) rfl rfl ?_
      refine R_goto rfl rfl ?_
      exact put τ 1 har q (zP_t hn).symm
    refine R_iload rfl rfl ?_
    refine R_aload_n rfl rfl ?_
    refine R_iconst (v := 0) rfl rfl ?_
    refine R_qV (as := [.int 0]) rfl rfl iv_D_count (sp_D_count_0 (vS_e q hk hv)) (fun _ z => sm_lo z) (by omega) rfl rfl rfl rfl (Nat.le_of_ble_eq_true rfl) (fun τ15 r15 => ?_)
    have q15 := q.trans (sm_e r15)
    have ha1 := har.q hk r15
    refine R_nicmp_ge (x := i) (y := h) rfl rfl (by omega) (by omega) (fun z => by omega) (fun _ => ?_)
    refine R_iload rfl rfl ?_
    refine R_zif_eq rfl rfl (fun hc => no _ ha1 q15 (fun z => hc (by rw [e1, Bool.and_eq_true] at z; exact z.1))) (fun hc => ?_)
    refine R_iload rfl rfl ?_
    refine R_iload rfl rfl ?_
    refine R_pS (as := [.int (nI a), .int (nI i)]) rfl rfl iv_L_has (pl_has ha6 (by omega)) (by omega) rfl rfl rfl rfl (Nat.le_of_ble_eq_true rfl) ?_
    refine R_zif_eq rfl rfl (fun hb => yes _ ha1 q15 (by rw [e1, Bool.and_eq_true]; exact ⟨hc, by simp [hb]⟩)) (fun hb => ?_)
    refine R_aload_n rfl rfl ?_
    refine R_iload_n rfl rfl ?_
    refine R_iload rfl rfl ?_
    refine R_iconst (v := 1) rfl rfl ?_
    refine R_iload rfl rfl ?_
    refine R_shl1N (y := i) rfl (by omega) ?_
    refine R_iconst (v := -1) rfl rfl ?_
    refine R_ixor rfl ?_
    refine R_iandB (s := a) (y := i) rfl ha6 (by omega) ?_
    refine R_qV (as := [.int (nI m), .int (nI (wo a i))]) rfl rfl iv_D_areIndependent (sp_D_areIndependent (m := m) (S := wo a i) (vS_e q15 hk hv) hmd (wo_p2 ha)) (fun _ z => sm_lo z) (by omega) rfl rfl rfl rfl (Nat.le_of_ble_eq_true rfl) (fun τ16 r16 => ?_)
    have q16 := q15.trans (sm_e r16)
    have ha2 := ha1.q hk r16
    refine R_zif_eq rfl rfl (fun hn => no _ ha2 q16 (fun z => hn (by rw [e1, Bool.and_eq_true] at z; simpa [hb] using z.2))) (fun hy => ?_)
    exact yes _ ha2 q16 (by rw [e1, Bool.and_eq_true]; exact ⟨hc, by simp [hy]⟩)
theorem lp_st_1 (hd : zdom m) (hm : m ≤ 97) (hf : fSm f h w) (hmd : m ∈ mdL) (hS : S < 2 ^ h) (hk : 120 ≤ k) {σ0 : am_G} (hA : (ml σ0 ρ).1[k]? = some (1, 6)) {D : Nat} (hD : 9 ≤ D) {σ : am_G} (hv : vS σ 26 h w f v rh rl pn I) : ∀ u a x y z τ, a + u = 2 ^ h → arF f m h w k a 0 τ → smP (pSe k) σ τ → am_R am_TX D 0 c_L_sets 60 [some (.ref 0), some (.int (nI m)), some (.int (nI S)), some (.int (nI (2 ^ w - 1))), some (.int (nI (2 ^ h - 1))), some (.int (nI (cbN (frB f m h w) (rkO f m (2 ^ h - 1) (2 ^ w - 1) h w) a))), some (.int (nI (ccN (frB f m h w) 6 a))), some (.ref k), some (.int (nI a)), x, y, z] [] (ml τ ρ) (am_Oy (some (.int 1)) (fun σ1 ρ1 => ρ1 = ρ ∧ smP (pSe k) σ σ1)) := by
  have hh := hv.1.1.2
  have hw := hv.1.2.1.2
  have h2 : 2 ^ h ≤ 64 := Nat.pow_le_pow_right (by decide) hh
  have hp : 1 ≤ 2 ^ h := p2_pos
  intro u
  induction u with
  | zero =>
    intro a x y z τ ha har q
    obtain rfl : a = 2 ^ h := by omega
    refine R_iload rfl rfl ?_
    refine R_iload rfl rfl ?_
    refine R_nicmp_gt (x := 2 ^ h) (y := 2 ^ h - 1) rfl rfl (by omega) (by omega) (fun _ => ?_) (fun z => by omega)
    refine R_iconst (v := 0) rfl rfl ?_
    refine R_istore rfl (by decide) ?_
    refine R_iconst (v := 0) rfl rfl ?_
    refine R_istore rfl (by decide) ?_
    refine R_iconst (v := 0) rfl rfl ?_
    refine R_istore rfl (by decide) ?_
    exact lp_st_2 (σ0 := σ0) hd hm hf hmd hS hk hA hD hv h 0 τ (by omega) har q
  | succ u ih =>
    intro a x y z τ ha har q
    have ha2 : a < 2 ^ h := by omega
    have ha6 : a < 64 := by omega
    have c1 := @pc_le a
    have m1 := @rkO_6 f m a (2 ^ w - 1) h w hh
    have m2 := @rkO_6 f m (2 ^ h - 1) (2 ^ w - 1) h w hh
    have b1 := @cb_le (frB f m h w) (rkO f m (2 ^ h - 1) (2 ^ w - 1) h w) a
    have b2 := @cc_le f m h w a
    have efr : frB f m h w a = true ↔ rkO f m a (2 ^ w - 1) h w = pc a := decide_eq_true_iff
    have e274 : ∀ τ x y z, arF f m h w k (a + 1) 0 τ → smP (pSe k) σ τ → am_R am_TX D 0 c_L_sets 274 [some (.ref 0), some (.int (nI m)), some (.int (nI S)), some (.int (nI (2 ^ w - 1))), some (.int (nI (2 ^ h - 1))), some (.int (nI (cbN (frB f m h w) (rkO f m (2 ^ h - 1) (2 ^ w - 1) h w) (a + 1)))), some (.int (nI (ccN (frB f m h w) 6 (a + 1)))), some (.ref k), some (.int (nI a)), x, y, z] [] (ml τ ρ) (am_Oy (some (.int 1)) (fun σ1 ρ1 => ρ1 = ρ ∧ smP (pSe k) σ σ1)) := by
      intro τ x y z har q
      refine R_iincN (x := a) (m := 1) rfl rfl rfl (by decide) ?_
      refine R_goto rfl rfl ?_
      exact ih (a + 1) _ _ _ τ (by omega) har q
    have e202 : ∀ τ x z, arF f m h w k a 0 τ → smP (pSe k) σ τ → am_R am_TX D 0 c_L_sets 202 [some (.ref 0), some (.int (nI m)), some (.int (nI S)), some (.int (nI (2 ^ w - 1))), some (.int (nI (2 ^ h - 1))), some (.int (nI (cbN (frB f m h w) (rkO f m (2 ^ h - 1) (2 ^ w - 1) h w) (a + 1)))), some (.int (nI (ccN (frB f m h w) 6 a))), some (.ref k), some (.int (nI a)), x, some (.int (zP (ciB (frB f m h w) 6 a = true))), z] [] (ml τ ρ) (am_Oy (some (.int 1)) (fun σ1 ρ1 => ρ1 = ρ ∧ smP (pSe k) σ σ1)) := by
      intro τ x z har q
      have ecc := @cc_s f m h w a
      by_cases hc : ciB (frB f m h w) 6 a = true
      · rw [zP_t hc]
        rw [if_pos hc] at ecc
        refine R_iload rfl rfl ?_
        refine R_iload rfl rfl ?_
        refine R_if_eq rfl rfl (fun z => absurd z (by decide)) (fun _ => ?_)
        refine R_iconst (v := 1) rfl rfl ?_
        refine R_goto rfl rfl ?_
        refine R_iaddN (x := ccN (frB f m h w) 6 a) (y := 1) rfl ?_
        rw [← ecc]
        refine R_istore rfl (by decide) ?_
        refine R_iconst (v := 0) rfl rfl ?_
        refine R_istore rfl (by decide) ?_
        exact lp_st_a (σ0 := σ0) hmd hk hA hD ha2 hv hc (fun τ1 r1 h1 h2 => e274 τ1 _ _ _ h1 h2) h 0 τ (by omega) har q
      · rw [zP_f hc]
        rw [if_neg hc] at ecc
        refine R_iload rfl rfl ?_
        refine R_iload rfl rfl ?_
        refine R_if_eq rfl rfl (fun _ => ?_) (fun z => absurd rfl z)
        refine R_iconst (v := 0) rfl rfl ?_
        refine R_iaddN (x := ccN (frB f m h w) 6 a) (y := 0) rfl ?_
        rw [Nat.add_zero, ← ecc]
        refine R_istore rfl (by decide) ?_
        refine R_iconst (v := 0) rfl rfl ?_
        refine R_istore rfl (by decide) ?_
        have hn : arF f m h w k (a + 1) 0 τ := fun j hj => by
          have := har j hj
          rw [if_neg (Nat.not_lt_zero j)] at this ⊢
          exact fsC_f this (fun _ y => hc y.2)
        refine R_iload rfl rfl ?_
        refine R_aload_n rfl rfl ?_
        refine R_iconst (v := 0) rfl rfl ?_
        refine R_qV (as := [.int 0]) rfl rfl iv_D_count (sp_D_count_0 (vS_e q hk hv)) (fun _ z => sm_lo z) (by omega) rfl rfl rfl rfl (Nat.le_of_ble_eq_true rfl) (fun τ17 r17 => ?_)
        have q17 := q.trans (sm_e r17)
        have hn1 := hn.q hk r17
        by_cases h0 : h = 0
        · refine R_nicmp_ge (x := 0) (y := h) rfl rfl (by omega) (by omega) (fun _ => ?_) (fun z => by omega)
          exact e274 _ _ _ _ hn1 q17
        · refine R_nicmp_ge (x := 0) (y := h) rfl rfl (by omega) (by omega) (fun z => by omega) (fun _ => ?_)
          refine R_iload rfl rfl ?_
          refine R_if_eq rfl rfl (fun _ => ?_) (fun z => absurd rfl z)
          exact e274 _ _ _ _ hn1 q17
    have e132 : ∀ τ y z (fr : Nat), fr = (if frB f m h w a = true then 1 else 0) → arF f m h w k a 0 τ → smP (pSe k) σ τ → am_R am_TX D 0 c_L_sets 132 [some (.ref 0), some (.int (nI m)), some (.int (nI S)), some (.int (nI (2 ^ w - 1))), some (.int (nI (2 ^ h - 1))), some (.int (nI (cbN (frB f m h w) (rkO f m (2 ^ h - 1) (2 ^ w - 1) h w) (a + 1)))), some (.int (nI (ccN (frB f m h w) 6 a))), some (.ref k), some (.int (nI a)), some (.int (nI fr)), y, z] [] (ml τ ρ) (am_Oy (some (.int 1)) (fun σ1 ρ1 => ρ1 = ρ ∧ smP (pSe k) σ σ1)) := by
      intro τ y z fr hfr har q
      have j142 : ∀ x : Int32, x = zP ((!frB f m h w a && ciN (frB f m h w) a 0) = true) → am_R am_TX D 0 c_L_sets 142 [some (.ref 0), some (.int (nI m)), some (.int (nI S)), some (.int (nI (2 ^ w - 1))), some (.int (nI (2 ^ h - 1))), some (.int (nI (cbN (frB f m h w) (rkO f m (2 ^ h - 1) (2 ^ w - 1) h w) (a + 1)))), some (.int (nI (ccN (frB f m h w) 6 a))), some (.ref k), some (.int (nI a)), some (.int (nI fr)), y, z] [.int x] (ml τ ρ) (am_Oy (some (.int 1)) (fun σ1 ρ1 => ρ1 = ρ ∧ smP (pSe k) σ σ1)) := by
        intro x hx
        subst hx
        refine R_istore rfl (by decide) ?_
        refine R_iconst (v := 0) rfl rfl ?_
        refine R_istore rfl (by decide) ?_
        exact lp_st_c hmd hk hD ha2 hv (fun τ1 r1 h1 h2 => e202 τ1 _ _ h1 h2) h 0 τ (by omega) har q
      refine R_iload rfl rfl ?_
      refine R_nif_ne (x := fr) rfl rfl (by split at hfr <;> omega) (fun z => ?_) (fun z => ?_)
      · refine R_iconst (v := 0) rfl rfl ?_
        refine j142 0 (zP_f (fun y => ?_)).symm
        have : frB f m h w a = true := Decidable.byContradiction fun c => z (by rw [hfr, if_neg c])
        rw [this] at y
        exact absurd y (by simp)
      · refine R_iconst (v := 1) rfl rfl ?_
        refine R_goto rfl rfl ?_
        refine j142 1 (zP_t ?_).symm
        have : frB f m h w a = false := by
          cases c : frB f m h w a with
          | false => rfl
          | true => rw [if_pos c] at hfr; omega
        rw [this]
        rfl
    have e104 : ∀ τ y z (fr : Nat), fr = (if frB f m h w a = true then 1 else 0) → arF f m h w k a 0 τ → smP (pSe k) σ τ → am_R am_TX D 0 c_L_sets 104 [some (.ref 0), some (.int (nI m)), some (.int (nI S)), some (.int (nI (2 ^ w - 1))), some (.int (nI (2 ^ h - 1))), some (.int (nI (cbN (frB f m h w) (rkO f m (2 ^ h - 1) (2 ^ w - 1) h w) a))), some (.int (nI (ccN (frB f m h w) 6 a))), some (.ref k), some (.int (nI a)), some (.int (nI fr)), y, z] [] (ml τ ρ) (am_Oy (some (.int 1)) (fun σ1 ρ1 => ρ1 = ρ ∧ smP (pSe k) σ σ1)) := by
      intro τ y z fr hfr har q
      have add : ∀ τ (n : Nat), arF f m h w k a 0 τ → smP (pSe k) σ τ → cbN (frB f m h w) (rkO f m (2 ^ h - 1) (2 ^ w - 1) h w) (a + 1) = cbN (frB f m h w) (rkO f m (2 ^ h - 1) (2 ^ w - 1) h w) a + n → am_R am_TX D 0 c_L_sets 129 [some (.ref 0), some (.int (nI m)), some (.int (nI S)), some (.int (nI (2 ^ w - 1))), some (.int (nI (2 ^ h - 1))), some (.int (nI (cbN (frB f m h w) (rkO f m (2 ^ h - 1) (2 ^ w - 1) h w) a))), some (.int (nI (ccN (frB f m h w) 6 a))), some (.ref k), some (.int (nI a)), some (.int (nI fr)), y, z] [.int (nI n), .int (nI (cbN (frB f m h w) (rkO f m (2 ^ h - 1) (2 ^ w - 1) h w) a))] (ml τ ρ) (am_Oy (some (.int 1)) (fun σ1 ρ1 => ρ1 = ρ ∧ smP (pSe k) σ σ1)) := by
        intro τ n har q e
        refine R_iaddN (x := cbN (frB f m h w) (rkO f m (2 ^ h - 1) (2 ^ w - 1) h w) a) (y := n) rfl ?_
        rw [← e]
        refine R_istore rfl (by decide) ?_
        exact e132 τ _ _ fr hfr har q
      have no : ∀ τ, arF f m h w k a 0 τ → smP (pSe k) σ τ → ¬ (frB f m h w a = true ∧ pc a = rkO f m (2 ^ h - 1) (2 ^ w - 1) h w) → am_R am_TX D 0 c_L_sets 128 [some (.ref 0), some (.int (nI m)), some (.int (nI S)), some (.int (nI (2 ^ w - 1))), some (.int (nI (2 ^ h - 1))), some (.int (nI (cbN (frB f m h w) (rkO f m (2 ^ h - 1) (2 ^ w - 1) h w) a))), some (.int (nI (ccN (frB f m h w) 6 a))), some (.ref k), some (.int (nI a)), some (.int (nI fr)), y, z] [.int (nI (cbN (frB f m h w) (rkO f m (2 ^ h - 1) (2 ^ w - 1) h w) a))] (ml τ ρ) (am_Oy (some (.int 1)) (fun σ1 ρ1 => ρ1 = ρ ∧ smP (pSe k) σ σ1)) := by
        intro τ har q hn
        refine R_iconst (v := 0) rfl rfl ?_
        exact add τ 0 har q (if_neg hn)
      refine R_iload rfl rfl ?_
      refine R_iload rfl rfl ?_
      refine R_nif_eq (x := fr) rfl rfl (by split at hfr <;> omega) (fun z => no τ har q (fun y => by rw [if_pos y.1] at hfr; omega)) (fun z => ?_)
      have hfr1 : frB f m h w a = true := Decidable.byContradiction fun c => z (by rw [hfr, if_neg c])
      refine R_iload rfl rfl ?_
      refine R_pS (as := [.int (nI a)]) rfl rfl iv_JInteger_bitCount (pu_bitCount ha6) (by omega) rfl rfl rfl rfl (Nat.le_of_ble_eq_true rfl) ?_
      refine R_aload_n rfl rfl ?_
      refine R_iload_n rfl rfl ?_
      refine R_qV (as := [.int (nI m)]) rfl rfl iv_D_rank (sp_D_rank (vS_e q hk hv) hmd) (fun _ z => sm_lo z) (by omega) rfl rfl rfl rfl (Nat.le_of_ble_eq_true rfl) (fun τ18 r18 => ?_)
      have q18 := q.trans (sm_e r18)
      have ha3 := har.q hk r18
      refine R_nicmp_ne (x := pc a) (y := rkO f m (2 ^ h - 1) (2 ^ w - 1) h w) rfl rfl (by omega) (by omega) (fun z => no _ ha3 q18 (fun y => z y.2)) (fun z => ?_)
      refine R_iconst (v := 1) rfl rfl ?_
      refine R_goto rfl rfl ?_
      exact add _ 1 ha3 q18 (if_pos ⟨hfr1, z⟩)
    have e88 : ∀ τ x y z (fr : Nat), fr = (if frB f m h w a = true then 1 else 0) → arF f m h w k a 0 τ → smP (pSe k) σ τ → am_R am_TX D 0 c_L_sets 88 [some (.ref 0), some (.int (nI m)), some (.int (nI S)), some (.int (nI (2 ^ w - 1))), some (.int (nI (2 ^ h - 1))), some (.int (nI (cbN (frB f m h w) (rkO f m (2 ^ h - 1) (2 ^ w - 1) h w) a))), some (.int (nI (ccN (frB f m h w) 6 a))), some (.ref k), some (.int (nI a)), x, y, z] [.int (nI fr)] (ml τ ρ) (am_Oy (some (.int 1)) (fun σ1 ρ1 => ρ1 = ρ ∧ smP (pSe k) σ σ1)) := by
      intro τ x y z fr hfr har q
      refine R_istore rfl (by decide) ?_
      refine R_aload_n rfl rfl ?_
      refine R_iload_n rfl rfl ?_
      refine R_iload rfl rfl ?_
      refine R_qV (as := [.int (nI m), .int (nI (a))]) rfl rfl iv_D_areIndependent (sp_D_areIndependent (m := m) (S := a) (vS_e q hk hv) hmd ha2) (fun _ z => sm_lo z) (by omega) rfl rfl rfl rfl (Nat.le_of_ble_eq_true rfl) (fun τ19 r19 => ?_)
      have q19 := q.trans (sm_e r19)
      have ha3 := har.q hk r19
      refine R_iload rfl rfl ?_
      have e : zP (frB f m h w a = true) = nI fr := by
        by_cases c : frB f m h w a = true
        · rw [zP_t c, hfr, if_pos c]; rfl
        · rw [zP_f c, hfr, if_neg c]; rfl
      rw [e]
      refine R_icmp_eq rfl rfl (fun _ => ?_) (fun z => absurd rfl z)
      exact e104 _ _ _ fr hfr ha3 q19
    refine R_iload rfl rfl ?_
    refine R_iload rfl rfl ?_
    refine R_nicmp_gt (x := a) (y := 2 ^ h - 1) rfl rfl (by omega) (by omega) (fun z => by omega) (fun _ => ?_)
    refine R_aload_n rfl rfl ?_
    refine R_iload_n rfl rfl ?_
    refine R_iload rfl rfl ?_
    refine R_iload_n rfl rfl ?_
    refine R_qV (as := [.int (nI m), .int (nI (a)), .int (nI (2 ^ w - 1))]) rfl rfl iv_D_rankOf (sp_D_rankOf (m := m) (S := a) (T := 2 ^ w - 1) (vS_e q hk hv) hmd ha2 (lwP2 (Nat.le_refl w))) (fun _ z => sm_lo z) (by omega) rfl rfl rfl rfl (Nat.le_of_ble_eq_true rfl) (fun τ20 r20 => ?_)
    have q20 := q.trans (sm_e r20)
    have ha3 := har.q hk r20
    refine R_iload rfl rfl ?_
    refine R_pS (as := [.int (nI a)]) rfl rfl iv_JInteger_bitCount (pu_bitCount ha6) (by omega) rfl rfl rfl rfl (Nat.le_of_ble_eq_true rfl) ?_
    refine R_nicmp_ne (x := rkO f m a (2 ^ w - 1) h w) (y := pc a) rfl rfl (by omega) (by omega) (fun z => ?_) (fun z => ?_)
    · refine R_iconst (v := 0) rfl rfl ?_
      exact e88 _ _ _ _ 0 (if_neg (fun y => z (efr.mp y))).symm ha3 q20
    · refine R_iconst (v := 1) rfl rfl ?_
      refine R_goto rfl rfl ?_
      exact e88 _ _ _ _ 1 (if_pos (efr.mpr z)).symm ha3 q20
end LST
section LSB
variable {h w rh pn m S : Nat} {f v rl : am_Gr} {I : Nat → Int32} {ρ : am_Y}
theorem pl_sets (hf : fSm f h w) (hmd : m ∈ mdL) (hS : S < 2 ^ h) (hok : yOk ρ) (hl : yl ρ < 999) {σ : am_G} (hv : vS σ 26 h w f v rh rl pn I) : am_Call am_TX 9 1 c_L_sets [.ref 0, .int (nI m), .int (nI S)] (ml σ ρ) (am_Oy (some (.int 1)) (fun σ1 ρ1 => ρ1 = nY ρ (1, 6) ∧ smP (pSe (yl ρ)) σ σ1)) := by
  obtain ⟨hd, hm⟩ := md_dom hmd
  have hh := hv.1.1.2
  have hw := hv.1.2.1.2
  have h120 : 120 ≤ yl ρ := y_0
  refine ⟨mf_L_sets, Nat.le_of_ble_eq_true rfl, ?_⟩
  refine R_iconst (v := 1) rfl rfl ?_
  refine R_aload_n rfl rfl ?_
  refine R_iconst (v := 1) rfl rfl ?_
  refine R_qV (as := [.int 1]) rfl rfl iv_D_count (sp_D_count_1 hv) (fun _ z => sm_lo z) (by decide) rfl rfl rfl rfl (Nat.le_of_ble_eq_true rfl) (fun τ1 q1 => ?_)
  refine R_shl1N (y := w) rfl (by omega) ?_
  refine R_iconst (v := 1) rfl rfl ?_
  refine R_isubN (x := 2 ^ w) (y := 1) rfl (p2_pos) ?_
  refine R_istore_n rfl (by decide) ?_
  refine R_iconst (v := 1) rfl rfl ?_
  refine R_aload_n rfl rfl ?_
  refine R_iconst (v := 0) rfl rfl ?_
  refine R_qV (as := [.int 0]) rfl rfl iv_D_count (sp_D_count_0 (vS_q q1 hv)) (fun _ z => sm_lo z) (by decide) rfl rfl rfl rfl (Nat.le_of_ble_eq_true rfl) (fun τ2 q2 => ?_)
  refine R_shl1N (y := h) rfl (by omega) ?_
  refine R_iconst (v := 1) rfl rfl ?_
  refine R_isubN (x := 2 ^ h) (y := 1) rfl (p2_pos) ?_
  refine R_istore rfl (by decide) ?_
  refine R_iconst (v := 0) rfl rfl ?_
  refine R_istore rfl (by decide) ?_
  refine R_iconst (v := 0) rfl rfl ?_
  refine R_istore rfl (by decide) ?_
  refine R_bipush (v := 6) rfl (by decide) ?_
  refine Y_newI (k := 0) (N := 6) rfl rfl (by decide) (okL_n).all (okO_r (by omega) (okO_i (okO_i (okO_i (okO_i (okO_i (okO_i (okO_0 (okO_0 (okO_0 (okO_0 (okO_0 okO_n))))))))))) ).all hok (by omega) ?_
  have hA : ∀ σ0 : am_G, (ml σ0 (nY ρ (1, 6))).1[yl ρ]? = some (1, 6) := fun σ0 => ml_hi h120 nY_new
  have q2 := q1.trans q2
  refine R_dup rfl rfl ?_
  refine R_iconst (v := 0) rfl rfl ?_
  refine R_iconst (v := -1) rfl rfl ?_
  refine Y_wI (j := 0) rfl (hA _) rfl (by decide) (by decide) ?_
  refine R_dup rfl rfl ?_
  refine R_iconst (v := 1) rfl rfl ?_
  refine R_iconst (v := -1) rfl rfl ?_
  refine Y_wI (j := 1) rfl (hA _) rfl (by decide) (by decide) ?_
  refine R_dup rfl rfl ?_
  refine R_iconst (v := 2) rfl rfl ?_
  refine R_iconst (v := -1) rfl rfl ?_
  refine Y_wI (j := 2) rfl (hA _) rfl (by decide) (by decide) ?_
  refine R_dup rfl rfl ?_
  refine R_iconst (v := 3) rfl rfl ?_
  refine R_iconst (v := -1) rfl rfl ?_
  refine Y_wI (j := 3) rfl (hA _) rfl (by decide) (by decide) ?_
  refine R_dup rfl rfl ?_
  refine R_iconst (v := 4) rfl rfl ?_
  refine R_iconst (v := -1) rfl rfl ?_
  refine Y_wI (j := 4) rfl (hA _) rfl (by decide) (by decide) ?_
  refine R_dup rfl rfl ?_
  refine R_iconst (v := 5) rfl rfl ?_
  refine R_iconst (v := -1) rfl rfl ?_
  refine Y_wI (j := 5) rfl (hA _) rfl (by decide) (by decide) ?_
  refine R_astore rfl (by decide) ?_
  refine R_iconst (v := 0) rfl rfl ?_
  refine R_istore rfl (by decide) ?_
  have q3 : smP (pSe (yl ρ)) σ (nN τ2 (yl ρ)) := (sm_e q2).trans ⟨fun a b hn => ⟨nN_o (fun e => hn (Or.inr e)), if_neg (fun e => hn (Or.inr e))⟩, rfl⟩
  have hg := lp_st_1 (S := S) (k := yl ρ) (ρ := nY ρ (1, 6)) (σ0 := σ) (D := 9) hd hm hf hmd hS h120 (hA σ) (by decide) hv (2 ^ h) 0 none none none (sI (sI (sI (sI (sI (sI (nN τ2 (yl ρ)) (yl ρ) 0 (-1)) (yl ρ) 1 (-1)) (yl ρ) 2 (-1)) (yl ρ) 3 (-1)) (yl ρ) 4 (-1)) (yl ρ) 5 (-1)) (by omega) (fun j hj => ?_) (sm_ar (sm_ar (sm_ar (sm_ar (sm_ar (sm_ar q3))))))
  · exact hg
  · rw [if_neg (Nat.not_lt_zero j)]
    have e : ((sI (sI (sI (sI (sI (sI (nN τ2 (yl ρ)) (yl ρ) 0 (-1)) (yl ρ) 1 (-1)) (yl ρ) 2 (-1)) (yl ρ) 3 (-1)) (yl ρ) 4 (-1)) (yl ρ) 5 (-1)) : am_G).1 (yl ρ) j = -1 := by
      simp only [sI_1, if_pos]
      by_cases c5 : j = 5
      · rw [if_pos c5]
      rw [if_neg c5]
      by_cases c4 : j = 4
      · rw [if_pos c4]
      rw [if_neg c4]
      by_cases c3 : j = 3
      · rw [if_pos c3]
      rw [if_neg c3]
      by_cases c2 : j = 2
      · rw [if_pos c2]
      rw [if_neg c2]
      by_cases c1 : j = 1
      · rw [if_pos c1]
      rw [if_neg c1]
      rw [if_pos (by omega)]
    rw [e]
    exact fsC_0
end LSB
