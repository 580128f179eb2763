/-! ===== pivots, inverses, minors, the class's ===== -/
theorem R_idecN {Tx : am_Tx} {d k : Nat} {c : am_C} {pc a b : Nat} {ls : List (Option Value)} {st : List Value} {μ : am_M} {Q : am_Res → Prop} {i x : Nat} {n : Int} (hc : c.2 pc = some (.iinc i n, 3, a, b)) (hn : n = -1) (hl : ls[i]? = some (some (.int (nI x)))) (hb : 1 ≤ x) (hi : i < c.1.2.2.1) (h : am_R Tx d k c (pc + 3) (am_st ls i (.int (nI (x - 1)))) st μ Q) : am_R Tx d k c pc ls st μ Q := by
  subst hn
  refine R_iinc hc hl hi ?_
  have e : nI x + Int32.ofInt (-1) = nI (x - 1) := by
    have h1 := pk_sub (b := 1) (a := x) hb
    rw [← h1, Int32.sub_eq_add_neg]; rfl
  rw [e]; exact h
theorem nI_s1 {x y : Nat} (hx : x < 2 ^ 31 - 1) (hy : y < 2 ^ 31 - 1) : nI y = nI x - 1 ↔ y + 1 = x := by
  have h1 := nI_toInt (show x < 2 ^ 31 by omega)
  have h2 := nI_toInt (show y < 2 ^ 31 by omega)
  have h3 := nI_toInt (show y + 1 < 2 ^ 31 by omega)
  have e : nI y + 1 = nI (y + 1) := nI_add y 1
  constructor
  · intro h
    have h4 : nI (y + 1) = nI x := by rw [← e, h]; exact Int32.sub_add_cancel _ _
    rw [h4, h1] at h3; omega
  · intro h
    rw [← h, ← e]; exact (Int32.add_sub_cancel _ _).symm
def ptF (f : am_Gr) (m h w r : Nat) : Nat → Nat → Int32
  | 0, _ => -1
  | n + 1, c => if rkO f m (2 ^ r - 1) (2 ^ (c + 1) - 1) h w + 1 = rkO f m (2 ^ (r + 1) - 1) (2 ^ (c + 1) - 1) h w ∧ rkO f m (2 ^ (r + 1) - 1) (2 ^ c - 1) h w + 1 = rkO f m (2 ^ (r + 1) - 1) (2 ^ (c + 1) - 1) h w ∧ rkO f m (2 ^ r - 1) (2 ^ c - 1) h w + 1 = rkO f m (2 ^ (r + 1) - 1) (2 ^ (c + 1) - 1) h w then nI c else ptF f m h w r n (c + 1)

set_option maxRecDepth 100000 in
set_option maxHeartbeats 4000000 in
theorem lp_pt {σ : am_G} {k h w m : Nat} {f : Nat → Nat → Int64} {r : Nat} {d k0 : Nat} (hM : isMat k) (hk : 21 ≤ k) (hv : vM σ k h w f) (hm : m < 2 ^ 31) (hr : r < h) (hd : 6 ≤ d)  : ∀ (uu i : Nat) (τ : am_G), i + uu = w → (smP (plc 19 21) σ τ) → am_R am_TX d k0 c_Reckoner_pivotColumn 3 [some (.ref 16), some (.ref k), some (.int (nI m)), some (.int (nI r)), some (.int (nI i)), none] [] (mm τ) (am_Ok (some (.int (ptF f m h w r uu i))) (fun σ1 => smP (plc 19 21) σ σ1)) := by
  have hh := hv.1.2
  have hw := hv.2.1.2
  intro uu
  induction uu with
  | zero =>
    intro i τ hi hI
    obtain rfl : w = i := by omega
    refine R_iload rfl rfl ?_
    refine R_aload_n rfl rfl ?_
    refine R_gIN (n := w) rfl hM.1 fd_4_1 (hI.vM hv (fun b => by unfold plc; omega) (fun b => by unfold plc; omega)).2.1.1 ?_
    refine R_nicmp_ge (x := w) (y := w) rfl rfl (by omega) (by omega) (fun h1 => ?_) (fun z => by omega)
    refine R_iconst (v := -1) rfl rfl ?_
    exact T_ireturn rfl rfl (am_oki rfl hI)
  | succ uu ih =>
    intro i τ hi hI
    refine R_iload rfl rfl ?_
    refine R_aload_n rfl rfl ?_
    refine R_gIN (n := w) rfl hM.1 fd_4_1 (hI.vM hv (fun b => by unfold plc; omega) (fun b => by unfold plc; omega)).2.1.1 ?_
    refine R_nicmp_ge (x := i) (y := w) rfl rfl (by omega) (by omega) (fun z => by omega) (fun h1 => ?_)
    refine R_aload_n rfl rfl ?_
    refine R_aload_n rfl rfl ?_
    refine R_iload_n rfl rfl ?_
    refine R_iload_n rfl rfl ?_
    refine R_iconst (v := 1) rfl rfl ?_
    refine R_iaddN (x := r) (y := 1) rfl ?_
    refine R_iload rfl rfl ?_
    refine R_iconst (v := 1) rfl rfl ?_
    refine R_iaddN (x := i) (y := 1) rfl ?_
    refine R_cV (as := [.ref k, .int (nI m), .int (nI (r + 1)), .int (nI (i + 1))]) rfl rfl iv_Reckoner_cornerRank (sp_cornerRank (m := m) (r := (r + 1)) (c := (i + 1)) hM (by omega) (hI.vM hv (fun b => by unfold plc; omega) (fun b => by unfold plc; omega)) (by omega) (by omega) (by omega)) (by omega) rfl rfl rfl (by decide) rfl rfl (Nat.le_of_ble_eq_true rfl) (fun σ1 hσ1 => ?_)
    refine R_iconst (v := 1) rfl rfl ?_
    refine R_isub rfl ?_
    refine R_istore rfl (by decide) ?_
    refine R_aload_n rfl rfl ?_
    refine R_aload_n rfl rfl ?_
    refine R_iload_n rfl rfl ?_
    refine R_iload_n rfl rfl ?_
    refine R_iload rfl rfl ?_
    refine R_iconst (v := 1) rfl rfl ?_
    refine R_iaddN (x := i) (y := 1) rfl ?_
    refine R_cV (as := [.ref k, .int (nI m), .int (nI r), .int (nI (i + 1))]) rfl rfl iv_Reckoner_cornerRank (sp_cornerRank (m := m) (r := r) (c := (i + 1)) hM (by omega) ((hI.trans hσ1).vM hv (fun b => by unfold plc; omega) (fun b => by unfold plc; omega)) (by omega) (by omega) (by omega)) (by omega) rfl rfl rfl (by decide) rfl rfl (Nat.le_of_ble_eq_true rfl) (fun σ3 hσ3 => ?_)
    refine R_iload rfl rfl ?_
    refine R_icmp_ne rfl rfl (fun h2 => ?_) (fun h2 => ?_)
    · refine R_iincN (x := i) (m := 1) rfl rfl rfl (by decide) ?_
      refine R_goto rfl rfl ?_
      have e := ih (i + 1) σ3 (by omega) ((hI.trans hσ1).trans hσ3)
      have q : ptF f m h w r (uu + 1) i = ptF f m h w r uu (i + 1) := if_neg (fun z => by simp only [nI_s1 (Nat.lt_of_le_of_lt (rkO_6 hh) (by decide)) (Nat.lt_of_le_of_lt (rkO_6 hh) (by decide))] at *; first | exact h2 z.1 | exact h3 z.2.1 | exact h4 z.2.2)
      rw [q]
      exact e.weak ⟨rfl, rfl, rfl, rfl, rfl, trivial⟩
    · refine R_aload_n rfl rfl ?_
      refine R_aload_n rfl rfl ?_
      refine R_iload_n rfl rfl ?_
      refine R_iload_n rfl rfl ?_
      refine R_iconst (v := 1) rfl rfl ?_
      refine R_iaddN (x := r) (y := 1) rfl ?_
      refine R_iload rfl rfl ?_
      refine R_cV (as := [.ref k, .int (nI m), .int (nI (r + 1)), .int (nI i)]) rfl rfl iv_Reckoner_cornerRank (sp_cornerRank (m := m) (r := (r + 1)) (c := i) hM (by omega) (((hI.trans hσ1).trans hσ3).vM hv (fun b => by unfold plc; omega) (fun b => by unfold plc; omega)) (by omega) (by omega) (by omega)) (by omega) rfl rfl rfl (by decide) rfl rfl (Nat.le_of_ble_eq_true rfl) (fun σ5 hσ5 => ?_)
      refine R_iload rfl rfl ?_
      refine R_icmp_ne rfl rfl (fun h3 => ?_) (fun h3 => ?_)
      · refine R_iincN (x := i) (m := 1) rfl rfl rfl (by decide) ?_
        refine R_goto rfl rfl ?_
        have e := ih (i + 1) σ5 (by omega) (((hI.trans hσ1).trans hσ3).trans hσ5)
        have q : ptF f m h w r (uu + 1) i = ptF f m h w r uu (i + 1) := if_neg (fun z => by simp only [nI_s1 (Nat.lt_of_le_of_lt (rkO_6 hh) (by decide)) (Nat.lt_of_le_of_lt (rkO_6 hh) (by decide))] at *; first | exact h2 z.1 | exact h3 z.2.1 | exact h4 z.2.2)
        rw [q]
        exact e.weak ⟨rfl, rfl, rfl, rfl, rfl, trivial⟩
      · refine R_aload_n rfl rfl ?_
        refine R_aload_n rfl rfl ?_
        refine R_iload_n rfl rfl ?_
        refine R_iload_n rfl rfl ?_
        refine R_iload rfl rfl ?_
        refine R_cV (as := [.ref k, .int (nI m), .int (nI r), .int (nI i)]) rfl rfl iv_Reckoner_cornerRank (sp_cornerRank (m := m) (r := r) (c := i) hM (by omega) ((((hI.trans hσ1).trans hσ3).trans hσ5).vM hv (fun b => by unfold plc; omega) (fun b => by unfold plc; omega)) (by omega) (by omega) (by omega)) (by omega) rfl rfl rfl (by decide) rfl rfl (Nat.le_of_ble_eq_true rfl) (fun σ7 hσ7 => ?_)
        refine R_iload rfl rfl ?_
        refine R_icmp_ne rfl rfl (fun h4 => ?_) (fun h4 => ?_)
        · refine R_iincN (x := i) (m := 1) rfl rfl rfl (by decide) ?_
          refine R_goto rfl rfl ?_
          have e := ih (i + 1) σ7 (by omega) ((((hI.trans hσ1).trans hσ3).trans hσ5).trans hσ7)
          have q : ptF f m h w r (uu + 1) i = ptF f m h w r uu (i + 1) := if_neg (fun z => by simp only [nI_s1 (Nat.lt_of_le_of_lt (rkO_6 hh) (by decide)) (Nat.lt_of_le_of_lt (rkO_6 hh) (by decide))] at *; first | exact h2 z.1 | exact h3 z.2.1 | exact h4 z.2.2)
          rw [q]
          exact e.weak ⟨rfl, rfl, rfl, rfl, rfl, trivial⟩
        · refine R_iload rfl rfl ?_
          exact T_ireturn rfl rfl (am_oki (if_pos (by simp only [nI_s1 (Nat.lt_of_le_of_lt (rkO_6 hh) (by decide)) (Nat.lt_of_le_of_lt (rkO_6 hh) (by decide))] at h2 h3 h4; exact ⟨h2, h3, h4⟩)).symm ((((hI.trans hσ1).trans hσ3).trans hσ5).trans hσ7))
set_option maxRecDepth 100000 in
set_option maxHeartbeats 4000000 in
theorem sp_pivotColumn {σ : am_G} {k h w m : Nat} {f : Nat → Nat → Int64} {r : Nat} (hM : isMat k) (hk : 21 ≤ k) (hv : vM σ k h w f) (hm : m < 2 ^ 31) (hr : r < h) : am_Call am_TX 6 0 c_Reckoner_pivotColumn [.ref 16, .ref k, .int (nI m), .int (nI r)] (mm σ) (am_Ok (some (.int (ptF f m h w r w 0))) (fun σ1 => smP (plc 19 21) σ σ1)) := by
  have hh := hv.1.2
  have hw := hv.2.1.2
  refine ⟨mf_Reckoner_pivotColumn, Nat.le_of_ble_eq_true rfl, ?_⟩
  refine R_iconst (v := 0) rfl rfl ?_
  refine R_istore rfl (by decide) ?_
  exact (lp_pt hM hk hv hm hr (by omega) w 0 σ (by omega) smP.refl).weak ⟨rfl, rfl, rfl, rfl, rfl, trivial⟩
def mbI (S p : Nat) : Int32 := if p < pc S then nI (sel S p) else -1
theorem mbI_hit {S p i : Nat} (h : S.testBit i = true) (e : nb S i = p) (hmo : nb S (i + 1) ≤ nb S 6) (hpc : pc S = nb S 6) (hs : sel S (nb S i) = i) : nI i = mbI S p := by
  have hb := nb_t h
  unfold mbI
  rw [if_pos (by omega), ← e, hs]
set_option maxRecDepth 100000 in
set_option maxHeartbeats 4000000 in
theorem lp_memberAt {σ : am_G} {S p : Nat} {d k0 : Nat} (hS : S < 64) (hp : p < 6) (hd : 1 ≤ d)  : ∀ (uu i : Nat) (τ : am_G), i + uu = 6 → (τ = σ ∧ nb S i ≤ p) → am_R am_TX d k0 c_Reckoner_memberAt 5 [some (.ref 16), some (.int (nI S)), some (.int (nI p)), some (.int (nI (p - nb S i))), some (.int (nI i))] [] (mm τ) (am_Ok (some (.int (mbI S p))) (fun σ1 => σ1 = σ)) := by
  intro uu
  induction uu with
  | zero =>
    intro i τ hi hI
    obtain rfl : 6 = i := by omega
    have hn := hI.2
    have hpc := pc_nb hS
    refine R_iload rfl rfl ?_
    refine R_bipush (v := 6) rfl (by decide) ?_
    refine R_nicmp_ge (x := 6) (y := 6) rfl rfl (by omega) (by omega) (fun h1 => ?_) (fun z => by omega)
    refine R_iconst (v := -1) rfl rfl ?_
    exact T_ireturn rfl rfl (am_oki ((if_neg (by omega)).symm) hI.1)
  | succ uu ih =>
    intro i τ hi hI
    have hn := hI.2
    have hns := fun z => sel_nb (s := S) (k := i) hS (by omega) z
    have hpc := pc_nb hS
    have hmo := @nb_mono S (i + 1) 6 (by omega)
    refine R_iload rfl rfl ?_
    refine R_bipush (v := 6) rfl (by decide) ?_
    refine R_nicmp_ge (x := i) (y := 6) rfl rfl (by omega) (by omega) (fun z => by omega) (fun h1 => ?_)
    refine R_iload_n rfl rfl ?_
    refine R_iload rfl rfl ?_
    refine R_cN (as := [.int (nI S), .int (nI i)]) rfl rfl iv_D_has (sp_has (s := S) (k := i) (by first | assumption | exact lw_lt (by omega) | exact wi_lt (by first | assumption | omega) (by omega) | exact wo_lt (by first | assumption | omega) (by omega) | omega) (by omega)) (by omega) rfl rfl rfl rfl (Nat.le_of_ble_eq_true rfl) (fun _ q => ?_)
    obtain rfl := q.symm
    refine R_zif_eq rfl rfl (fun h2 => ?_) (fun h2 => ?_)
    · refine R_iincN (x := i) (m := 1) rfl rfl rfl (by decide) ?_
      refine R_goto rfl rfl ?_
      have hb : nb S (i + 1) = nb S i := nb_f h2
      have e := ih (i + 1) τ (by omega) ⟨hI.1, by omega⟩
      rw [hb] at e
      exact e.weak ⟨rfl, rfl, rfl, rfl, rfl, trivial⟩
    · refine R_iload_n rfl rfl ?_
      refine R_nif_ne (x := (p - nb S i)) rfl rfl (by omega) (fun h3 => ?_) (fun h3 => ?_)
      · refine R_idecN (x := (p - nb S i)) rfl rfl rfl (by omega) (by decide) ?_
        refine R_iincN (x := i) (m := 1) rfl rfl rfl (by decide) ?_
        refine R_goto rfl rfl ?_
        have hb : nb S (i + 1) = nb S i + 1 := nb_t h2
        have e := ih (i + 1) τ (by omega) ⟨hI.1, by omega⟩
        rw [hb, show p - (nb S i + 1) = p - nb S i - 1 by omega] at e
        exact e.weak ⟨rfl, rfl, rfl, rfl, rfl, trivial⟩
      · refine R_iload rfl rfl ?_
        exact T_ireturn rfl rfl (am_oki (mbI_hit h2 (by omega) hmo hpc (hns h2)) hI.1)
set_option maxRecDepth 100000 in
set_option maxHeartbeats 4000000 in
theorem sp_memberAt {σ : am_G} {S p : Nat} (hS : S < 64) (hp : p < 6) : am_Call am_TX 1 0 c_Reckoner_memberAt [.ref 16, .int (nI S), .int (nI p)] (mm σ) (am_Ok (some (.int (mbI S p))) (fun σ1 => σ1 = σ)) := by
  refine ⟨mf_Reckoner_memberAt, Nat.le_of_ble_eq_true rfl, ?_⟩
  refine R_iload_n rfl rfl ?_
  refine R_istore_n rfl (by decide) ?_
  refine R_iconst (v := 0) rfl rfl ?_
  refine R_istore rfl (by decide) ?_
  exact (lp_memberAt hS hp (by omega) 6 0 σ rfl ⟨rfl, Nat.zero_le p⟩).weak ⟨rfl, rfl, rfl, rfl, rfl, trivial⟩
theorem i32_dec {x : Int32} (h : -1000 ≤ x.toInt) : (x + Int32.ofInt (-1)).toInt = x.toInt - 1 := by
  have h2 := Int32.toInt_lt x
  rw [Int32.toInt_add, show (Int32.ofInt (-1)).toInt = -1 from rfl]
  exact Int.bmod_eq_of_le (by omega) (by omega)
set_option maxRecDepth 100000 in
set_option maxHeartbeats 4000000 in
theorem lp_memberAtN {σ : am_G} {S : Nat} {d k0 : Nat} (hS : S < 64) (hd : 1 ≤ d)  : ∀ (uu i : Nat) (x : Int32) (τ : am_G), i + uu = 6 → (τ = σ ∧ x.toInt < 0 ∧ -1 - (i : Nat) ≤ x.toInt) → am_R am_TX d k0 c_Reckoner_memberAt 5 [some (.ref 16), some (.int (nI S)), none, some (.int x), some (.int (nI i))] [] (mm τ) (am_Ok (some (.int (-1))) (fun σ1 => σ1 = σ)) := by
  intro uu
  induction uu with
  | zero =>
    intro i x τ hi hI
    obtain rfl : 6 = i := by omega
    skip
    refine R_iload rfl rfl ?_
    refine R_bipush (v := 6) rfl (by decide) ?_
    refine R_nicmp_ge (x := 6) (y := 6) rfl rfl (by omega) (by omega) (fun h1 => ?_) (fun z => by omega)
    refine R_iconst (v := -1) rfl rfl ?_
    exact T_ireturn rfl rfl (am_oki rfl hI.1)
  | succ uu ih =>
    intro i x τ hi hI
    have hx1 := hI.2.1
    have hx2 := hI.2.2
    refine R_iload rfl rfl ?_
    refine R_bipush (v := 6) rfl (by decide) ?_
    refine R_nicmp_ge (x := i) (y := 6) rfl rfl (by omega) (by omega) (fun z => by omega) (fun h1 => ?_)
    refine R_iload_n rfl rfl ?_
    refine R_iload rfl rfl ?_
    refine R_cN (as := [.int (nI S), .int (nI i)]) rfl rfl iv_D_has (sp_has (s := S) (k := i) (by first | assumption | exact lw_lt (by omega) | exact wi_lt (by first | assumption | omega) (by omega) | exact wo_lt (by first | assumption | omega) (by omega) | omega) (by omega)) (by omega) rfl rfl rfl rfl (Nat.le_of_ble_eq_true rfl) (fun _ q => ?_)
    obtain rfl := q.symm
    refine R_zif_eq rfl rfl (fun h2 => ?_) (fun h2 => ?_)
    · refine R_iincN (x := i) (m := 1) rfl rfl rfl (by decide) ?_
      refine R_goto rfl rfl ?_
      exact (ih (i + 1) x τ (by omega) ⟨hI.1, by omega, by omega⟩).weak ⟨rfl, rfl, rfl, rfl, trivial⟩
    · refine R_iload_n rfl rfl ?_
      refine R_if_ne rfl rfl (fun h3 => ?_) (fun z => (by have := hI.2.1; rw [z] at this; exact absurd this (by decide)))
      refine R_iinc rfl rfl (by decide) ?_
      refine R_iincN (x := i) (m := 1) rfl rfl rfl (by decide) ?_
      refine R_goto rfl rfl ?_
      have e := i32_dec (x := x) (by omega)
      exact (ih (i + 1) (x + Int32.ofInt (-1)) τ (by omega) ⟨hI.1, by omega, by omega⟩).weak ⟨rfl, rfl, rfl, rfl, trivial⟩
set_option maxRecDepth 100000 in
set_option maxHeartbeats 4000000 in
theorem sp_memberAtN {σ : am_G} {S : Nat} (hS : S < 64) : am_Call am_TX 1 0 c_Reckoner_memberAt [.ref 16, .int (nI S), .int (-1)] (mm σ) (am_Ok (some (.int (-1))) (fun σ1 => σ1 = σ)) := by
  refine ⟨mf_Reckoner_memberAt, Nat.le_of_ble_eq_true rfl, ?_⟩
  refine R_iload_n rfl rfl ?_
  refine R_istore_n rfl (by decide) ?_
  refine R_iconst (v := 0) rfl rfl ?_
  refine R_istore rfl (by decide) ?_
  exact (lp_memberAtN hS (by omega) 6 0 (-1) σ rfl ⟨rfl, by decide, by decide⟩).weak ⟨rfl, rfl, rfl, rfl, trivial⟩
/-- a sum over a set's members -/
def sTm (g : Nat → Int64) (s : Nat) : Nat → Int64
  | 0 => 0
  | c + 1 => if s.testBit c then sTm g s c + g c else sTm g s c
/-- the minor of the first rows of S and the columns s -/
def mnR (f : am_Gr) (S w : Nat) : Nat → Nat → Int64
  | 0, s => if s = 0 then 1 else 0
  | n + 1, s => if n < pc S then sTm (fun c => sgL s c (f (sel S n) c * mnR f S w n (wo s c))) s w else 0
def mnF (f : am_Gr) (S w s : Nat) : Int64 := mnR f S w (pc s) s
def mnS (σ : am_G) (n : Nat) (g : Nat → Int64) : am_G := (σ.1, aF σ.2.1 23 n g, σ.2.2)
theorem pc_wo {s c : Nat} (hs : s < 64) (hc : c < 6) (h : s.testBit c = true) : pc (wo s c) + 1 = pc s ∧ wo s c < s := by
  have key : ∀ s : Nat, s < 64 → ∀ c : Nat, c < 6 → (s.testBit c = true → pc (wo s c) + 1 = pc s ∧ wo s c < s) := by decide +kernel
  exact key s hs c hc h
theorem pc_pos {s : Nat} (hs : s < 64) (h : s ≠ 0) : 0 < pc s := by
  have key : ∀ s : Nat, s < 64 → (s ≠ 0 → 0 < pc s) := by decide +kernel
  exact key s hs h
theorem mnS_off {σ : am_G} {k h w n : Nat} {f : am_Gr} {g : Nat → Int64} (hv : vM σ k h w f) (hk : k + 1 ≠ 23) : vM (mnS σ n g) k h w f :=
  ⟨hv.1, hv.2.1, fun i j hi hj => by rw [← hv.2.2 i j hi hj]; exact congrFun (aF_off hk) _⟩
theorem mnS_put {σ : am_G} {n : Nat} {g : Nat → Int64} {x : Int64} (hx : x = g n) : sL (mnS σ n g) 23 n x = mnS σ (n + 1) g := Prod.ext rfl (Prod.ext (aF_put hx) rfl)
theorem mnS_at {σ : am_G} {n b : Nat} {g : Nat → Int64} (h : b < n) : (mnS σ n g).2.1 23 b = g b := by
  show aF σ.2.1 23 n g 23 b = _
  unfold aF; rw [if_pos rfl, if_pos h]
theorem mnS_0 {σ : am_G} {g : Nat → Int64} : mnS σ 0 g = σ := Prod.ext rfl (Prod.ext aF_0 rfl)
theorem mnS_fr {σ : am_G} {n : Nat} {g : Nat → Int64} : smP (plc 23 24) σ (mnS σ n g) := ⟨fun a b hn => ⟨rfl, congrFun (aF_off (fun e => hn (by unfold plc; omega))) b⟩, rfl⟩
set_option maxRecDepth 100000 in
set_option maxHeartbeats 4000000 in
theorem sp_minorAt {σ : am_G} {s : Nat} (hs : s < 64) : am_Call am_TX 0 0 c_Reckoner_minorAt [.ref 16, .int (nI s)] (mm σ) (am_Ok (some (.long (σ.2.1 23 s))) (fun σ1 => σ1 = σ)) := by
  refine ⟨mf_Reckoner_minorAt, Nat.le_of_ble_eq_true rfl, ?_⟩
  refine R_iload_n rfl rfl ?_
  refine R_nif_lt (x := s) rfl rfl (by omega) (fun z => by omega) (fun h1 => ?_)
  refine R_iload_n rfl rfl ?_
  refine R_aload_n rfl rfl ?_
  refine R_gP (x := 23) rfl rfl fp_7_3 rfl ?_
  refine R_aln (v := 64) rfl rfl (by decide) (by decide) ?_
  refine R_nicmp_ge (x := s) (y := 64) rfl rfl (by omega) (by omega) (fun z => by omega) (fun h2 => ?_)
  refine R_aload_n rfl rfl ?_
  refine R_gP (x := 23) rfl rfl fp_7_3 rfl ?_
  refine R_iload_n rfl rfl ?_
  refine R_xL (j := s) rfl rfl rfl (by omega) (by decide) ?_
  refine R_goto rfl rfl ?_
  exact T_lreturn rfl rfl (am_okl rfl rfl)
set_option maxRecDepth 100000 in
set_option maxHeartbeats 4000000 in
theorem lp_exp1 {σ : am_G} {k h w S : Nat} {f : am_Gr} {s n : Nat} {d k0 : Nat} {Q : am_Res → Prop} (hM : isMat k) (hk : 24 ≤ k ∨ k = 21) (hv : vM σ k h w f) (hS : S < 64) (hs6 : s < 64) (hn : n + 1 = pc s) (hsel : sel S n < 6) (hd : 2 ≤ d) (hx : am_R am_TX d k0 c_Reckoner_expandMinors 102 [some (.ref 16), some (.ref k), some (.int (nI S)), some (.int (nI s)), some (.int (nI (sel S n))), some (.long (sTm (fun c => sgL s c (f (sel S n) c * mnR f S w n (wo s c))) s w)), none, some (.int (nI w)), none, none] [] (mm (mnS σ s (mnF f S w))) Q) : ∀ (uu i : Nat), i + uu = w → am_R am_TX d k0 c_Reckoner_expandMinors 38 [some (.ref 16), some (.ref k), some (.int (nI S)), some (.int (nI s)), some (.int (nI (sel S n))), some (.long (sTm (fun c => sgL s c (f (sel S n) c * mnR f S w n (wo s c))) s i)), none, some (.int (nI i)), none, none] [] (mm (mnS σ s (mnF f S w))) Q := by
  have hw := hv.2.1.2
  intro uu
  induction uu with
  | zero =>
    intro i hi
    obtain rfl : w = i := by omega
    refine R_iload rfl rfl ?_
    refine R_aload_n rfl rfl ?_
    refine R_gIN (n := w) rfl hM.1 fd_4_1 (mnS_off hv (by omega)).2.1.1 ?_
    refine R_nicmp_ge (x := w) (y := w) rfl rfl (by omega) (by omega) (fun h1 => ?_) (fun z => by omega)
    exact hx
  | succ uu ih =>
    intro i hi
    refine R_iload rfl rfl ?_
    refine R_aload_n rfl rfl ?_
    refine R_gIN (n := w) rfl hM.1 fd_4_1 (mnS_off hv (by omega)).2.1.1 ?_
    refine R_nicmp_ge (x := i) (y := w) rfl rfl (by omega) (by omega) (fun z => by omega) (fun h1 => ?_)
    refine R_iload rfl rfl ?_
    refine R_iconst (v := -1) rfl rfl ?_
    refine R_icmp_eq rfl rfl (fun z => absurd z (nI_m1 (by omega))) (fun _ => ?_)
    refine R_iload_n rfl rfl ?_
    refine R_iload rfl rfl ?_
    refine R_cN (as := [.int (nI s), .int (nI i)]) rfl rfl iv_D_has (sp_has (s := s) (k := i) (by first | assumption | exact lw_lt (by omega) | exact wi_lt (by first | assumption | omega) (by omega) | exact wo_lt (by first | assumption | omega) (by omega) | omega) (by omega)) (by omega) rfl rfl rfl rfl (Nat.le_of_ble_eq_true rfl) (fun _ q => ?_)
    obtain rfl := q.symm
    refine R_zif_eq rfl rfl (fun h2 => ?_) (fun h2 => ?_)
    · refine R_iincN (x := i) (m := 1) rfl rfl rfl (by decide) ?_
      refine R_goto rfl rfl ?_
      have e := ih (i + 1) (by omega)
      rw [show sTm (fun c => sgL s c (f (sel S n) c * mnR f S w n (wo s c))) s (i + 1) = sTm (fun c => sgL s c (f (sel S n) c * mnR f S w n (wo s c))) s i from if_neg h2] at e
      exact e.weak ⟨rfl, rfl, rfl, rfl, rfl, rfl, rfl, trivial⟩
    · refine R_aload_n rfl rfl ?_
      refine R_iload rfl rfl ?_
      refine R_iload rfl rfl ?_
      refine R_cV (as := [.int (nI (sel S n)), .int (nI i)]) rfl rfl iv_Matrix_at (sp_Matrix_at (i := (sel S n)) (j := i) hM (by omega) (by omega)) (by omega) rfl rfl hM.1 (by decide) rfl rfl (Nat.le_of_ble_eq_true rfl) (fun _ q => ?_)
      obtain rfl := q.symm
      refine R_aload_n rfl rfl ?_
      refine R_iload_n rfl rfl ?_
      refine R_iload rfl rfl ?_
      refine R_cN (as := [.int (nI s), .int (nI i)]) rfl rfl iv_D_without (sp_without (s := s) (k := i) (by first | assumption | exact lw_lt (by omega) | exact wi_lt (by first | assumption | omega) (by omega) | exact wo_lt (by first | assumption | omega) (by omega) | omega) (by omega)) (by omega) rfl rfl rfl rfl (Nat.le_of_ble_eq_true rfl) (fun _ q => ?_)
      obtain rfl := q.symm
      refine R_cV (as := [.int (nI (wo s i))]) rfl rfl iv_Reckoner_minorAt (sp_minorAt (s := (wo s i)) (by first | assumption | exact lw_lt (by omega) | exact wi_lt (by first | assumption | omega) (by omega) | exact wo_lt (by first | assumption | omega) (by omega) | omega)) (by omega) rfl rfl rfl (by decide) rfl rfl (Nat.le_of_ble_eq_true rfl) (fun _ q => ?_)
      obtain rfl := q.symm
      refine R_lmul rfl ?_
      refine R_lstore rfl (by decide) ?_
      refine R_lload rfl rfl ?_
      refine R_lload rfl rfl ?_
      refine R_iload_n rfl rfl ?_
      refine R_iload rfl rfl ?_
      refine R_cN (as := [.long ((gL (mnS σ s (mnF f S w)) k (sel S n) i) * ((mnS σ s (mnF f S w)).2.1 23 (wo s i))), .int (nI s), .int (nI i)]) rfl rfl iv_D_signed (sp_signed (v := ((gL (mnS σ s (mnF f S w)) k (sel S n) i) * ((mnS σ s (mnF f S w)).2.1 23 (wo s i)))) (s := s) (k := i) (by first | assumption | exact lw_lt (by omega) | exact wi_lt (by first | assumption | omega) (by omega) | exact wo_lt (by first | assumption | omega) (by omega) | omega) (by omega)) (by omega) rfl rfl rfl rfl (Nat.le_of_ble_eq_true rfl) (fun _ q => ?_)
      obtain rfl := q.symm
      refine R_ladd rfl ?_
      refine R_lstore rfl (by decide) ?_
      refine R_iincN (x := i) (m := 1) rfl rfl rfl (by decide) ?_
      refine R_goto rfl rfl ?_
      have hq := pc_wo hs6 (by omega) h2
      have e1 : gL (mnS σ s (mnF f S w)) k (sel S n) i = f (sel S n) i := (mnS_off hv (by omega)).at hsel (by omega)
      have e2 : (mnS σ s (mnF f S w)).2.1 23 (wo s i) = mnR f S w n (wo s i) := by rw [mnS_at hq.2]; unfold mnF; rw [show pc (wo s i) = n by omega]
      have e := ih (i + 1) (by omega)
      rw [show sTm (fun c => sgL s c (f (sel S n) c * mnR f S w n (wo s c))) s (i + 1) = sTm (fun c => sgL s c (f (sel S n) c * mnR f S w n (wo s c))) s i + sgL s i (f (sel S n) i * mnR f S w n (wo s i)) from if_pos h2, ← e1, ← e2] at e
      exact e.weak ⟨rfl, rfl, rfl, rfl, rfl, rfl, rfl, trivial⟩
theorem sel_lt {S p : Nat} (hS : S < 64) (h : p < pc S) : sel S p < 6 := by
  have key : ∀ S : Nat, S < 64 → ∀ p : Nat, p < 7 → sel S p < 6 := by decide +kernel
  have := @pc_le S
  exact key S hS p (by omega)
set_option maxRecDepth 100000 in
set_option maxHeartbeats 4000000 in
theorem lp_exp {σ : am_G} {k h w S : Nat} {f : am_Gr} {d k0 : Nat} {Q : am_Res → Prop} (hM : isMat k) (hk : 24 ≤ k ∨ k = 21) (hv : vM σ k h w f) (hS : S < 64) (hd : 2 ≤ d) (hx : am_R am_TX d k0 c_Reckoner_expandMinors 116 [some (.ref 16), some (.ref k), some (.int (nI S)), some (.int (nI 64)), none, none, none, none, none, none] [] (mm (mnS σ 64 (mnF f S w))) Q) : ∀ (uu i : Nat), i + uu = 64 → am_R am_TX d k0 c_Reckoner_expandMinors 2 [some (.ref 16), some (.ref k), some (.int (nI S)), some (.int (nI i)), none, none, none, none, none, none] [] (mm (mnS σ i (mnF f S w))) Q := by
  have hw := hv.2.1.2
  intro uu
  induction uu with
  | zero =>
    intro i hi
    obtain rfl : 64 = i := by omega
    refine R_iload_n rfl rfl ?_
    refine R_aload_n rfl rfl ?_
    refine R_gP (x := 23) rfl rfl fp_7_3 rfl ?_
    refine R_aln (v := 64) rfl rfl (by decide) (by decide) ?_
    refine R_nicmp_ge (x := 64) (y := 64) rfl rfl (by omega) (by omega) (fun h1 => ?_) (fun z => by omega)
    exact hx
  | succ uu ih =>
    intro i hi
    refine R_iload_n rfl rfl ?_
    refine R_aload_n rfl rfl ?_
    refine R_gP (x := 23) rfl rfl fp_7_3 rfl ?_
    refine R_aln (v := 64) rfl rfl (by decide) (by decide) ?_
    refine R_nicmp_ge (x := i) (y := 64) rfl rfl (by omega) (by omega) (fun z => by omega) (fun h1 => ?_)
    have hi6 : i < 64 := by omega
    have hpi := @pc_le i
    by_cases h0 : i = 0
    · skip
      refine R_aload_n rfl rfl ?_
      refine R_iload_n rfl rfl ?_
      refine R_iload_n rfl rfl ?_
      refine R_cS (as := [.int (nI i)]) rfl rfl iv_JInteger_bitCount (sp_bitCount (s := i) (by first | assumption | exact lw_lt (by omega) | exact wi_lt (by first | assumption | omega) (by omega) | exact wo_lt (by first | assumption | omega) (by omega) | omega)) (by omega) rfl rfl rfl rfl (Nat.le_of_ble_eq_true rfl) (fun _ q => ?_)
      obtain rfl := q.symm
      refine R_iconst (v := 1) rfl rfl ?_
      refine R_isub rfl ?_
      refine R_cV (as := [.int (nI S), .int ((nI (pc i)) - 1)]) rfl rfl iv_Reckoner_memberAt ((by rw [show nI (pc i) - 1 = (-1 : Int32) from by rw [h0]; rfl]; exact sp_memberAtN (σ := (mnS σ i (mnF f S w))) hS)) (by omega) rfl rfl rfl (by decide) rfl rfl (Nat.le_of_ble_eq_true rfl) (fun _ q => ?_)
      obtain rfl := q.symm
      refine R_istore rfl (by decide) ?_
      refine R_iload_n rfl rfl ?_
      refine R_nif_ne (x := i) rfl rfl (by omega) (fun z => by omega) (fun g1 => ?_)
      refine R_lconst (v := 1) rfl rfl ?_
      refine R_goto rfl rfl ?_
      refine R_lstore rfl (by decide) ?_
      refine R_iconst (v := 0) rfl rfl ?_
      refine R_istore rfl (by decide) ?_
      suffices hE : am_R am_TX d k0 c_Reckoner_expandMinors 102 [some (.ref 16), some (.ref k), some (.int (nI S)), some (.int (nI i)), some (.int (-1)), some (.long 1), none, some (.int 0), none, none] [] (mm (mnS σ i (mnF f S w))) Q by
        refine R_iload rfl rfl ?_
        refine R_aload_n rfl rfl ?_
        refine R_gIN (n := w) rfl hM.1 fd_4_1 (mnS_off hv (by omega)).2.1.1 ?_
        refine R_nicmp_ge (x := 0) (y := w) rfl rfl (by omega) (by omega) (fun p1 => ?_) (fun p1 => ?_)
        · exact hE
        · refine R_iload rfl rfl ?_
          refine R_iconst (v := -1) rfl rfl ?_
          refine R_icmp_eq rfl rfl (fun _ => ?_) (fun z => absurd z (by decide))
          exact hE
      refine R_aload_n rfl rfl ?_
      refine R_gP (x := 23) rfl rfl fp_7_3 rfl ?_
      refine R_iload_n rfl rfl ?_
      refine R_lload rfl rfl ?_
      refine R_wL (j := i) rfl rfl rfl (by omega) (by decide) ?_
      refine R_iincN (x := i) (m := 1) rfl rfl rfl (by decide) ?_
      refine R_goto rfl rfl ?_
      refine am_R.mem (σ' := (mnS σ (i + 1) (mnF f S w))) ?_ ((ih (i + 1) (by omega)).weak ⟨rfl, rfl, rfl, rfl, trivial⟩)
      rw [mnS_put (by subst h0; rfl)]
    · have hpp := pc_pos hi6 h0
      by_cases h2 : pc i - 1 < pc S
      · have hsl : sel S (pc i - 1) < 6 := sel_lt hS h2
        refine R_aload_n rfl rfl ?_
        refine R_iload_n rfl rfl ?_
        refine R_iload_n rfl rfl ?_
        refine R_cS (as := [.int (nI i)]) rfl rfl iv_JInteger_bitCount (sp_bitCount (s := i) (by first | assumption | exact lw_lt (by omega) | exact wi_lt (by first | assumption | omega) (by omega) | exact wo_lt (by first | assumption | omega) (by omega) | omega)) (by omega) rfl rfl rfl rfl (Nat.le_of_ble_eq_true rfl) (fun _ q => ?_)
        obtain rfl := q.symm
        refine R_iconst (v := 1) rfl rfl ?_
        refine R_isub rfl ?_
        refine R_cV (as := [.int (nI S), .int ((nI (pc i)) - 1)]) rfl rfl iv_Reckoner_memberAt ((by rw [show nI (pc i) - 1 = nI (pc i - 1) from pk_sub (a := pc i) (b := 1) (by omega)]; have z := sp_memberAt (σ := (mnS σ i (mnF f S w))) (S := S) (p := pc i - 1) hS (by omega); rw [show mbI S (pc i - 1) = nI (sel S (pc i - 1)) from if_pos h2] at z; exact z)) (by omega) rfl rfl rfl (by decide) rfl rfl (Nat.le_of_ble_eq_true rfl) (fun _ q => ?_)
        obtain rfl := q.symm
        refine R_istore rfl (by decide) ?_
        refine R_iload_n rfl rfl ?_
        refine R_nif_ne (x := i) rfl rfl (by omega) (fun g1 => ?_) (fun z => by omega)
        refine R_lconst (v := 0) rfl rfl ?_
        refine R_lstore rfl (by decide) ?_
        refine R_iconst (v := 0) rfl rfl ?_
        refine R_istore rfl (by decide) ?_
        refine (lp_exp1 (s := i) (n := pc i - 1) hM hk hv hS hi6 (by omega) (by omega) (by omega) ?_ w 0 (by omega)).weak ⟨rfl, rfl, rfl, rfl, rfl, rfl, rfl, trivial⟩
        refine R_aload_n rfl rfl ?_
        refine R_gP (x := 23) rfl rfl fp_7_3 rfl ?_
        refine R_iload_n rfl rfl ?_
        refine R_lload rfl rfl ?_
        refine R_wL (j := i) rfl rfl rfl (by omega) (by decide) ?_
        refine R_iincN (x := i) (m := 1) rfl rfl rfl (by decide) ?_
        refine R_goto rfl rfl ?_
        refine am_R.mem (σ' := (mnS σ (i + 1) (mnF f S w))) ?_ ((ih (i + 1) (by omega)).weak ⟨rfl, rfl, rfl, rfl, trivial⟩)
        rw [mnS_put ?_]
        show _ = mnR f S w (pc i) i
        obtain ⟨n, hn⟩ : ∃ n, pc i = n + 1 := ⟨pc i - 1, by omega⟩
        rw [hn] at h2 ⊢
        exact (if_pos (by omega)).symm
      · skip
        refine R_aload_n rfl rfl ?_
        refine R_iload_n rfl rfl ?_
        refine R_iload_n rfl rfl ?_
        refine R_cS (as := [.int (nI i)]) rfl rfl iv_JInteger_bitCount (sp_bitCount (s := i) (by first | assumption | exact lw_lt (by omega) | exact wi_lt (by first | assumption | omega) (by omega) | exact wo_lt (by first | assumption | omega) (by omega) | omega)) (by omega) rfl rfl rfl rfl (Nat.le_of_ble_eq_true rfl) (fun _ q => ?_)
        obtain rfl := q.symm
        refine R_iconst (v := 1) rfl rfl ?_
        refine R_isub rfl ?_
        refine R_cV (as := [.int (nI S), .int ((nI (pc i)) - 1)]) rfl rfl iv_Reckoner_memberAt ((by rw [show nI (pc i) - 1 = nI (pc i - 1) from pk_sub (a := pc i) (b := 1) (by omega)]; have z := sp_memberAt (σ := (mnS σ i (mnF f S w))) (S := S) (p := pc i - 1) hS (by omega); rw [show mbI S (pc i - 1) = -1 from if_neg h2] at z; exact z)) (by omega) rfl rfl rfl (by decide) rfl rfl (Nat.le_of_ble_eq_true rfl) (fun _ q => ?_)
        obtain rfl := q.symm
        refine R_istore rfl (by decide) ?_
        refine R_iload_n rfl rfl ?_
        refine R_nif_ne (x := i) rfl rfl (by omega) (fun g1 => ?_) (fun z => by omega)
        refine R_lconst (v := 0) rfl rfl ?_
        refine R_lstore rfl (by decide) ?_
        refine R_iconst (v := 0) rfl rfl ?_
        refine R_istore rfl (by decide) ?_
        suffices hE : am_R am_TX d k0 c_Reckoner_expandMinors 102 [some (.ref 16), some (.ref k), some (.int (nI S)), some (.int (nI i)), some (.int (-1)), some (.long 0), none, some (.int 0), none, none] [] (mm (mnS σ i (mnF f S w))) Q by
          refine R_iload rfl rfl ?_
          refine R_aload_n rfl rfl ?_
          refine R_gIN (n := w) rfl hM.1 fd_4_1 (mnS_off hv (by omega)).2.1.1 ?_
          refine R_nicmp_ge (x := 0) (y := w) rfl rfl (by omega) (by omega) (fun p1 => ?_) (fun p1 => ?_)
          · exact hE
          · refine R_iload rfl rfl ?_
            refine R_iconst (v := -1) rfl rfl ?_
            refine R_icmp_eq rfl rfl (fun _ => ?_) (fun z => absurd z (by decide))
            exact hE
        refine R_aload_n rfl rfl ?_
        refine R_gP (x := 23) rfl rfl fp_7_3 rfl ?_
        refine R_iload_n rfl rfl ?_
        refine R_lload rfl rfl ?_
        refine R_wL (j := i) rfl rfl rfl (by omega) (by decide) ?_
        refine R_iincN (x := i) (m := 1) rfl rfl rfl (by decide) ?_
        refine R_goto rfl rfl ?_
        refine am_R.mem (σ' := (mnS σ (i + 1) (mnF f S w))) ?_ ((ih (i + 1) (by omega)).weak ⟨rfl, rfl, rfl, rfl, trivial⟩)
        rw [mnS_put ?_]
        show _ = mnR f S w (pc i) i
        obtain ⟨n, hn⟩ : ∃ n, pc i = n + 1 := ⟨pc i - 1, by omega⟩
        rw [hn] at h2 ⊢
        exact (if_neg (by omega)).symm
set_option maxRecDepth 100000 in
set_option maxHeartbeats 4000000 in
theorem sp_expandMinors {σ : am_G} {k h w S : Nat} {f : am_Gr} (hM : isMat k) (hk : 24 ≤ k ∨ k = 21) (hv : vM σ k h w f) (hS : S < 64) : am_Call am_TX 2 0 c_Reckoner_expandMinors [.ref 16, .ref k, .int (nI S)] (mm σ) (am_Ok none (fun σ1 => σ1 = mnS σ 64 (mnF f S w))) := by
  have hw := hv.2.1.2
  refine ⟨mf_Reckoner_expandMinors, Nat.le_of_ble_eq_true rfl, ?_⟩
  refine R_iconst (v := 0) rfl rfl ?_
  refine R_istore_n rfl (by decide) ?_
  refine am_R.mem (σ' := (mnS σ 0 (mnF f S w))) mnS_0.symm ((lp_exp hM hk hv hS (by omega) ?_ 64 0 (by omega)).weak ⟨rfl, rfl, rfl, rfl, trivial⟩)
  exact T_return rfl rfl (am_okv0 rfl)

