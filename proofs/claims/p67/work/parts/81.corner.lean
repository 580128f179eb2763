/-! ===== ranks of corners ===== -/
section COR
variable {f : am_Gr} {m h w : Nat}
abbrev ck (f : am_Gr) (m h w r c : Nat) : Nat := rkO f m (2 ^ r - 1) (2 ^ c - 1) h w
theorem ck_rk (hd : zdom m) (hm : m ≤ 97) (hf : fSm f h w) (hh : h ≤ 6) (hw : w ≤ 6) {r c : Nat} (hr : r ≤ h) (hc : c ≤ w) : rkP m (fZ f) (fun x => x < r) (fun y => y < c) (ck f m h w r c) := by
  obtain ⟨⟨R, J, a, b, n⟩, h2⟩ := rkO_rk hd hm hf hh hw (p2_64 (lwP2 hr) hh) (lwP2 hc)
  refine ⟨⟨R, J, fun i hi => ?_, fun i hi => ?_, n⟩, fun k R J hR hJ hn => h2 k R J (fun i hi => ⟨by have := hR i hi; omega, ?_⟩) (fun i hi => ⟨by have := hJ i hi; omega, ?_⟩) hn⟩
  · have := a i hi
    exact (tb_lw (by omega) (by omega)).mp this.2
  · have := b i hi
    exact (tb_lw (by omega) (by omega)).mp this.2
  · have := hR i hi
    exact (tb_lw (by omega) (by omega)).mpr this
  · have := hJ i hi
    exact (tb_lw (by omega) (by omega)).mpr this
theorem ck_mono (hd : zdom m) (hm : m ≤ 97) (hf : fSm f h w) (hh : h ≤ 6) (hw : w ≤ 6) {r c r2 c2 : Nat} (hr : r2 ≤ h) (hc : c2 ≤ w) (h1 : r ≤ r2) (h2 : c ≤ c2) : ck f m h w r c ≤ ck f m h w r2 c2 :=
  (ck_rk hd hm hf hh hw (by omega) (by omega)).mono (ck_rk hd hm hf hh hw hr hc) (fun x hx => by omega) (fun x hx => by omega)
theorem ck_r (hd : zdom m) (hm : m ≤ 97) (hf : fSm f h w) (hh : h ≤ 6) (hw : w ≤ 6) {r c : Nat} (hr : r < h) (hc : c ≤ w) : ck f m h w (r + 1) c ≤ ck f m h w r c + 1 :=
  (ck_rk hd hm hf hh hw (by omega) hc).step (r := r) (ck_rk hd hm hf hh hw (by omega) hc) (fun x hx => by omega)
theorem ck_c (hd : zdom m) (hm : m ≤ 97) (hf : fSm f h w) (hh : h ≤ 6) (hw : w ≤ 6) {r c : Nat} (hr : r ≤ h) (hc : c < w) : ck f m h w r (c + 1) ≤ ck f m h w r c + 1 :=
  (ck_rk hd hm hf hh hw hr (by omega)).T.step (r := c) (ck_rk hd hm hf hh hw hr (by omega)).T (fun x hx => by omega)
/-- both ways one more: two more -/
theorem ck_bb (hd : zdom m) (hm : m ≤ 97) (hf : fSm f h w) (hh : h ≤ 6) (hw : w ≤ 6) {r c : Nat} (hr : r < h) (hc : c < w) (h1 : ck f m h w r (c + 1) = ck f m h w r c + 1) (h2 : ck f m h w (r + 1) c = ck f m h w r c + 1) : ck f m h w r c + 2 ≤ ck f m h w (r + 1) (c + 1) := by
  obtain ⟨⟨R, J, a, b, n⟩, top⟩ := ck_rk hd hm hf hh hw (r := r) (c := c) (by omega) (by omega)
  have hBM : ∀ x y, x < r → y < c → (m : Int) ∣ BM (fZ f) (ck f m h w r c) R J x y := by
    intro x y hx hy
    refine Decidable.byContradiction fun z => ?_
    have := top (ck f m h w r c + 1) (bR (ck f m h w r c) R x) (bR (ck f m h w r c) J y) (fun i hi => ?_) (fun i hi => ?_) z
    · omega
    · unfold bR; split
      · exact a i (by assumption)
      · exact hx
    · unfold bR; split
      · exact b i (by assumption)
      · exact hy
  obtain ⟨x, hx, nx⟩ : ∃ x, x < r ∧ ¬ (m : Int) ∣ BM (fZ f) (ck f m h w r c) R J x c := by
    refine Classical.byContradiction fun z => ?_
    obtain ⟨⟨R2, J2, a2, b2, n2⟩, -⟩ := ck_rk hd hm hf hh hw (r := r) (c := c + 1) (by omega) (by omega)
    have := zz_max hd (Sp := fun x => x < r) (Tp := fun y => y < c + 1) n (fun x y hx hy => by
      by_cases e : y = c
      · subst e
        exact Decidable.byContradiction fun y => z ⟨x, hx, y⟩
      · exact hBM x y hx (by omega)) a2 b2 n2
    omega
  obtain ⟨y, hy, ny⟩ : ∃ y, y < c ∧ ¬ (m : Int) ∣ BM (fZ f) (ck f m h w r c) R J r y := by
    refine Classical.byContradiction fun z => ?_
    obtain ⟨⟨R2, J2, a2, b2, n2⟩, -⟩ := ck_rk hd hm hf hh hw (r := r + 1) (c := c) (by omega) (by omega)
    have := zz_max hd (Sp := fun x => x < r + 1) (Tp := fun y => y < c) n (fun x y hx hy => by
      by_cases e : x = r
      · subst e
        exact Decidable.byContradiction fun x => z ⟨y, hy, x⟩
      · exact hBM x y (by omega) hy) a2 b2 n2
    omega
  have syl := zz_syl (F := fZ f) (k := ck f m h w r c) (R := R) (J := J) (a := x) (c := c) (b := r) (d := y)
  have nz : ¬ (m : Int) ∣ BM (fZ f) (ck f m h w r c + 1) (bR (ck f m h w r c) R x) (bR (ck f m h w r c) J c) r y := by
    intro z
    have z2 : (m : Int) ∣ BM (fZ f) (ck f m h w r c) R J x c * BM (fZ f) (ck f m h w r c) R J r y - BM (fZ f) (ck f m h w r c) R J r c * BM (fZ f) (ck f m h w r c) R J x y := by
      rw [← syl]
      exact zd_r z _
    have z3 := Int.dvd_add z2 (zd_r (hBM x y hx hy) (BM (fZ f) (ck f m h w r c) R J r c))
    rw [Int.sub_add_cancel] at z3
    exact hd.mul nx ny z3
  refine (ck_rk hd hm hf hh hw (r := r + 1) (c := c + 1) (by omega) (by omega)).2 (ck f m h w r c + 2) (bR (ck f m h w r c + 1) (bR (ck f m h w r c) R x) r) (bR (ck f m h w r c + 1) (bR (ck f m h w r c) J c) y) (fun i hi => ?_) (fun i hi => ?_) nz
  · unfold bR
    split
    · split
      · have := a i (by assumption); omega
      · omega
    · omega
  · unfold bR
    split
    · split
      · have := b i (by assumption); omega
      · omega
    · omega
/-- a pivot stands in row r, column c -/
abbrev isP (f : am_Gr) (m h w r c : Nat) : Prop := ck f m h w r (c + 1) + 1 = ck f m h w (r + 1) (c + 1) ∧ ck f m h w (r + 1) c + 1 = ck f m h w (r + 1) (c + 1) ∧ ck f m h w r c + 1 = ck f m h w (r + 1) (c + 1)
theorem isP_u (hd : zdom m) (hm : m ≤ 97) (hf : fSm f h w) (hh : h ≤ 6) (hw : w ≤ 6) {r c : Nat} (hr : r < h) (hc : c < w) : (isP f m h w r c ↔ ck f m h w (r + 1) c = ck f m h w r c ∧ ck f m h w (r + 1) (c + 1) = ck f m h w r (c + 1) + 1) ∧ (isP f m h w r c ↔ ck f m h w r (c + 1) = ck f m h w r c ∧ ck f m h w (r + 1) (c + 1) = ck f m h w (r + 1) c + 1) ∧ (ck f m h w (r + 1) c = ck f m h w r c + 1 → ck f m h w (r + 1) (c + 1) = ck f m h w r (c + 1) + 1) ∧ (ck f m h w r (c + 1) = ck f m h w r c + 1 → ck f m h w (r + 1) (c + 1) = ck f m h w (r + 1) c + 1) ∧ (ck f m h w (r + 1) c = ck f m h w r c ∨ ck f m h w (r + 1) c = ck f m h w r c + 1) ∧ (ck f m h w r (c + 1) = ck f m h w r c ∨ ck f m h w r (c + 1) = ck f m h w r c + 1) := by
  have m1 := ck_mono hd hm hf hh hw (r := r) (c := c) (r2 := r + 1) (c2 := c) (by omega) (by omega) (by omega) (by omega)
  have m2 := ck_mono hd hm hf hh hw (r := r) (c := c) (r2 := r) (c2 := c + 1) (by omega) (by omega) (by omega) (by omega)
  have m3 := ck_mono hd hm hf hh hw (r := r + 1) (c := c) (r2 := r + 1) (c2 := c + 1) (by omega) (by omega) (by omega) (by omega)
  have m4 := ck_mono hd hm hf hh hw (r := r) (c := c + 1) (r2 := r + 1) (c2 := c + 1) (by omega) (by omega) (by omega) (by omega)
  have s1 := ck_r hd hm hf hh hw (r := r) (c := c) hr (by omega)
  have s2 := ck_r hd hm hf hh hw (r := r) (c := c + 1) hr (by omega)
  have s3 := ck_c hd hm hf hh hw (r := r) (c := c) (by omega) hc
  have s4 := ck_c hd hm hf hh hw (r := r + 1) (c := c) (by omega) hc
  have bb := ck_bb hd hm hf hh hw hr hc
  unfold isP
  generalize ck f m h w r c = a at *
  generalize ck f m h w (r + 1) c = b at *
  generalize ck f m h w r (c + 1) = d at *
  generalize ck f m h w (r + 1) (c + 1) = e at *
  refine ⟨by omega, by omega, fun z => ?_, fun z => ?_, by omega, by omega⟩
  · by_cases c : d = a + 1
    · have := bb c z; omega
    · omega
  · by_cases c : b = a + 1
    · have := bb z c; omega
    · omega
theorem ck_0 {c : Nat} : ck f m h w 0 c = 0 := by
  have h1 := @rkO_le f m 0 (2 ^ c - 1) h w
  have h2 : ∀ n, nb 0 n = 0 := fun n => by induction n with | zero => rfl | succ n ih => simp [nb, ih]
  rw [h2] at h1
  exact Nat.le_zero.mp h1
theorem ck_c0 (hd : zdom m) (hm : m ≤ 97) (hf : fSm f h w) (hh : h ≤ 6) (hw : w ≤ 6) {r : Nat} (hr : r ≤ h) : ck f m h w r 0 = 0 := by
  obtain ⟨⟨R, J, a, b, n⟩, -⟩ := ck_rk hd hm hf hh hw (r := r) (c := 0) hr (Nat.zero_le _)
  refine Decidable.byContradiction fun z => ?_
  exact absurd (b 0 (by omega)) (Nat.not_lt_zero _)
theorem ptF_n {r : Nat} : ∀ u c, (∀ c', c ≤ c' → c' < c + u → ¬ isP f m h w r c') → ptF f m h w r u c = -1
  | 0, _, _ => rfl
  | u + 1, c, hn => by
    simp only [ptF]
    rw [if_neg (fun z => hn c (Nat.le_refl c) (by omega) z)]
    exact ptF_n u (c + 1) (fun p h1 h2 => hn p (by omega) (by omega))
theorem ptF_s {r c0 : Nat} (hp : isP f m h w r c0) : ∀ u c, c ≤ c0 → c0 < c + u → (∀ c', c ≤ c' → c' < c0 → ¬ isP f m h w r c') → ptF f m h w r u c = nI c0
  | 0, c, h1, h2, _ => by omega
  | u + 1, c, h1, h2, hn => by
    simp only [ptF]
    by_cases e : c = c0
    · subst e
      rw [if_pos hp]
    · rw [if_neg (fun z => hn c (Nat.le_refl c) (by omega) z)]
      exact ptF_s hp u (c + 1) (by omega) (by omega) (fun p' h3 h4 => hn p' (by omega) h4)
/-- what has been found in row r among the first c columns -/
def fnd (f : am_Gr) (m h w r c : Nat) (x : Int32) : Prop := (x = -1 ∧ ck f m h w (r + 1) c = ck f m h w r c ∧ ∀ c', c' < c → ¬ isP f m h w r c') ∨ ∃ c0, c0 < c ∧ x = nI c0 ∧ ck f m h w (r + 1) c = ck f m h w r c + 1 ∧ isP f m h w r c0 ∧ ∀ c', c' < c → isP f m h w r c' → c' = c0
theorem fnd_0 (hd : zdom m) (hm : m ≤ 97) (hf : fSm f h w) (hh : h ≤ 6) (hw : w ≤ 6) {r : Nat} (hr : r < h) : fnd f m h w r 0 (-1) := Or.inl ⟨rfl, by rw [ck_c0 hd hm hf hh hw (by omega), ck_c0 hd hm hf hh hw (by omega)], fun c' hc => absurd hc (Nat.not_lt_zero _)⟩
theorem fnd_t (hd : zdom m) (hm : m ≤ 97) (hf : fSm f h w) (hh : h ≤ 6) (hw : w ≤ 6) {r c : Nat} (hr : r < h) (hc : c < w) {x : Int32} (hx : fnd f m h w r c x) (hp : isP f m h w r c) : x = -1 ∧ fnd f m h w r (c + 1) (nI c) := by
  obtain ⟨i1, -⟩ := isP_u hd hm hf hh hw hr hc
  have hp2 := i1.mp hp
  rcases hx with ⟨e, e2, hn⟩ | ⟨c0, h1, h2, h3, -⟩
  · refine ⟨e, Or.inr ⟨c, by omega, rfl, hp2.2, hp, fun c' hc' hp' => ?_⟩⟩
    by_cases z : c' = c
    · exact z
    · exact absurd hp' (hn c' (by omega))
  · omega
theorem fnd_f (hd : zdom m) (hm : m ≤ 97) (hf : fSm f h w) (hh : h ≤ 6) (hw : w ≤ 6) {r c : Nat} (hr : r < h) (hc : c < w) {x : Int32} (hx : fnd f m h w r c x) (hp : ¬ isP f m h w r c) : fnd f m h w r (c + 1) x := by
  obtain ⟨i1, i2, i3, i4, i5, i6⟩ := isP_u hd hm hf hh hw hr hc
  have j1 := ck_r hd hm hf hh hw (r := r) (c := c + 1) hr (by omega)
  have j2 := ck_mono hd hm hf hh hw (r := r) (c := c + 1) (r2 := r + 1) (c2 := c + 1) (by omega) (by omega) (by omega) (by omega)
  rcases hx with ⟨e, e2, hn⟩ | ⟨c0, h1, h2, h3, h4, h5⟩
  · refine Or.inl ⟨e, ?_, fun c' hc' => ?_⟩
    · refine Decidable.byContradiction fun z => hp (i1.mpr ⟨e2, by omega⟩)
    · by_cases z : c' = c
      · rw [z]; exact hp
      · exact hn c' (by omega)
  · refine Or.inr ⟨c0, by omega, h2, i3 h3, h4, fun c' hc' hp' => ?_⟩
    by_cases z : c' = c
    · subst z; exact absurd hp' hp
    · exact h5 c' (by omega) hp'
theorem fnd_e {r : Nat} {x : Int32} (hx : fnd f m h w r w x) : ptF f m h w r w 0 = x := by
  rcases hx with ⟨rfl, -, hn⟩ | ⟨c0, h1, rfl, -, h4, h5⟩
  · exact ptF_n w 0 (fun c' _ h2 => hn c' (by omega))
  · exact ptF_s h4 w 0 (Nat.zero_le _) (by omega) (fun c' _ h2 h3 => by have := h5 c' (by omega) h3; omega)
/-- the pivots' columns, r rows done -/
def pvC (f : am_Gr) (m h w r s : Nat) : Prop := s < 2 ^ w ∧ ∀ c, c < w → (s.testBit c = true ↔ ck f m h w r (c + 1) = ck f m h w r c + 1)
theorem pvC_0 : pvC f m h w 0 0 := by
  refine ⟨Nat.pos_of_ne_zero (by simp), fun c hc => ?_⟩
  rw [ck_0, ck_0]
  simp
theorem pvC_f (hd : zdom m) (hm : m ≤ 97) (hf : fSm f h w) (hh : h ≤ 6) (hw : w ≤ 6) {r s : Nat} (hr : r < h) (hs : pvC f m h w r s) (hn : ∀ c, c < w → ¬ isP f m h w r c) : pvC f m h w (r + 1) s := by
  refine ⟨hs.1, fun c hc => (hs.2 c hc).trans ?_⟩
  obtain ⟨i1, i2, i3, i4, i5, i6⟩ := isP_u hd hm hf hh hw hr hc
  have := hn c hc
  have j1 := ck_c hd hm hf hh hw (r := r + 1) (c := c) (by omega) hc
  have j2 := ck_mono hd hm hf hh hw (r := r + 1) (c := c) (r2 := r + 1) (c2 := c + 1) (by omega) (by omega) (by omega) (by omega)
  refine ⟨i4, fun z => ?_⟩
  refine Decidable.byContradiction fun y => this (i2.mpr ⟨by omega, z⟩)
theorem pvC_t (hd : zdom m) (hm : m ≤ 97) (hf : fSm f h w) (hh : h ≤ 6) (hw : w ≤ 6) {r s c0 : Nat} (hr : r < h) (hs : pvC f m h w r s) (h0 : c0 < w) (hp : isP f m h w r c0) (hn : ∀ c, c < w → isP f m h w r c → c = c0) : pvC f m h w (r + 1) (wi s c0) := by
  have hs6 := p2_64 hs.1 hw
  refine ⟨?_, fun c hc => ?_⟩
  · have hl := wi_lt hs6 (show c0 < 6 by omega)
    refine Decidable.byContradiction fun z => ?_
    have : ∃ j, j < 6 ∧ w ≤ j ∧ (wi s c0).testBit j = true := by
      have key : ∀ s : Nat, s < 64 → ∀ w : Nat, w ≤ 6 → (2 ^ w ≤ s → ∃ j, j < 6 ∧ (w ≤ j ∧ s.testBit j = true)) := by decide +kernel
      exact key _ hl w hw (by omega)
    obtain ⟨j, j1, j2, j3⟩ := this
    rcases (tb_wi hs6 (by omega) j1).mp j3 with z | z
    · exact absurd (tb_w hs.1 z) (by omega)
    · omega
  · rw [tb_wi hs6 (by omega) (by omega), hs.2 c hc]
    obtain ⟨i1, i2, i3, i4, i5, i6⟩ := isP_u hd hm hf hh hw hr hc
    constructor
    · rintro (z | z)
      · exact i4 z
      · subst z; exact (i2.mp hp).2
    · intro z
      rcases i6 with y | y
      · exact Or.inr (hn c hc (i2.mpr ⟨y, z⟩))
      · exact Or.inl y
theorem prC_tb {S : Nat} (hS : S < 64) (hd : zdom m) (hm : m ≤ 97) (hf : fSm f h w) (hh : h ≤ 6) (hw : w ≤ 6) : ∀ n, n ≤ w → ∀ c, c < n → ((prC f m S h w n).testBit c = true ↔ rkO f m S (2 ^ c - 1) h w < rkO f m S (2 ^ (c + 1) - 1) h w)
  | 0, _, c, hc => absurd hc (Nat.not_lt_zero c)
  | n + 1, hn, c, hc => by
    have ih := prC_tb hS hd hm hf hh hw n (by omega) c
    have hlt := @prC_lt2 f m S h w n
    have e := (prC_rk hS hd hm hf hh hw n (by omega)).1
    have h64 : prC f m S h w n < 64 := p2_64 hlt (by omega)
    simp only [prC]
    rw [e]
    by_cases z : rkO f m S (2 ^ n - 1) h w < rkO f m S (2 ^ (n + 1) - 1) h w
    · rw [if_pos z, tb_wi h64 (by omega) (by omega)]
      by_cases y : c = n
      · subst y
        exact ⟨fun _ => z, fun _ => Or.inr rfl⟩
      · rw [← ih (by omega)]
        exact ⟨fun x => x.resolve_right y, Or.inl⟩
    · rw [if_neg z]
      by_cases y : c = n
      · subst y
        exact ⟨fun x => absurd x (tb_hi hlt), fun x => absurd x z⟩
      · exact ih (by omega)
theorem pvC_e (hd : zdom m) (hm : m ≤ 97) (hf : fSm f h w) (hh : h ≤ 6) (hw : w ≤ 6) {s : Nat} (hs : pvC f m h w h s) : s = prC f m (2 ^ h - 1) h w w := by
  have hS : 2 ^ h - 1 < 64 := p2_64 (lwP2 (Nat.le_refl h)) hh
  have hb := @prC_lt2 f m (2 ^ h - 1) h w w
  have hs6 := p2_64 hs.1 hw
  have hb6 := p2_64 hb hw
  have key : ∀ c, c < 6 → (s.testBit c = true ↔ (prC f m (2 ^ h - 1) h w w).testBit c = true) := by
    intro c hc
    by_cases hcw : c < w
    · rw [hs.2 c hcw, prC_tb hS hd hm hf hh hw w (Nat.le_refl w) c hcw]
      have j1 := ck_c hd hm hf hh hw (r := h) (c := c) (Nat.le_refl h) hcw
      have j2 := ck_mono hd hm hf hh hw (r := h) (c := c) (r2 := h) (c2 := c + 1) (Nat.le_refl h) (by omega) (Nat.le_refl h) (by omega)
      show ck f m h w h (c + 1) = ck f m h w h c + 1 ↔ ck f m h w h c < ck f m h w h (c + 1)
      omega
    · exact ⟨fun z => absurd (tb_w hs.1 z) hcw, fun z => absurd (tb_w hb z) hcw⟩
  exact Nat.le_antisymm (sub_le (tb_sub _ hs6 _ hb6 (fun x hx => (key x hx).mp))) (sub_le (tb_sub _ hb6 _ hs6 (fun x hx => (key x hx).mpr)))
end COR
