/-! ===== the class's ranks are ranks; profiles; the profile's minor isn't 0 ===== -/
/-- the entries are small -/
def fSm (f : am_Gr) (h w : Nat) : Prop := ∀ i j, i < h → j < w → (f i j).toInt.natAbs ≤ 20
abbrev fZ (f : am_Gr) : Nat → Nat → Int := fun i j => (f i j).toInt
theorem sel_in {S h i : Nat} (hS : S < 64) (hh : h ≤ 6) (hi : i < nb S h) : sel S i < h ∧ S.testBit (sel S i) = true := by
  have key : ∀ S : Nat, S < 64 → ∀ h : Nat, h < 7 → ∀ i : Nat, i < 6 → (i < nb S h → sel S i < h ∧ S.testBit (sel S i) = true) := by decide +kernel
  exact key S hS h (by omega) i (by have := @nb_le S h; omega) hi
theorem pc_nbw {T w : Nat} (hT : T < 2 ^ w) (hw : w ≤ 6) : pc T = nb T w := by
  have key : ∀ w : Nat, w < 7 → ∀ T : Nat, T < 64 → (T < 2 ^ w → pc T = nb T w) := by decide +kernel
  exact key w (by omega) T (Nat.lt_of_lt_of_le hT (Nat.pow_le_pow_right (by omega) hw)) hT
theorem p2_64 {T w : Nat} (hT : T < 2 ^ w) (hw : w ≤ 6) : T < 64 := Nat.lt_of_lt_of_le hT (Nat.pow_le_pow_right (n := 2) (by omega) hw)
theorem nb_lt {S x h : Nat} (hx : x < h) (hb : S.testBit x = true) : nb S x < nb S h := by
  have := nb_mono (s := S) (j := x + 1) (k := h) (by omega)
  rw [nb_t hb] at this; omega
theorem gaA_in {f : am_Gr} {m S T h w i j : Nat} (hi : i < nb S h) (hj : j < nb T w) : gaA f m S T h w i j = rdL m (f (sel S i) (sel T j)) := by
  unfold gaA gaG; rw [if_pos (Or.inl ⟨hi, hj⟩)]
theorem rd_dvd {m : Nat} {v : Int64} (hm : m < 2 ^ 31) : (m : Int) ∣ (rdL m v).toInt - v.toInt := by
  rw [rdL_int hm]
  have := Int.emod_add_mul_ediv v.toInt (m : Int)
  exact ⟨-(v.toInt / (m : Int)), by rw [Int.mul_neg]; omega⟩
theorem rd_rng {m : Nat} {v : Int64} (hm : m < 2 ^ 31) (h0 : m ≠ 0) : 0 ≤ (rdL m v).toInt ∧ (rdL m v).toInt < m := by
  rw [rdL_int hm]
  exact ⟨Int.emod_nonneg _ (by omega), Int.emod_lt_of_pos _ (by omega)⟩
abbrev rwP (S h : Nat) : Nat → Prop := fun x => x < h ∧ S.testBit x = true
theorem rkO_rk {f : am_Gr} {m S T h w : Nat} (hd : zdom m) (hm : m ≤ 97) (hf : fSm f h w) (hh : h ≤ 6) (hw : w ≤ 6) (hS : S < 64) (hT : T < 2 ^ w) : rkP m (fZ f) (rwP S h) (rwP T w) (rkO f m S T h w) := by
  have hT6 := p2_64 hT hw
  have e := el_rk (h := nb S h) (w := nb T w) (G := gaA f m S T h w) (A := fun i j => fZ f (sel S i) (sel T j)) hd hm (Nat.le_trans (nb_le h) hh) (fun _ i j hi hj => hf _ _ (sel_in hS hh hi).1 (sel_in hT6 hw hj).1)
    (fun i j hi hj => by rw [gaA_in hi hj]; exact rd_dvd (by omega)) (fun h0 i j hi hj => by rw [gaA_in hi hj]; exact rd_rng (by omega) h0)
  unfold rkO
  rw [pc_nbw hT hw]
  obtain ⟨⟨R, J, a, b, c⟩, h2⟩ := e
  refine ⟨⟨fun i => sel S (R i), fun i => sel T (J i), fun i hi => sel_in hS hh (a i hi), fun i hi => sel_in hT6 hw (b i hi), c⟩, fun k R J hR hJ hn => ?_⟩
  refine h2 k (fun i => nb S (R i)) (fun i => nb T (J i)) (fun i hi => nb_lt (hR i hi).1 (hR i hi).2) (fun i hi => nb_lt (hJ i hi).1 (hJ i hi).2) ?_
  rw [show MN (fun i j => fZ f (sel S i) (sel T j)) k (fun i => nb S (R i)) (fun i => nb T (J i)) = MN (fZ f) k R J from zzD_congr k (fun i j hi hj => by
    have h3 := hR i hi
    have h4 := hJ j hj
    simp only [sel_nb hS (show R i < 6 by omega) h3.2, sel_nb hT6 (show J j < 6 by omega) h4.2])]
  exact hn
theorem pc_wi {s k : Nat} (hs : s < 64) (hk : k < 6) (h : ¬ s.testBit k = true) : pc (wi s k) = pc s + 1 := by
  have key : ∀ s : Nat, s < 64 → ∀ k : Nat, k < 6 → (¬ s.testBit k = true → pc (wi s k) = pc s + 1) := by decide +kernel
  exact key s hs k hk h
theorem tb_wi {s k x : Nat} (hs : s < 64) (hk : k < 6) (hx : x < 6) : (wi s k).testBit x = true ↔ s.testBit x = true ∨ x = k := by
  have key : ∀ s : Nat, s < 64 → ∀ k : Nat, k < 6 → ∀ x : Nat, x < 6 → ((wi s k).testBit x = true ↔ s.testBit x = true ∨ x = k) := by decide +kernel
  exact key s hs k hk x hx
theorem tb_wo {s k x : Nat} (hs : s < 64) (hk : k < 6) (hx : x < 6) : (wo s k).testBit x = true ↔ s.testBit x = true ∧ x ≠ k := by
  have key : ∀ s : Nat, s < 64 → ∀ k : Nat, k < 6 → ∀ x : Nat, x < 6 → ((wo s k).testBit x = true ↔ s.testBit x = true ∧ x ≠ k) := by decide +kernel
  exact key s hs k hk x hx
theorem tb_lw {r x : Nat} (hr : r ≤ 6) (hx : x < 6) : (2 ^ r - 1).testBit x = true ↔ x < r := by
  have key : ∀ r : Nat, r < 7 → ∀ x : Nat, x < 6 → ((2 ^ r - 1).testBit x = true ↔ x < r) := by decide +kernel
  exact key r (by omega) x hx
theorem tb_hi {s k : Nat} (h : s < 2 ^ k) : ¬ s.testBit k = true := by
  rw [Nat.testBit_lt_two_pow h]; exact Bool.false_ne_true
theorem lwP2 {r w : Nat} (h : r ≤ w) : 2 ^ r - 1 < 2 ^ w := by
  have := Nat.pow_le_pow_right (n := 2) (by omega) h
  have := Nat.two_pow_pos r
  omega
theorem prC_lt2 {f : am_Gr} {m S h w : Nat} : ∀ r, prC f m S h w r < 2 ^ r
  | 0 => by show (0 : Nat) < 1; omega
  | r + 1 => by
    have ih := @prC_lt2 f m S h w r
    simp only [prC]
    have h2 : (2 : Nat) ^ (r + 1) = 2 ^ r + 2 ^ r := by rw [Nat.pow_succ]; omega
    split
    · unfold wi; split <;> omega
    · omega
section PRF
variable {f : am_Gr} {m h w : Nat}
/-- the members of the row profile's part below r are as many as the rank of the rows below r -/
theorem prR_rk (hd : zdom m) (hm : m ≤ 97) (hf : fSm f h w) (hh : h ≤ 6) (hw : w ≤ 6) : ∀ r, r ≤ h → pc (prR f m h w r) = rkO f m (2 ^ r - 1) (2 ^ w - 1) h w ∧ pc (prR f m h w r) = rkO f m (prR f m h w r) (2 ^ w - 1) h w
  | 0, _ => by
    have h1 := @rkO_le f m 0 (2 ^ w - 1) h w
    have h2 : ∀ n, nb 0 n = 0 := fun n => by induction n with | zero => rfl | succ n ih => simp [nb, ih]
    rw [h2] at h1
    have h3 : rkO f m 0 (2 ^ w - 1) h w = 0 := by omega
    have h4 : pc (prR f m h w 0) = 0 := by show pc 0 = 0; decide
    exact ⟨h4.trans h3.symm, h4.trans h3.symm⟩
  | r + 1, hr => by
    obtain ⟨ih1, ih2⟩ := prR_rk hd hm hf hh hw r (by omega)
    have b1 := prR_lt2 (f := f) (m := m) (h := h) (w := w) r
    have b2 := prR_lt (f := f) (m := m) (h := h) (w := w) r (by omega)
    have b3 := prR_lt (f := f) (m := m) (h := h) (w := w) (r + 1) (by omega)
    have hT : 2 ^ w - 1 < 2 ^ w := lwP2 (Nat.le_refl w)
    have k1 := rkO_rk (S := 2 ^ r - 1) hd hm hf hh hw (lw_lt (by omega)) hT
    have k2 := rkO_rk (S := 2 ^ (r + 1) - 1) hd hm hf hh hw (lw_lt (by omega)) hT
    have k3 := rkO_rk (S := prR f m h w r) hd hm hf hh hw b2 hT
    have hs : ∀ x, rwP (2 ^ (r + 1) - 1) h x ↔ rwP (2 ^ r - 1) h x ∨ x = r := fun x => by
      constructor
      · rintro ⟨g1, g2⟩
        rw [tb_lw (by omega) (by omega)] at g2
        by_cases e : x = r
        · exact Or.inr e
        · exact Or.inl ⟨g1, (tb_lw (by omega) (by omega)).mpr (by omega)⟩
      · rintro (⟨g1, g2⟩ | rfl)
        · rw [tb_lw (by omega) (by omega)] at g2
          exact ⟨g1, (tb_lw (by omega) (by omega)).mpr (by omega)⟩
        · exact ⟨by omega, (tb_lw (by omega) (by omega)).mpr (by omega)⟩
    have s1 := k1.step k2 (fun x hx => (hs x).mp hx)
    have s2 := k1.mono k2 (fun x hx => (hs x).mpr (Or.inl hx)) (fun _ z => z)
    by_cases hlt : pc (prR f m h w r) < rkO f m (2 ^ (r + 1) - 1) (2 ^ w - 1) h w
    · have e : prR f m h w (r + 1) = wi (prR f m h w r) r := by simp only [prR]; exact if_pos hlt
      rw [e] at b3 ⊢
      rw [pc_wi b2 (by omega) (tb_hi b1)]
      refine ⟨by omega, ?_⟩
      have k4 := rkO_rk (S := wi (prR f m h w r) r) hd hm hf hh hw b3 hT
      rw [← ih2] at k3
      rw [← ih1] at k1
      refine (rkP.add hd k3 k1 k4 k2 (fun x hx => ⟨hx.1, (tb_lw (by omega) (by omega)).mpr ?_⟩) (fun x => ?_) hs hlt).symm
      · refine Classical.byContradiction fun hn => ?_
        exact tb_hi (Nat.lt_of_lt_of_le b1 (Nat.pow_le_pow_right (n := 2) (by omega) (show r ≤ x by omega))) hx.2
      · constructor
        · rintro ⟨g1, g2⟩
          rcases (tb_wi b2 (by omega) (by omega)).mp g2 with g | g
          · exact Or.inl ⟨g1, g⟩
          · exact Or.inr g
        · rintro (⟨g1, g2⟩ | rfl)
          · exact ⟨g1, (tb_wi b2 (by omega) (by omega)).mpr (Or.inl g2)⟩
          · exact ⟨by omega, (tb_wi b2 (by omega) (by omega)).mpr (Or.inr rfl)⟩
    · have e : prR f m h w (r + 1) = prR f m h w r := by simp only [prR]; exact if_neg hlt
      rw [e]
      exact ⟨by omega, ih2⟩
/-- the same of the column profile of a part with the rows S -/
theorem prC_rk {S : Nat} (hS : S < 64) (hd : zdom m) (hm : m ≤ 97) (hf : fSm f h w) (hh : h ≤ 6) (hw : w ≤ 6) : ∀ r, r ≤ w → pc (prC f m S h w r) = rkO f m S (2 ^ r - 1) h w ∧ pc (prC f m S h w r) = rkO f m S (prC f m S h w r) h w
  | 0, _ => by
    have h3 : rkO f m S 0 h w = 0 := rfl
    have h4 : pc (prC f m S h w 0) = 0 := by show pc 0 = 0; decide
    exact ⟨h4.trans h3.symm, h4.trans h3.symm⟩
  | r + 1, hr => by
    obtain ⟨ih1, ih2⟩ := prC_rk hS hd hm hf hh hw r (by omega)
    have b1 := prC_lt2 (f := f) (m := m) (S := S) (h := h) (w := w) r
    have b2 := prC_lt (f := f) (m := m) (S := S) (h := h) (w := w) r (by omega)
    have b3 := prC_lt (f := f) (m := m) (S := S) (h := h) (w := w) (r + 1) (by omega)
    have b4 := prC_lt2 (f := f) (m := m) (S := S) (h := h) (w := w) (r + 1)
    have q1 : ∀ {x n : Nat}, n ≤ w → x < 2 ^ n → x < 2 ^ w := fun {x n} hn hx => Nat.lt_of_lt_of_le hx (Nat.pow_le_pow_right (n := 2) (by omega) hn)
    have k1 := (rkO_rk (T := 2 ^ r - 1) hd hm hf hh hw hS (lwP2 (by omega))).T
    have k2 := (rkO_rk (T := 2 ^ (r + 1) - 1) hd hm hf hh hw hS (lwP2 (by omega))).T
    have k3 := (rkO_rk (T := prC f m S h w r) hd hm hf hh hw hS (q1 (by omega) b1)).T
    have hs : ∀ x, rwP (2 ^ (r + 1) - 1) w x ↔ rwP (2 ^ r - 1) w x ∨ x = r := fun x => by
      constructor
      · rintro ⟨g1, g2⟩
        rw [tb_lw (by omega) (by omega)] at g2
        by_cases e : x = r
        · exact Or.inr e
        · exact Or.inl ⟨g1, (tb_lw (by omega) (by omega)).mpr (by omega)⟩
      · rintro (⟨g1, g2⟩ | rfl)
        · rw [tb_lw (by omega) (by omega)] at g2
          exact ⟨g1, (tb_lw (by omega) (by omega)).mpr (by omega)⟩
        · exact ⟨by omega, (tb_lw (by omega) (by omega)).mpr (by omega)⟩
    have s1 := k1.step k2 (fun x hx => (hs x).mp hx)
    have s2 := k1.mono k2 (fun x hx => (hs x).mpr (Or.inl hx)) (fun _ z => z)
    by_cases hlt : pc (prC f m S h w r) < rkO f m S (2 ^ (r + 1) - 1) h w
    · have e : prC f m S h w (r + 1) = wi (prC f m S h w r) r := by simp only [prC]; exact if_pos hlt
      rw [e] at b3 b4 ⊢
      rw [pc_wi b2 (by omega) (tb_hi b1)]
      refine ⟨by omega, ?_⟩
      have k4 := (rkO_rk (T := wi (prC f m S h w r) r) hd hm hf hh hw hS (q1 hr b4)).T
      rw [← ih2] at k3
      rw [← ih1] at k1
      refine (rkP.add hd k3 k1 k4 k2 (fun x hx => ⟨hx.1, (tb_lw (by omega) (by omega)).mpr ?_⟩) (fun x => ?_) hs hlt).symm
      · refine Classical.byContradiction fun hn => ?_
        exact tb_hi (Nat.lt_of_lt_of_le b1 (Nat.pow_le_pow_right (n := 2) (by omega) (show r ≤ x by omega))) hx.2
      · constructor
        · rintro ⟨g1, g2⟩
          rcases (tb_wi b2 (by omega) (by omega)).mp g2 with g | g
          · exact Or.inl ⟨g1, g⟩
          · exact Or.inr g
        · rintro (⟨g1, g2⟩ | rfl)
          · exact ⟨g1, (tb_wi b2 (by omega) (by omega)).mpr (Or.inl g2)⟩
          · exact ⟨by omega, (tb_wi b2 (by omega) (by omega)).mpr (Or.inr rfl)⟩
    · have e : prC f m S h w (r + 1) = prC f m S h w r := by simp only [prC]; exact if_neg hlt
      rw [e]
      exact ⟨by omega, ih2⟩
/-- the minor of the profile's rows below r and of their column profile isn't 0 -/
theorem prof_ne {r : Nat} (hr : r ≤ h) (hd : zdom m) (hm : m ≤ 97) (hf : fSm f h w) (hh : h ≤ 6) (hw : w ≤ 6) : pc (prC f m (prR f m h w r) h w w) = pc (prR f m h w r) ∧ ¬ (m : Int) ∣ zzD (pc (prR f m h w r)) (fun i j => fZ f (sel (prR f m h w r) i) (sel (prC f m (prR f m h w r) h w w) j)) := by
  have hS := prR_lt (f := f) (m := m) (h := h) (w := w) r (by omega)
  obtain ⟨-, a2⟩ := prR_rk hd hm hf hh hw r hr
  obtain ⟨c1, c2⟩ := prC_rk hS hd hm hf hh hw w (Nat.le_refl w)
  have e : pc (prC f m (prR f m h w r) h w w) = pc (prR f m h w r) := by rw [c1, ← a2]
  refine ⟨e, ?_⟩
  have hT := prC_lt2 (f := f) (m := m) (S := prR f m h w r) (h := h) (w := w) w
  have nS : nb (prR f m h w r) h = pc (prR f m h w r) := (pc_nbw (Nat.lt_of_lt_of_le (prR_lt2 r) (Nat.pow_le_pow_right (n := 2) (by omega) hr)) hh).symm
  have nT := pc_nbw hT hw
  generalize prC f m (prR f m h w r) h w w = C at *
  generalize prR f m h w r = B at *
  have hC := p2_64 hT hw
  refine el_full (G := gaA f m B C h w) hd hm pc_le (fun _ i j hi hj => hf _ _ (sel_in hS hh (by omega)).1 (sel_in hC hw (by omega)).1) (fun i j hi hj => by rw [gaA_in (by omega) (by omega)]; exact rd_dvd (by omega)) (fun h0 i j hi hj => by rw [gaA_in (by omega) (by omega)]; exact rd_rng (by omega) h0) ?_
  have c3 : rkG m (nb B h) (pc C) (gaA f m B C h w) = pc C := c2.symm
  rw [nS, e] at c3
  exact c3
end PRF
/-! ===== the class's minors are determinants ===== -/
theorem sTm_z {s : Nat} (hs : s < 64) {g : Nat → Int64} {gz : Nat → Int} : ∀ w, w ≤ 6 → (∀ c, c < w → s.testBit c = true → g c = Int64.ofInt (gz c)) → sTm g s w = Int64.ofInt (zzS (nb s w) (fun j => gz (sel s j)))
  | 0, _, _ => rfl
  | w + 1, hw, h => by
    have ih := sTm_z hs w (by omega) (fun c hc hb => h c (by omega) hb)
    by_cases hb : s.testBit w = true
    · rw [show sTm g s (w + 1) = sTm g s w + g w by simp only [sTm]; exact if_pos hb, nb_t hb, ih, h w (by omega) hb, ← Int64.ofInt_add]
      show _ = Int64.ofInt (zzS (nb s w) _ + gz (sel s (nb s w)))
      rw [sel_nb hs (by omega) hb]
    · rw [show sTm g s (w + 1) = sTm g s w by simp only [sTm]; exact if_neg hb, nb_f hb, ih]
theorem sel_wo {s j k : Nat} (hs : s < 64) (hj : j < pc s) (hk : k + 1 < pc s) : sel (wo s (sel s j)) k = sel s (zk j k) := by
  have key : ∀ s : Nat, s < 64 → ∀ j : Nat, j < 6 → ∀ k : Nat, k < 6 → (j < pc s → k + 1 < pc s → sel (wo s (sel s j)) k = sel s (zk j k)) := by decide +kernel
  have := @pc_le s
  exact key s hs j (by omega) k (by omega) hj hk
theorem pc_above {s j : Nat} (hs : s < 64) (hj : j < pc s) : pc (s / 2 ^ (sel s j + 1)) + j + 1 = pc s ∧ sel s j < 6 ∧ s.testBit (sel s j) = true ∧ pc (wo s (sel s j)) + 1 = pc s := by
  have key : ∀ s : Nat, s < 64 → ∀ j : Nat, j < 6 → (j < pc s → pc (s / 2 ^ (sel s j + 1)) + j + 1 = pc s ∧ sel s j < 6 ∧ s.testBit (sel s j) = true ∧ pc (wo s (sel s j)) + 1 = pc s) := by decide +kernel
  have := @pc_le s
  exact key s hs j (by omega) hj
theorem sgL_z {s j : Nat} {v : Int64} {z : Int} (hs : s < 64) (hj : j < pc s) (hv : v = Int64.ofInt z) : sgL s (sel s j) v = Int64.ofInt (zg (pc s - 1 + j) * z) := by
  have h1 := (pc_above hs hj).1
  unfold sgL
  have e : pc s - 1 + j = pc (s / 2 ^ (sel s j + 1)) + (j + j) := by omega
  rw [e, zg_add, zg_dbl, Int.mul_one]
  unfold zg
  by_cases h : pc (s / 2 ^ (sel s j + 1)) % 2 = 0
  · rw [if_pos h, if_pos h, Int.one_mul, hv]
  · rw [if_neg h, if_neg h, Int.neg_mul, Int.one_mul, hv, Int64.ofInt_neg]
theorem mnR_z {f : am_Gr} {S w : Nat} (hw : w ≤ 6) : ∀ (n s : Nat), s < 2 ^ w → pc s = n → n ≤ pc S → mnR f S w n s = Int64.ofInt (zzD n (fun i j => fZ f (sel S i) (sel s j)))
  | 0, s, hs, hp, _ => by
    have h64 := p2_64 hs hw
    have : s = 0 := Classical.byContradiction fun hn => by have := pc_pos h64 hn; omega
    show (if s = 0 then (1 : Int64) else 0) = Int64.ofInt 1
    rw [if_pos this]; rfl
  | n + 1, s, hs, hp, hn => by
    have h64 := p2_64 hs hw
    have e1 : mnR f S w (n + 1) s = sTm (fun c => sgL s c (f (sel S n) c * mnR f S w n (wo s c))) s w := by
      show (if n < pc S then _ else _) = _
      rw [if_pos (by omega)]
    rw [e1, sTm_z (gz := fun c => zg (n + nb s c) * (fZ f (sel S n) c * zzD n (fun i j => fZ f (sel S i) (sel (wo s c) j)))) h64 w hw (fun c hc hb => by
      have hj : nb s c < pc s := by rw [pc_nbw hs hw]; exact nb_lt hc hb
      have hsel := sel_nb h64 (show c < 6 by omega) hb
      have h1 := pc_wo h64 (show c < 6 by omega) hb
      have ih := mnR_z (f := f) (S := S) hw n (wo s c) (by omega) (by omega) (by omega)
      have h2 := sgL_z (z := fZ f (sel S n) c * zzD n (fun i j => fZ f (sel S i) (sel (wo s c) j))) (v := f (sel S n) c * mnR f S w n (wo s c)) h64 hj (by rw [Int64.ofInt_mul, ih, Int64.ofInt_toInt])
      rw [hsel, show pc s - 1 + nb s c = n + nb s c by omega] at h2
      exact h2), ← pc_nbw hs hw, hp, zzD_L, zzL_s]
    congr 1
    refine zzS_congr _ (fun j hj => ?_)
    have hj2 : j < pc s := by omega
    obtain ⟨a1, a2, a3, a4⟩ := pc_above h64 hj2
    have e2 : nb s (sel s j) = j := by
      have key : ∀ s : Nat, s < 64 → ∀ j : Nat, j < 6 → (j < pc s → nb s (sel s j) = j) := by decide +kernel
      have := @pc_le s
      exact key s h64 j (by omega) hj2
    rw [e2, ← zzD_L, zzD_congr n (A := fun i k => fZ f (sel S i) (sel (wo s (sel s j)) k)) (B := fun i k => fZ f (sel S i) (sel s (zk j k))) (fun i k hi hk => by rw [sel_wo h64 hj2 (by omega)]), Int.mul_assoc]
theorem mnF_z {f : am_Gr} {S w s : Nat} (hw : w ≤ 6) (hs : s < 2 ^ w) (hn : pc s ≤ pc S) : mnF f S w s = Int64.ofInt (zzD (pc s) (fun i j => fZ f (sel S i) (sel s j))) := mnR_z hw _ s hs rfl hn
theorem i64_of {z : Int} (h : z.natAbs ≤ 46080000000) : (Int64.ofInt z).toInt = z := Int64.toInt_ofInt_of_le (by omega) (by omega)
/-- a minor's value, its size -/
theorem mnF_t {f : am_Gr} {S w s h : Nat} (hf : fSm f h w) (hh : h ≤ 6) (hw : w ≤ 6) (hS : S < 2 ^ h) (hs : s < 2 ^ w) (hn : pc s ≤ pc S) : (mnF f S w s).toInt = zzD (pc s) (fun i j => fZ f (sel S i) (sel s j)) ∧ (mnF f S w s).toInt.natAbs ≤ bdN (pc s) := by
  have hb : (zzD (pc s) (fun i j => fZ f (sel S i) (sel s j))).natAbs ≤ bdN (pc s) := zzD_bd _ _ (fun i j hi hj => hf _ _ (sel_in (p2_64 hS hh) hh (by rw [← pc_nbw hS hh]; omega)).1 (sel_in (p2_64 hs hw) hw (by rw [← pc_nbw hs hw]; omega)).1)
  rw [mnF_z hw hs hn, i64_of (Nat.le_trans hb (bdN_6 _ pc_le))]
  exact ⟨rfl, hb⟩

