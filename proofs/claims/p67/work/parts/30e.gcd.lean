/-! ===== common divisors; relations ===== -/
theorem remL_nat {x y : Int64} (hx : 0 ≤ x.toInt) (hy : 0 ≤ y.toInt) : 0 ≤ (remL x y).toInt ∧ (remL x y).toInt.toNat = x.toInt.toNat % y.toInt.toNat := by
  rw [remL_toInt, Int.tmod_eq_emod_of_nonneg hx]
  generalize x.toInt = a at *
  generalize y.toInt = b at *
  obtain ⟨n, rfl⟩ := Int.eq_ofNat_of_zero_le hx
  obtain ⟨k, rfl⟩ := Int.eq_ofNat_of_zero_le hy
  exact ⟨Int.natCast_nonneg _, rfl⟩
theorem eu_gcd : ∀ (n : Nat) (x y : Int64), 0 ≤ x.toInt → 0 ≤ y.toInt → eu2 n x y → (eu n x y).toInt = (Nat.gcd x.toInt.toNat y.toInt.toNat : Nat)
  | 0, x, y, hx, _, e => by
    have e : y = 0 := e
    subst e
    show x.toInt = ((Nat.gcd x.toInt.toNat (0 : Int64).toInt.toNat : Nat) : Int)
    rw [l0, show (0 : Int).toNat = 0 from rfl, Nat.gcd_zero_right]; omega
  | n + 1, x, y, hx, hy, e => by
    rw [eu_s]
    by_cases h0 : y = 0
    · subst h0
      rw [if_pos rfl, l0, show (0 : Int).toNat = 0 from rfl, Nat.gcd_zero_right]; omega
    · rw [if_neg h0]
      have h1 := remL_nat hx hy
      rw [eu_gcd n y (remL x y) hy h1.1 (e.resolve_left h0), h1.2]
      generalize x.toInt.toNat = X
      generalize y.toInt.toNat = Y
      have g : Nat.gcd X Y = Nat.gcd Y (X % Y) := by rw [Nat.gcd_comm X Y, Nat.gcd_rec Y X, Nat.gcd_comm]
      rw [g]
/-- an amount that a minor may have -/
def mB (x : Int64) : Prop := x.toInt.natAbs ≤ 46080000000
theorem absL_t {x : Int64} (h : mB x) : (absL x).toInt = x.toInt.natAbs := by
  unfold mB at h
  unfold absL
  by_cases h0 : x < 0
  · rw [if_pos h0, Int64.toInt_neg, Int.bmod_eq_of_le (by omega) (by omega)]
    rw [l_lt, l0] at h0; omega
  · rw [if_neg h0]
    rw [l_lt, l0] at h0; omega
theorem cdL_t {a b : Int64} (ha : mB a) (hb : mB b) : (cdL a b).toInt = (Nat.gcd a.toInt.natAbs b.toInt.natAbs : Nat) := by
  unfold cdL
  have h1 := absL_t ha
  have h2 := absL_t hb
  rw [eu_ends _ _ 200 (by omega), eu_x, eu_gcd 129 _ _ (by omega) (by omega) (eu2_129 _ _), h1, h2]
  simp
theorem cdL_B {a b : Int64} (ha : mB a) (hb : mB b) : mB (cdL a b) := by
  unfold mB
  rw [cdL_t ha hb]
  unfold mB at ha hb
  rw [Int.natAbs_natCast]
  by_cases h0 : a.toInt.natAbs = 0
  · rw [h0, Nat.gcd_zero_left]; exact hb
  · exact Nat.le_trans (Nat.gcd_le_left _ (by omega)) ha
/-- the divisor of the first n numbers -/
def gzN (x : Nat → Int64) : Nat → Nat
  | 0 => 0
  | n + 1 => Nat.gcd (gzN x n) (x n).toInt.natAbs
theorem fdL_t {x : Nat → Int64} : ∀ n, (∀ i, i < n → mB (x i)) → (fdL x n).toInt = (gzN x n : Nat) ∧ mB (fdL x n)
  | 0, _ => ⟨rfl, by show (0 : Int64).toInt.natAbs ≤ _; rw [l0]; simp⟩
  | n + 1, h => by
    obtain ⟨h1, h2⟩ := fdL_t n (fun i hi => h i (by omega))
    have h3 := h n (by omega)
    refine ⟨?_, cdL_B h2 h3⟩
    show (cdL (fdL x n) (x n)).toInt = _
    rw [cdL_t h2 h3, h1, Int.natAbs_natCast]; rfl
theorem gzN_0 {x : Nat → Int64} : ∀ n, gzN x n = 0 → ∀ i, i < n → x i = 0
  | 0, _, i, hi => by omega
  | n + 1, h, i, hi => by
    have h : Nat.gcd (gzN x n) (x n).toInt.natAbs = 0 := h
    obtain ⟨h1, h2⟩ := Nat.gcd_eq_zero_iff.mp h
    by_cases e : i = n
    · subst e; rw [l_eq0]; omega
    · exact gzN_0 n h1 i (by omega)
theorem gzN_le {x : Nat → Int64} {h : Nat} (hz : ∀ i, h ≤ i → x i = 0) : ∀ n, gzN x (h + n) = gzN x h
  | 0 => rfl
  | n + 1 => by
    show Nat.gcd (gzN x (h + n)) (x (h + n)).toInt.natAbs = _
    rw [gzN_le hz n, hz (h + n) (by omega), l0]
    exact Nat.gcd_zero_right _
/-- zeros behind don't change the divisor -/
theorem fdL_6 {x : Nat → Int64} {h : Nat} (hh : h ≤ 6) (hb : ∀ i, i < h → mB (x i)) (hz : ∀ i, h ≤ i → x i = 0) : fdL x 6 = fdL x h := by
  apply Int64.toInt_inj.mp
  have hb6 : ∀ i, i < 6 → mB (x i) := fun i _ => by
    by_cases e : i < h
    · exact hb i e
    · rw [hz i (by omega)]; show (0 : Int64).toInt.natAbs ≤ _; rw [l0]; simp
  rw [(fdL_t 6 hb6).1, (fdL_t h hb).1]
  have := gzN_le hz (6 - h)
  rw [show h + (6 - h) = 6 by omega] at this
  rw [this]
/-! ===== the row that stands for another, moved to the end ===== -/
def mvI (n t u i : Nat) : Nat := if i < t then i else if i < u then i + 1 else if i = u then n else i
theorem zzD_mv {n t : Nat} {A : Nat → Nat → Int} (ht : t < n) : ∀ v, t + v < n → zzD n (fun i j => A (mvI n t (t + v) i) j) = zg v * zzD n (fun i j => A (if i = t then n else i) j)
  | 0, _ => by
    rw [show zg 0 = 1 from rfl, Int.one_mul]
    refine zzD_congr n (fun i j hi _ => ?_)
    have e : mvI n t (t + 0) i = if i = t then n else i := by unfold mvI; grind
    rw [e]
  | v + 1, hv => by
    have ih := zzD_mv ht (A := A) v (by omega)
    have h1 := zzD_sw1 n (t + v) (fun i j => A (mvI n t (t + v) i) j) (by omega)
    rw [ih] at h1
    rw [zg_s, Int.neg_mul, ← h1]
    refine zzD_congr n (fun i j hi _ => ?_)
    have e : mvI n t (t + (v + 1)) i = mvI n t (t + v) (sw (t + v) (t + v + 1) i) := by unfold mvI sw; grind
    rw [e]
theorem sel_wi {B r i : Nat} (hr : r < 6) (hB : B < 2 ^ r) (hi : i ≤ pc B) : sel (wi B r) i = if i < pc B then sel B i else r := by
  have key : ∀ r : Nat, r < 6 → ∀ B : Nat, B < 64 → ∀ i : Nat, i < 7 → (B < 2 ^ r → i ≤ pc B → sel (wi B r) i = if i < pc B then sel B i else r) := by decide +kernel
  have := @pc_le B
  exact key r hr B (Nat.lt_of_lt_of_le hB (Nat.pow_le_pow_right (n := 2) (by omega) (show r ≤ 6 by omega))) i (by omega) hB hi
theorem wi_top {B r : Nat} (hr : r < 6) (hB : B < 2 ^ r) : wo (wi B r) r = B ∧ pc (wi B r / 2 ^ (r + 1)) = 0 ∧ pc (wi B r) = pc B + 1 ∧ wi B r < 64 ∧ wi B r < 2 ^ (r + 1) := by
  have key : ∀ r : Nat, r < 6 → ∀ B : Nat, B < 64 → (B < 2 ^ r → wo (wi B r) r = B ∧ pc (wi B r / 2 ^ (r + 1)) = 0 ∧ pc (wi B r) = pc B + 1 ∧ wi B r < 64 ∧ wi B r < 2 ^ (r + 1)) := by decide +kernel
  exact key r hr B (Nat.lt_of_lt_of_le hB (Nat.pow_le_pow_right (n := 2) (by omega) (show r ≤ 6 by omega))) hB
/-- the relation's number of a row of the basis: the class's minor, the model's determinant -/
theorem rel_minor {f : am_Gr} {w B C r t : Nat} (hw : w ≤ 6) (hr : r < 6) (hB : B < 2 ^ r) (hC : C < 2 ^ w) (hn : pc C = pc B) (ht : t < pc B) : sgL (wi B r) (sel B t) (mnF f (wo (wi B r) (sel B t)) w C) = - Int64.ofInt (zzD (pc B) (fun i j => fZ f (if i = t then r else sel B i) (sel C j))) := by
  obtain ⟨a1, a2, a3, a4, a5⟩ := wi_top hr hB
  have hsel : sel (wi B r) t = sel B t := by rw [sel_wi hr hB (by omega), if_pos ht]
  have htR : t < pc (wi B r) := by omega
  obtain ⟨b1, b2, b3, b4⟩ := pc_above a4 htR
  rw [← hsel]
  have h1 := mnF_z (f := f) (S := wo (wi B r) (sel (wi B r) t)) hw hC (by omega)
  rw [sgL_z a4 htR h1, ← Int64.ofInt_neg]
  congr 1
  rw [hn]
  have h2 : zzD (pc B) (fun i j => fZ f (sel (wo (wi B r) (sel (wi B r) t)) i) (sel C j)) = zzD (pc B) (fun i j => (fun i j => fZ f (if i < pc B then sel B i else r) (sel C j)) (mvI (pc B) t (t + (pc B - 1 - t)) i) j) := zzD_congr _ (fun i j hi hj => by
    rw [sel_wo a4 htR (by omega), sel_wi hr hB (by have := @zk_le t i (pc B) hi; omega)]
    have e : mvI (pc B) t (t + (pc B - 1 - t)) i = zk t i := by unfold mvI zk; grind
    rw [e])
  have h5 := zzD_mv (A := fun i j => fZ f (if i < pc B then sel B i else r) (sel C j)) ht (pc B - 1 - t) (by omega)
  rw [h2, h5]
  have h3 : zzD (pc B) (fun i j => (fun i j => fZ f (if i < pc B then sel B i else r) (sel C j)) (if i = t then pc B else i) j) = zzD (pc B) (fun i j => fZ f (if i = t then r else sel B i) (sel C j)) := zzD_congr _ (fun i j hi hj => by
    dsimp only
    by_cases e : i = t
    · rw [if_pos e, if_pos e, if_neg (Nat.lt_irrefl _)]
    · rw [if_neg e, if_neg e, if_pos hi])
  rw [h3, ← Int.mul_assoc, ← zg_add, a3, show pc B + 1 - 1 + t + (pc B - 1 - t) = (pc B - 1) + (pc B - 1) + 1 by omega, zg_s, zg_dbl]
  omega
theorem rel_own {f : am_Gr} {w B C r : Nat} (hr : r < 6) (hB : B < 2 ^ r) : sgL (wi B r) r (mnF f (wo (wi B r) r) w C) = mnF f B w C := by
  obtain ⟨a1, a2, a3, a4, a5⟩ := wi_top hr hB
  unfold sgL
  rw [a1, a2, if_pos rfl]
theorem mB_0 : mB 0 := by show (0 : Int64).toInt.natAbs ≤ _; rw [l0]; simp
theorem mB_neg {x : Int64} (h : mB x) : mB (-x) := by
  unfold mB at *
  rw [Int64.toInt_neg, Int.bmod_eq_of_le (by omega) (by omega), Int.natAbs_neg]; exact h
theorem mB_sg {s k : Nat} {x : Int64} (h : mB x) : mB (sgL s k x) := by
  unfold sgL
  split
  · exact h
  · exact mB_neg h
/-- a relation's numbers before they are scaled: zeros behind the rows, small, the own one not 0 modulo m -/
theorem r0G_ok {f : am_Gr} {m h w r : Nat} (hr : r < h) (hd : zdom m) (hm : m ≤ 97) (hf : fSm f h w) (hh : h ≤ 6) (hw : w ≤ 6) :
    (∀ i, h ≤ i → r0G f w (wi (prR f m h w r) r) (prC f m (prR f m h w r) h w w) h 0 i = 0) ∧
    (∀ i, i < h → mB (r0G f w (wi (prR f m h w r) r) (prC f m (prR f m h w r) h w w) h 0 i)) ∧
    r0G f w (wi (prR f m h w r) r) (prC f m (prR f m h w r) h w w) h 0 r = mnF f (prR f m h w r) w (prC f m (prR f m h w r) h w w) ∧
    ¬ (m : Int) ∣ (mnF f (prR f m h w r) w (prC f m (prR f m h w r) h w w)).toInt := by
  have hB := prR_lt2 (f := f) (m := m) (h := h) (w := w) r
  have hC := prC_lt2 (f := f) (m := m) (S := prR f m h w r) (h := h) (w := w) w
  obtain ⟨p1, p2⟩ := prof_ne (r := r) (by omega) hd hm hf hh hw
  generalize prC f m (prR f m h w r) h w w = C at *
  generalize prR f m h w r = B at *
  obtain ⟨a1, a2, a3, a4, a5⟩ := wi_top (by omega) hB
  have hBh : B < 2 ^ h := Nat.lt_of_lt_of_le hB (Nat.pow_le_pow_right (n := 2) (by omega) (by omega))
  have hRh : wi B r < 2 ^ h := Nat.lt_of_lt_of_le a5 (Nat.pow_le_pow_right (n := 2) (by omega) (by omega))
  refine ⟨fun i hi => ?_, fun i hi => ?_, ?_, ?_⟩
  · unfold r0G; rw [if_neg (by omega)]
  · unfold r0G
    by_cases e : (wi B r).testBit i = true
    · rw [if_pos ⟨rfl, hi, e⟩]
      refine mB_sg ?_
      have h1 := pc_wo a4 (show i < 6 by omega) e
      exact Nat.le_trans (mnF_t hf hh hw (by omega) hC (by omega)).2 (bdN_6 _ pc_le)
    · rw [if_neg (fun z => e z.2.2)]; exact mB_0
  · unfold r0G
    have e : (wi B r).testBit r = true := (tb_wi (p2_64 hBh hh) (by omega) (by omega)).mpr (Or.inr rfl)
    rw [if_pos ⟨rfl, hr, e⟩, rel_own (by omega) hB]
  · rw [(mnF_t hf hh hw hBh hC (by omega)).1, p1]; exact p2
theorem prL_inv : ∀ p ∈ prL, ∀ v : Nat, v < p → v ≠ 0 → ∃ i, i < p ∧ v * i % p = 1 := by decide +kernel

