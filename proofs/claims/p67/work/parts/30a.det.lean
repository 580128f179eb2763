/-! ===== sums and determinants over the integers ===== -/
def zzS : Nat → (Nat → Int) → Int
  | 0, _ => 0
  | n + 1, g => zzS n g + g n
theorem zzS_congr {f g : Nat → Int} : ∀ n, (∀ i, i < n → f i = g i) → zzS n f = zzS n g
  | 0, _ => rfl
  | n + 1, h => by
    show zzS n f + f n = zzS n g + g n
    rw [zzS_congr n (fun i hi => h i (by omega)), h n (by omega)]
theorem zzS_add {f g : Nat → Int} : ∀ n, zzS n (fun i => f i + g i) = zzS n f + zzS n g
  | 0 => rfl
  | n + 1 => by
    show zzS n (fun i => f i + g i) + (f n + g n) = (zzS n f + f n) + (zzS n g + g n)
    rw [zzS_add n]; omega
theorem zzS_mul {f : Nat → Int} {c : Int} : ∀ n, zzS n (fun i => c * f i) = c * zzS n f
  | 0 => by show (0 : Int) = c * 0; omega
  | n + 1 => by
    show zzS n (fun i => c * f i) + c * f n = c * (zzS n f + f n)
    rw [zzS_mul n, Int.mul_add]
theorem zzS_zero {f : Nat → Int} : ∀ n, (∀ i, i < n → f i = 0) → zzS n f = 0
  | 0, _ => rfl
  | n + 1, h => by
    show zzS n f + f n = 0
    rw [zzS_zero n (fun i hi => h i (by omega)), h n (by omega)]; rfl
theorem zzS_swap {F : Nat → Nat → Int} {k : Nat} : ∀ n, zzS n (fun i => zzS k (fun j => F i j)) = zzS k (fun j => zzS n (fun i => F i j))
  | 0 => (zzS_zero k (fun _ _ => rfl)).symm
  | n + 1 => by
    show zzS n (fun i => zzS k (fun j => F i j)) + zzS k (fun j => F n j) = zzS k (fun j => zzS n (fun i => F i j) + F n j)
    rw [zzS_swap n, ← zzS_add]
/-- the numbers without j -/
def zk (j i : Nat) : Nat := if i < j then i else i + 1
def zp (j b : Nat) : Nat := if b < j then b else b - 1
theorem zk_lt {j i : Nat} (h : i < j) : zk j i = i := if_pos h
theorem zk_ge {j i : Nat} (h : j ≤ i) : zk j i = i + 1 := if_neg (by omega)
theorem zk_ne {j i : Nat} : zk j i ≠ j := by unfold zk; split <;> omega
theorem zk_le {j i n : Nat} (h : i < n) : zk j i < n + 1 := by unfold zk; split <;> omega
theorem zk_s {j i : Nat} : zk (j + 1) (i + 1) = zk j i + 1 := by unfold zk; grind
theorem zk_0 {i : Nat} : zk 0 i = i + 1 := if_neg (by omega)
theorem zp_zk {j i : Nat} : zp j (zk j i) = i := by unfold zp zk; grind
theorem zk_zk {b k l : Nat} : zk (zk b k) (zk (zp (zk b k) b) l) = zk b (zk k l) := by
  unfold zp zk; grind
theorem zzS_skip {f : Nat → Int} {j : Nat} : ∀ n, j ≤ n → zzS (n + 1) f = f j + zzS n (fun i => f (zk j i))
  | 0, h => by
    obtain rfl : j = 0 := by omega
    show 0 + f 0 = f 0 + 0
    omega
  | n + 1, h => by
    by_cases e : j = n + 1
    · subst e
      show zzS (n + 1) f + f (n + 1) = f (n + 1) + zzS (n + 1) (fun i => f (zk (n + 1) i))
      rw [zzS_congr (f := fun i => f (zk (n + 1) i)) (g := f) (n + 1) (fun i hi => by simp only [zk_lt hi])]; omega
    · show zzS (n + 1) f + f (n + 1) = f j + (zzS n (fun i => f (zk j i)) + f (zk j n))
      rw [zzS_skip (j := j) n (by omega), zk_ge (show j ≤ n by omega)]; omega
theorem zzS_first {f : Nat → Int} {n : Nat} : zzS (n + 1) f = f 0 + zzS n (fun i => f (i + 1)) := by
  rw [zzS_skip (j := 0) n (by omega)]
  rfl
theorem zzS_pairs {G : Nat → Nat → Int} {n : Nat} : zzS (n + 1) (fun j => zzS n (fun k => G j (zk j k))) = zzS (n + 1) (fun b => zzS n (fun k => G (zk b k) b)) := by
  have h1 : zzS (n + 1) (fun j => zzS (n + 1) (fun b => G j b)) = zzS (n + 1) (fun j => G j j) + zzS (n + 1) (fun j => zzS n (fun k => G j (zk j k))) := by
    rw [← zzS_add]
    exact zzS_congr _ (fun j hj => zzS_skip (f := fun b => G j b) n (by omega))
  have h2 : zzS (n + 1) (fun b => zzS (n + 1) (fun j => G j b)) = zzS (n + 1) (fun b => G b b) + zzS (n + 1) (fun b => zzS n (fun k => G (zk b k) b)) := by
    rw [← zzS_add]
    exact zzS_congr _ (fun b hb => zzS_skip (f := fun j => G j b) n (by omega))
  rw [zzS_swap] at h1
  omega
/-- the sign -/
def zg (n : Nat) : Int := if n % 2 = 0 then 1 else -1
theorem zg_s {n : Nat} : zg (n + 1) = - zg n := by unfold zg; split <;> split <;> first | omega | rfl
theorem zg_ss {n : Nat} : zg (n + 2) = zg n := by rw [zg_s, zg_s]; omega
theorem zg_add {a : Nat} : ∀ b, zg (a + b) = zg a * zg b
  | 0 => by show zg a = zg a * 1; omega
  | b + 1 => by rw [show a + (b + 1) = a + b + 1 by omega, zg_s, zg_s, zg_add b, Int.mul_neg]
theorem zg_sq {n : Nat} : zg n * zg n = 1 := by unfold zg; split <;> rfl
theorem zg_dbl {n : Nat} : zg (n + n) = 1 := by rw [zg_add, zg_sq]
theorem zg_pm {n : Nat} : zg n = 1 ∨ zg n = -1 := by unfold zg; split <;> simp
/-- the determinant, by the first row -/
def zzD : Nat → (Nat → Nat → Int) → Int
  | 0, _ => 1
  | n + 1, A => zzS (n + 1) (fun j => zg j * A 0 j * zzD n (fun i k => A (i + 1) (zk j k)))
/-- by the last row -/
def zzL : Nat → (Nat → Nat → Int) → Int
  | 0, _ => 1
  | n + 1, A => zzS (n + 1) (fun j => zg (n + j) * A n j * zzL n (fun i k => A i (zk j k)))
theorem zzD_s {n : Nat} {A : Nat → Nat → Int} : zzD (n + 1) A = zzS (n + 1) (fun j => zg j * A 0 j * zzD n (fun i k => A (i + 1) (zk j k))) := rfl
theorem zzL_s {n : Nat} {A : Nat → Nat → Int} : zzL (n + 1) A = zzS (n + 1) (fun j => zg (n + j) * A n j * zzL n (fun i k => A i (zk j k))) := rfl
theorem zzD_congr : ∀ (n : Nat) {A B : Nat → Nat → Int}, (∀ i j, i < n → j < n → A i j = B i j) → zzD n A = zzD n B
  | 0, _, _, _ => rfl
  | n + 1, A, B, h => by
    rw [zzD_s, zzD_s]
    refine zzS_congr _ (fun j hj => ?_)
    rw [h 0 j (by omega) hj, zzD_congr n (A := fun i k => A (i + 1) (zk j k)) (B := fun i k => B (i + 1) (zk j k)) (fun i k hi hk => h _ _ (by omega) (zk_le hk))]
theorem zzD_L : ∀ (n : Nat) (A : Nat → Nat → Int), zzD n A = zzL n A
  | 0, _ => rfl
  | 1, A => rfl
  | n + 2, A => by
    have e1 : zzD (n + 2) A = zzS (n + 2) (fun j => zzS (n + 1) (fun k => (fun j b => zg j * A 0 j * (zg (n + zp j b) * A (n + 1) b * zzL n (fun i l => A (i + 1) (zk j (zk (zp j b) l))))) j (zk j k))) := by
      rw [zzD_s]
      refine zzS_congr _ (fun j hj => ?_)
      rw [zzD_L (n + 1), zzL_s, ← zzS_mul]
      refine zzS_congr _ (fun k hk => ?_)
      simp only [zp_zk]
    have e2 : zzL (n + 2) A = zzS (n + 2) (fun b => zzS (n + 1) (fun k => (fun j b => zg j * A 0 j * (zg (n + zp j b) * A (n + 1) b * zzL n (fun i l => A (i + 1) (zk j (zk (zp j b) l))))) (zk b k) b)) := by
      rw [zzL_s]
      refine zzS_congr _ (fun b hb => ?_)
      rw [← zzD_L (n + 1), zzD_s, ← zzS_mul]
      refine zzS_congr _ (fun k hk => ?_)
      simp only [zk_zk]
      rw [zzD_L n]
      have hs : zg (zk b k) * zg (n + zp (zk b k) b) = zg (n + 1 + b) * zg k := by
        by_cases h : k < b
        · rw [zk_lt h, show zp k b = b - 1 from if_neg (by omega), Int.mul_comm]
          congr 1
          rw [show n + 1 + b = n + (b - 1) + 2 by omega, zg_ss]
        · rw [zk_ge (by omega), show zp (k + 1) b = b from if_pos (by omega), show n + 1 + b = n + b + 1 by omega, zg_s, zg_s]
          grind
      grind
    rw [e1, e2]
    exact zzS_pairs (n := n + 1) (G := fun j b => zg j * A 0 j * (zg (n + zp j b) * A (n + 1) b * zzL n (fun i l => A (i + 1) (zk j (zk (zp j b) l)))))
theorem zzD_T : ∀ (n : Nat) (A : Nat → Nat → Int), zzD n A = zzD n (fun i j => A j i)
  | 0, _ => rfl
  | 1, A => rfl
  | n + 2, A => by
    have e1 : ∀ A : Nat → Nat → Int, zzD (n + 2) A = zg 0 * A 0 0 * zzD (n + 1) (fun i k => A (i + 1) (k + 1)) + zzS (n + 1) (fun j => zzS (n + 1) (fun i => zg (j + 1) * zg i * A 0 (j + 1) * A (i + 1) 0 * zzD n (fun a b => A (zk i b + 1) (zk j a + 1)))) := by
      intro A
      rw [zzD_s, zzS_first]
      congr 1
      refine zzS_congr _ (fun j hj => ?_)
      rw [zzD_T (n + 1), zzD_s, ← zzS_mul]
      refine zzS_congr _ (fun i hi => ?_)
      have e3 : (fun a b => A (zk i b + 1) (zk (j + 1) (a + 1))) = fun a b => A (zk i b + 1) (zk j a + 1) := by
        funext a b; rw [zk_s]
      rw [e3, zk_lt (show 0 < j + 1 by omega)]
      grind
    rw [e1 A, e1 (fun i j => A j i), zzD_T (n + 1) (fun i k => A (i + 1) (k + 1)), zzS_swap]
    congr 1
    refine zzS_congr _ (fun i hi => zzS_congr _ (fun j hj => ?_))
    rw [zzD_T n (fun a b => A (zk i b + 1) (zk j a + 1)), zg_s, zg_s]
    grind
def sw (a b x : Nat) : Nat := if x = a then b else if x = b then a else x
theorem zzD_sw1 : ∀ (n i : Nat) (A : Nat → Nat → Int), i + 1 < n → zzD n (fun r c => A (sw i (i + 1) r) c) = - zzD n A
  | 0, _, _, h => by omega
  | 1, _, _, h => by omega
  | n + 2, 0, A, h => by
    have e1 : ∀ A : Nat → Nat → Int, zzD (n + 2) A = zzS (n + 2) (fun j => zzS (n + 1) (fun k => (fun j b => zg j * A 0 j * (zg (zp j b) * A 1 b * zzD n (fun i l => A (i + 1 + 1) (zk j (zk (zp j b) l))))) j (zk j k))) := by
      intro A
      rw [zzD_s]
      refine zzS_congr _ (fun j hj => ?_)
      rw [zzD_s, ← zzS_mul]
      refine zzS_congr _ (fun k hk => ?_)
      simp only [zp_zk]
    have e2 : zzD (n + 2) (fun r c => A (sw 0 1 r) c) = - zzS (n + 2) (fun b => zzS (n + 1) (fun k => (fun j b => zg j * A 0 j * (zg (zp j b) * A 1 b * zzD n (fun i l => A (i + 1 + 1) (zk j (zk (zp j b) l))))) (zk b k) b)) := by
      rw [e1, ← Int.neg_one_mul, ← zzS_mul]
      refine zzS_congr _ (fun b hb => ?_)
      rw [← zzS_mul]
      refine zzS_congr _ (fun k hk => ?_)
      simp only [zk_zk, zp_zk]
      have h0 : sw 0 1 0 = 1 := rfl
      have h1 : sw 0 1 1 = 0 := rfl
      have h2 : ∀ i, sw 0 1 (i + 1 + 1) = i + 1 + 1 := fun i => by unfold sw; rw [if_neg (by omega), if_neg (by omega)]
      simp only [h0, h1, h2]
      have hs : zg (zk b k) * zg (zp (zk b k) b) = - (zg b * zg k) := by
        by_cases h : k < b
        · rw [zk_lt h, show zp k b = b - 1 from if_neg (by omega), show zg b = - zg (b - 1) by rw [← zg_s]; congr 1; omega]
          grind
        · rw [zk_ge (by omega), show zp (k + 1) b = b from if_pos (by omega), zg_s]
          grind
      grind
    rw [e2, e1 A]
    exact congrArg Neg.neg (zzS_pairs (n := n + 1) (G := fun j b => zg j * A 0 j * (zg (zp j b) * A 1 b * zzD n (fun i l => A (i + 1 + 1) (zk j (zk (zp j b) l)))))).symm
  | n + 2, i + 1, A, h => by
    rw [zzD_s, zzD_s, ← Int.neg_one_mul, ← zzS_mul]
    refine zzS_congr _ (fun j hj => ?_)
    have h0 : sw (i + 1) (i + 1 + 1) 0 = 0 := by unfold sw; rw [if_neg (by omega), if_neg (by omega)]
    have h1 : ∀ r, sw (i + 1) (i + 1 + 1) (r + 1) = sw i (i + 1) r + 1 := fun r => by unfold sw; grind
    simp only [h0, h1]
    rw [zzD_sw1 (n + 1) i (fun r c => A (r + 1) (zk j c)) (by omega)]
    grind
theorem zzD_eqr : ∀ (t n a : Nat) (A : Nat → Nat → Int), a + t + 1 < n → (∀ c, c < n → A a c = A (a + t + 1) c) → zzD n A = 0
  | 0, n, a, A, h, e => by
    have h1 := zzD_sw1 n a A h
    have h2 : zzD n (fun r c => A (sw a (a + 1) r) c) = zzD n A := zzD_congr n (fun r c hr hc => by
      unfold sw
      by_cases h3 : r = a
      · rw [if_pos h3, h3]; exact (e c hc).symm
      · rw [if_neg h3]
        by_cases h4 : r = a + 1
        · rw [if_pos h4, h4]; exact e c hc
        · rw [if_neg h4])
    omega
  | t + 1, n, a, A, h, e => by
    have h1 := zzD_sw1 n (a + t + 1) A (by omega)
    have h2 := zzD_eqr t n a (fun r c => A (sw (a + t + 1) (a + t + 1 + 1) r) c) (by omega) (fun c hc => by
      have g1 : sw (a + t + 1) (a + t + 1 + 1) a = a := by unfold sw; rw [if_neg (by omega), if_neg (by omega)]
      have g2 : sw (a + t + 1) (a + t + 1 + 1) (a + t + 1) = a + t + 1 + 1 := by unfold sw; rw [if_pos rfl]
      rw [g1, g2]; exact e c hc)
    omega
/-- two equal rows -/
theorem zzD_row0 {n a b : Nat} {A : Nat → Nat → Int} (ha : a < n) (hb : b < n) (hab : a ≠ b) (e : ∀ c, c < n → A a c = A b c) : zzD n A = 0 := by
  rcases Nat.lt_or_gt_of_ne hab with h | h
  · exact zzD_eqr (b - a - 1) n a A (by omega) (fun c hc => by rw [show a + (b - a - 1) + 1 = b by omega]; exact e c hc)
  · exact zzD_eqr (a - b - 1) n b A (by omega) (fun c hc => by rw [show b + (a - b - 1) + 1 = a by omega]; exact (e c hc).symm)
theorem zzD_col0 {n a b : Nat} {A : Nat → Nat → Int} (ha : a < n) (hb : b < n) (hab : a ≠ b) (e : ∀ c, c < n → A c a = A c b) : zzD n A = 0 := by
  rw [zzD_T]; exact zzD_row0 ha hb hab e
theorem sw_sw {a b x : Nat} : sw a b (sw a b x) = x := by unfold sw; grind
theorem sw_l {a b : Nat} : sw a b a = b := if_pos rfl
theorem sw_r {a b : Nat} : sw a b b = a := by unfold sw; grind
theorem sw_o {a b x : Nat} (h1 : x ≠ a) (h2 : x ≠ b) : sw a b x = x := by unfold sw; rw [if_neg h1, if_neg h2]
theorem sw_lt {a b x n : Nat} (ha : a < n) (hb : b < n) (hx : x < n) : sw a b x < n := by unfold sw; grind
/-- two rows exchanged -/
theorem zzD_sw : ∀ (t n a : Nat) (A : Nat → Nat → Int), a + t + 1 < n → zzD n (fun r c => A (sw a (a + t + 1) r) c) = - zzD n A
  | 0, n, a, A, h => zzD_sw1 n a A h
  | t + 1, n, a, A, h => by
    have e : ∀ r, sw a (a + (t + 1) + 1) r = sw (a + t + 1) (a + t + 1 + 1) (sw a (a + t + 1) (sw (a + t + 1) (a + t + 1 + 1) r)) := by
      intro r; unfold sw; grind
    have e2 : (fun r c => A (sw a (a + (t + 1) + 1) r) c) = fun r c => (fun r c => (fun r c => A (sw (a + t + 1) (a + t + 1 + 1) r) c) (sw a (a + t + 1) r) c) (sw (a + t + 1) (a + t + 1 + 1) r) c := by
      funext r c; rw [e]
    have g1 := zzD_sw1 n (a + t + 1) A (by omega)
    have g2 := zzD_sw t n a (fun r c => A (sw (a + t + 1) (a + t + 1 + 1) r) c) (by omega)
    have g3 := zzD_sw1 n (a + t + 1) (fun r c => A (sw (a + t + 1) (a + t + 1 + 1) (sw a (a + t + 1) r)) c) (by omega)
    rw [e2]
    refine g3.trans ?_
    rw [g2, g1]; omega
theorem zzD_swap {n a b : Nat} {A : Nat → Nat → Int} (ha : a < n) (hb : b < n) : ∃ s : Int, (s = 1 ∨ s = -1) ∧ ∀ K : Nat → Nat, zzD n (fun r c => A (sw a b r) (K c)) = s * zzD n (fun r c => A r (K c)) := by
  rcases Nat.lt_trichotomy a b with h | h | h
  · refine ⟨-1, Or.inr rfl, fun K => ?_⟩
    have := zzD_sw (b - a - 1) n a (fun r c => A r (K c)) (by omega)
    rw [show a + (b - a - 1) + 1 = b by omega] at this
    rw [this]; omega
  · subst h
    refine ⟨1, Or.inl rfl, fun K => ?_⟩
    rw [Int.one_mul]
    exact zzD_congr n (fun r c _ _ => by rw [show sw a a r = r by unfold sw; grind])
  · refine ⟨-1, Or.inr rfl, fun K => ?_⟩
    have := zzD_sw (a - b - 1) n b (fun r c => A r (K c)) (by omega)
    rw [show b + (a - b - 1) + 1 = a by omega] at this
    rw [show (fun r c => A (sw a b r) (K c)) = fun r c => A (sw b a r) (K c) by
      funext r c; rw [show sw a b r = sw b a r by unfold sw; grind], this]; omega
/-- the last row is u -/
def zx (n : Nat) (A : Nat → Nat → Int) (u : Nat → Int) : Nat → Nat → Int := fun i j => if i = n then u j else A i j
theorem zx_exp {n : Nat} {A : Nat → Nat → Int} {u : Nat → Int} : zzD (n + 1) (zx n A u) = zzS (n + 1) (fun j => zg (n + j) * u j * zzD n (fun i k => A i (zk j k))) := by
  rw [zzD_L, zzL_s]
  refine zzS_congr _ (fun j hj => ?_)
  rw [← zzD_L, show zx n A u n j = u j from if_pos rfl, zzD_congr n (A := fun i k => zx n A u i (zk j k)) (B := fun i k => A i (zk j k)) (fun i k hi _ => if_neg (by omega))]
/-- by the last column -/
theorem zzD_lc {n : Nat} {A : Nat → Nat → Int} : zzD (n + 1) A = zzS (n + 1) (fun i => zg (n + i) * A i n * zzD n (fun r c => A (zk i r) c)) := by
  rw [zzD_T, zzD_L, zzL_s]
  refine zzS_congr _ (fun i hi => ?_)
  rw [← zzD_L, zzD_T n]
/-- a list with one more behind the first k -/
def bR (k : Nat) (R : Nat → Nat) (x : Nat) : Nat → Nat := fun i => if i < k then R i else x
theorem bR_lt {k x i : Nat} {R : Nat → Nat} (h : i < k) : bR k R x i = R i := if_pos h
theorem bR_k {k x i : Nat} {R : Nat → Nat} (h : k ≤ i) : bR k R x i = x := if_neg (by omega)
/-- the minor of k rows and columns -/
def MN (F : Nat → Nat → Int) (k : Nat) (R J : Nat → Nat) : Int := zzD k (fun i j => F (R i) (J j))
theorem MN_congr {F : Nat → Nat → Int} {k : Nat} {R J R2 J2 : Nat → Nat} (h1 : ∀ i, i < k → R i = R2 i) (h2 : ∀ i, i < k → J i = J2 i) : MN F k R J = MN F k R2 J2 := zzD_congr k (fun i j hi hj => by rw [h1 i hi, h2 j hj])
/-- bordered by the row x and the column y -/
def BM (F : Nat → Nat → Int) (k : Nat) (R J : Nat → Nat) (x y : Nat) : Int := MN F (k + 1) (bR k R x) (bR k J y)
def CM (F : Nat → Nat → Int) (k : Nat) (R J : Nat → Nat) (x s : Nat) : Int := zg (k + s) * zzD k (fun r c => F (bR k R x (zk s r)) (J c))
theorem BM_exp {F : Nat → Nat → Int} {k : Nat} {R J : Nat → Nat} {x y : Nat} : BM F k R J x y = MN F k R J * F x y + zzS k (fun s => CM F k R J x s * F (R s) y) := by
  unfold BM MN
  rw [zzD_lc]
  show zzS k _ + _ = _
  rw [Int.add_comm]
  congr 1
  · simp only [bR_k (Nat.le_refl k), zg_dbl]
    rw [zzD_congr k (B := fun i j => F (R i) (J j)) (fun r c hr hc => by rw [zk_lt hr, bR_lt hr, bR_lt hc])]
    grind
  · refine zzS_congr _ (fun s hs => ?_)
    unfold CM
    rw [bR_lt hs, bR_k (Nat.le_refl k), zzD_congr k (A := fun r c => F (bR k R x (zk s r)) (bR k J y c)) (B := fun r c => F (bR k R x (zk s r)) (J c)) (fun r c hr hc => by rw [bR_lt hc])]
    grind
theorem BM_col0 {F : Nat → Nat → Int} {k : Nat} {R J : Nat → Nat} {x t : Nat} (ht : t < k) : BM F k R J x (J t) = 0 :=
  zzD_col0 (a := t) (b := k) (by omega) (by omega) (by omega) (fun c _ => by rw [bR_lt ht, bR_k (Nat.le_refl k)])
theorem BM_row0 {F : Nat → Nat → Int} {k : Nat} {R J : Nat → Nat} {y t : Nat} (ht : t < k) : BM F k R J (R t) y = 0 :=
  zzD_row0 (a := t) (b := k) (by omega) (by omega) (by omega) (fun c _ => by rw [bR_lt ht, bR_k (Nat.le_refl k)])
theorem zzS_two {f : Nat → Int} {k : Nat} (h : ∀ i, i < k → f i = 0) : zzS (k + 2) f = f k + f (k + 1) := by
  show zzS k f + f k + f (k + 1) = _
  rw [zzS_zero k h]; omega
/-- Sylvester's identity for one row and one column more -/
theorem zz_syl {F : Nat → Nat → Int} {k : Nat} {R J : Nat → Nat} {a b c d : Nat} : MN F k R J * BM F (k + 1) (bR k R a) (bR k J c) b d = BM F k R J a c * BM F k R J b d - BM F k R J b c * BM F k R J a d := by
  have hR : ∀ i, i < k → bR (k + 1) (bR k R a) b i = R i := fun i hi => by rw [bR_lt (by omega), bR_lt hi]
  have hRk : bR (k + 1) (bR k R a) b k = a := by rw [bR_lt (by omega), bR_k (Nat.le_refl k)]
  have hRl : bR (k + 1) (bR k R a) b (k + 1) = b := bR_k (Nat.le_refl _)
  have hJ : ∀ i, i < k → bR (k + 1) (bR k J c) d i = J i := fun i hi => by rw [bR_lt (by omega), bR_lt hi]
  have hJk : bR (k + 1) (bR k J c) d k = c := by rw [bR_lt (by omega), bR_k (Nat.le_refl k)]
  have hJl : bR (k + 1) (bR k J c) d (k + 1) = d := bR_k (Nat.le_refl _)
  let M : Nat → Nat → Int := fun i j => F (bR (k + 1) (bR k R a) b i) (bR (k + 1) (bR k J c) d j)
  let N : Nat → Int := fun j => zzD (k + 1) (fun i l => M i (zk j l))
  have hD : ∀ x, zzD (k + 1 + 1) (zx (k + 1) M (fun j => F x (bR (k + 1) (bR k J c) d j))) = zzS (k + 1 + 1) (fun j => zg (k + 1 + j) * F x (bR (k + 1) (bR k J c) d j) * N j) := fun x => zx_exp
  have hb : zzD (k + 1 + 1) (zx (k + 1) M (fun j => F b (bR (k + 1) (bR k J c) d j))) = BM F (k + 1) (bR k R a) (bR k J c) b d := zzD_congr (k + 1 + 1) (A := zx (k + 1) M (fun j => F b (bR (k + 1) (bR k J c) d j))) (B := M) (fun i j hi hj => by
    unfold zx
    by_cases h : i = k + 1
    · rw [if_pos h, h]
      show _ = F (bR (k + 1) (bR k R a) b (k + 1)) _
      rw [hRl]
    · rw [if_neg h])
  have h0 : ∀ s, s < k → zzD (k + 1 + 1) (zx (k + 1) M (fun j => F (R s) (bR (k + 1) (bR k J c) d j))) = 0 := fun s hs => zzD_row0 (a := s) (b := k + 1) (by omega) (by omega) (by omega) (fun c _ => by
    unfold zx
    rw [if_neg (by omega), if_pos rfl]
    show F (bR (k + 1) (bR k R a) b s) _ = _
    rw [hR s hs])
  have hT : zzS (k + 1 + 1) (fun j => zg (k + 1 + j) * BM F k R J b (bR (k + 1) (bR k J c) d j) * N j) = MN F k R J * BM F (k + 1) (bR k R a) (bR k J c) b d := by
    rw [← hb, hD, ← zzS_mul]
    have h1 : zzS (k + 1 + 1) (fun j => zzS k (fun s => CM F k R J b s * (zg (k + 1 + j) * F (R s) (bR (k + 1) (bR k J c) d j) * N j))) = 0 := by
      rw [zzS_swap]
      refine zzS_zero _ (fun s hs => ?_)
      rw [zzS_mul, ← hD (R s), h0 s hs]; omega
    have h2 : zzS (k + 1 + 1) (fun j => zg (k + 1 + j) * BM F k R J b (bR (k + 1) (bR k J c) d j) * N j) = zzS (k + 1 + 1) (fun j => MN F k R J * (zg (k + 1 + j) * F b (bR (k + 1) (bR k J c) d j) * N j) + zzS k (fun s => CM F k R J b s * (zg (k + 1 + j) * F (R s) (bR (k + 1) (bR k J c) d j) * N j))) := by
      refine zzS_congr _ (fun j hj => ?_)
      rw [BM_exp]
      have h3 : zzS k (fun s => CM F k R J b s * (zg (k + 1 + j) * F (R s) (bR (k + 1) (bR k J c) d j) * N j)) = zg (k + 1 + j) * N j * zzS k (fun s => CM F k R J b s * F (R s) (bR (k + 1) (bR k J c) d j)) := by
        rw [← zzS_mul]
        exact zzS_congr _ (fun s hs => by grind)
      rw [h3]
      grind
    rw [h2, zzS_add, h1]; omega
  rw [← hT, zzS_two (fun i hi => by rw [hJ i hi, BM_col0 hi]; omega)]
  have n1 : N k = BM F k R J a d := zzD_congr _ (fun i j hi hj => by
    show F (bR (k + 1) (bR k R a) b i) (bR (k + 1) (bR k J c) d (zk k j)) = F (bR k R a i) (bR k J d j)
    rw [bR_lt hi]
    congr 1
    by_cases h : j < k
    · rw [zk_lt h, hJ j h, bR_lt h]
    · rw [zk_ge (by omega), bR_k (by omega), bR_k (by omega)])
  have n2 : N (k + 1) = BM F k R J a c := zzD_congr _ (fun i j hi hj => by
    show F (bR (k + 1) (bR k R a) b i) (bR (k + 1) (bR k J c) d (zk (k + 1) j)) = F (bR k R a i) (bR k J c j)
    rw [bR_lt hi, zk_lt hj, bR_lt hj])
  rw [hJk, hJl, n1, n2, show zg (k + 1 + k) = -1 by rw [show k + 1 + k = k + k + 1 by omega, zg_s, zg_dbl], show zg (k + 1 + (k + 1)) = 1 from zg_dbl]
  grind

