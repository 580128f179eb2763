/-! ===== minors modulo m (0: the integers): the greatest size of one that isn't 0 ===== -/
/-- modulo m no product of numbers that aren't 0 is 0 -/
def zdom (m : Nat) : Prop := (∀ x y : Int, (m : Int) ∣ x * y → (m : Int) ∣ x ∨ (m : Int) ∣ y) ∧ ¬ (m : Int) ∣ 1
theorem zd_nat {m : Nat} {x : Int} : (m : Int) ∣ x ↔ m ∣ x.natAbs := by
  have h := Int.natAbs_dvd_natAbs (a := (m : Int)) (b := x)
  rw [Int.natAbs_natCast] at h
  exact h.symm
theorem zdom_0 : zdom 0 := by
  refine ⟨fun x y h => ?_, by decide⟩
  have h1 : x * y = 0 := Int.zero_dvd.mp h
  rcases Int.mul_eq_zero.mp h1 with h2 | h2
  · exact Or.inl (by rw [h2]; exact Int.dvd_zero _)
  · exact Or.inr (by rw [h2]; exact Int.dvd_zero _)
theorem prL_div : ∀ p ∈ prL, ∀ d : Nat, d < 98 → p % d = 0 → d = 1 ∨ d = p := by decide +kernel
theorem prL_le : ∀ p ∈ prL, 2 ≤ p ∧ p ≤ 97 := by decide +kernel
theorem zdom_p {p : Nat} (hp : p ∈ prL) : zdom p := by
  have hb := prL_le p hp
  refine ⟨fun x y h => ?_, ?_⟩
  · have h1 : p ∣ x.natAbs * y.natAbs := by
      have := zd_nat.mp h
      rwa [Int.natAbs_mul] at this
    by_cases hx : p ∣ x.natAbs
    · exact Or.inl (zd_nat.mpr hx)
    · refine Or.inr (zd_nat.mpr ?_)
      refine Nat.Coprime.dvd_of_dvd_mul_left ?_ h1
      have g1 : Nat.gcd p x.natAbs ∣ p := Nat.gcd_dvd_left _ _
      have g2 : Nat.gcd p x.natAbs ≤ p := Nat.le_of_dvd (by omega) g1
      rcases prL_div p hp (Nat.gcd p x.natAbs) (by omega) (Nat.mod_eq_zero_of_dvd g1) with g | g
      · exact g
      · have g3 : Nat.gcd p x.natAbs ∣ x.natAbs := Nat.gcd_dvd_right _ _
        rw [g] at g3
        exact absurd g3 hx
  · intro h
    have h1 : p ∣ 1 := zd_nat.mp h
    have := Nat.le_of_dvd (by omega) h1
    omega
theorem zdom.mul {m : Nat} (hd : zdom m) {x y : Int} (hx : ¬ (m : Int) ∣ x) (hy : ¬ (m : Int) ∣ y) : ¬ (m : Int) ∣ x * y := fun h => (hd.1 x y h).elim hx hy
theorem zd_l {m a : Int} (h : m ∣ a) (c : Int) : m ∣ a * c := Int.dvd_trans h (Int.dvd_mul_right a c)
theorem zd_r {m a : Int} (h : m ∣ a) (c : Int) : m ∣ c * a := Int.dvd_trans h (Int.dvd_mul_left c a)
theorem zd_sum {m : Int} {f : Nat → Int} : ∀ n, (∀ i, i < n → m ∣ f i) → m ∣ zzS n f
  | 0, _ => Int.dvd_zero _
  | n + 1, h => Int.dvd_add (zd_sum n (fun i hi => h i (by omega))) (h n (by omega))
theorem zzS_sub {f g : Nat → Int} (n : Nat) : zzS n (fun i => f i - g i) = zzS n f - zzS n g := by
  have h := zzS_add (f := fun i => f i - g i) (g := g) n
  have e : (fun i => f i - g i + g i) = f := funext fun i => Int.sub_add_cancel _ _
  rw [e] at h
  omega
theorem zzD_mod {m : Int} : ∀ (n : Nat) {A B : Nat → Nat → Int}, (∀ i j, i < n → j < n → m ∣ A i j - B i j) → m ∣ zzD n A - zzD n B
  | 0, A, B, _ => by show m ∣ 1 - 1; exact Int.dvd_zero _
  | n + 1, A, B, h => by
    rw [zzD_s, zzD_s, ← zzS_sub]
    refine zd_sum _ (fun j hj => ?_)
    have h1 := h 0 j (by omega) hj
    have h2 := zzD_mod n (A := fun i k => A (i + 1) (zk j k)) (B := fun i k => B (i + 1) (zk j k)) (fun i k hi hk => h _ _ (by omega) (zk_le hk))
    have e : zg j * A 0 j * zzD n (fun i k => A (i + 1) (zk j k)) - zg j * B 0 j * zzD n (fun i k => B (i + 1) (zk j k)) = (A 0 j - B 0 j) * (zg j * zzD n (fun i k => A (i + 1) (zk j k))) + (zzD n (fun i k => A (i + 1) (zk j k)) - zzD n (fun i k => B (i + 1) (zk j k))) * (zg j * B 0 j) := by grind
    rw [e]
    exact Int.dvd_add (zd_l h1 _) (zd_l h2 _)
/-- more unknowns than equations -/
theorem zz_ker {m : Nat} (hd : zdom m) : ∀ (q k : Nat) (M : Nat → Nat → Int), q < k → ∃ y : Nat → Int, (∃ a, a < k ∧ ¬ (m : Int) ∣ y a) ∧ ∀ s, s < q → (m : Int) ∣ zzS k (fun a => y a * M a s)
  | 0, k, M, h => ⟨fun _ => 1, ⟨0, h, hd.2⟩, fun s hs => by omega⟩
  | q + 1, k, M, h => by
    by_cases hz : ∀ a, a < k → (m : Int) ∣ M a q
    · obtain ⟨y, h1, h2⟩ := zz_ker hd q k M (by omega)
      refine ⟨y, h1, fun s hs => ?_⟩
      by_cases e : s = q
      · subst e
        exact zd_sum _ (fun a ha => zd_r (hz a ha) _)
      · exact h2 s (by omega)
    · obtain ⟨a0, hn0⟩ := Classical.not_forall.mp hz
      obtain ⟨ha, hn⟩ := Classical.not_imp.mp hn0
      clear hn0
      obtain ⟨n, rfl⟩ : ∃ n, k = n + 1 := ⟨k - 1, by omega⟩
      obtain ⟨y, ⟨b, hb, hyb⟩, h2⟩ := zz_ker hd q n (fun i s => M a0 q * M (zk a0 i) s - M (zk a0 i) q * M a0 s) (by omega)
      let Y : Nat → Int := fun a => if a = a0 then - zzS n (fun i => y i * M (zk a0 i) q) else M a0 q * y (zp a0 a)
      have hY0 : Y a0 = - zzS n (fun i => y i * M (zk a0 i) q) := if_pos rfl
      have hYi : ∀ i, Y (zk a0 i) = M a0 q * y i := fun i => by
        show (if zk a0 i = a0 then _ else _) = _
        rw [if_neg zk_ne, zp_zk]
      have key : ∀ s, zzS (n + 1) (fun a => Y a * M a s) = zzS n (fun i => y i * (M a0 q * M (zk a0 i) s - M (zk a0 i) q * M a0 s)) := by
        intro s
        rw [zzS_skip (j := a0) n (by omega), hY0, Int.neg_mul, Int.mul_comm, ← zzS_mul]
        have : ∀ x y z : Int, z = y - x → -x + y = z := fun x y z h => by omega
        refine this _ _ _ ?_
        rw [← zzS_sub]
        exact zzS_congr _ (fun i hi => by rw [hYi]; grind)
      refine ⟨Y, ⟨zk a0 b, zk_le hb, ?_⟩, fun s hs => ?_⟩
      · rw [hYi]; exact hd.mul hn hyb
      · rw [key]
        by_cases e : s = q
        · subst e
          refine zd_sum _ (fun i hi => ?_)
          rw [show M a0 s * M (zk a0 i) s - M (zk a0 i) s * M a0 s = 0 by grind, Int.mul_zero]
          exact Int.dvd_zero _
        · exact h2 s (by omega)
/-- a minor that isn't 0, all that border it 0: none is greater -/
theorem zz_max {m : Nat} (hd : zdom m) {F : Nat → Nat → Int} {Sp Tp : Nat → Prop} {q : Nat} {R J : Nat → Nat} (hp : ¬ (m : Int) ∣ MN F q R J) (hB : ∀ x y, Sp x → Tp y → (m : Int) ∣ BM F q R J x y) {k : Nat} {R2 J2 : Nat → Nat} (hR : ∀ i, i < k → Sp (R2 i)) (hJ : ∀ i, i < k → Tp (J2 i)) (hn : ¬ (m : Int) ∣ MN F k R2 J2) : k ≤ q := by
  refine Classical.byContradiction fun hk => ?_
  obtain ⟨y, ⟨a0, ha0, hy⟩, h0⟩ := zz_ker hd q k (fun a s => CM F q R J (R2 a) s) (by omega)
  obtain ⟨n, rfl⟩ : ∃ n, k = n + 1 := ⟨k - 1, by omega⟩
  have hv : ∀ b, b < n + 1 → (m : Int) ∣ zzS (n + 1) (fun a => y a * F (R2 a) (J2 b)) := by
    intro b hb
    have e1 : MN F q R J * zzS (n + 1) (fun a => y a * F (R2 a) (J2 b)) = zzS (n + 1) (fun a => y a * BM F q R J (R2 a) (J2 b)) - zzS q (fun s => F (R s) (J2 b) * zzS (n + 1) (fun a => y a * CM F q R J (R2 a) s)) := by
      have e2 : zzS q (fun s => F (R s) (J2 b) * zzS (n + 1) (fun a => y a * CM F q R J (R2 a) s)) = zzS (n + 1) (fun a => y a * zzS q (fun s => CM F q R J (R2 a) s * F (R s) (J2 b))) := by
        rw [zzS_congr (g := fun s => zzS (n + 1) (fun a => y a * (CM F q R J (R2 a) s * F (R s) (J2 b)))) q (fun s hs => by
          rw [← zzS_mul]; exact zzS_congr _ (fun a ha => by grind)), zzS_swap]
        exact zzS_congr _ (fun a ha => zzS_mul _)
      rw [e2, ← zzS_sub, ← zzS_mul]
      exact zzS_congr _ (fun a ha => by rw [BM_exp]; grind)
    have h1 : (m : Int) ∣ MN F q R J * zzS (n + 1) (fun a => y a * F (R2 a) (J2 b)) := by
      rw [e1]
      exact Int.dvd_sub (zd_sum _ (fun a ha => zd_r (hB _ _ (hR a ha) (hJ b hb)) _)) (zd_sum _ (fun s hs => zd_r (h0 s hs) _))
    exact (hd.1 _ _ h1).resolve_left hp
  let N : Nat → Nat → Int := fun i j => F (R2 i) (J2 j)
  obtain ⟨s, hs, hK⟩ := zzD_swap (n := n + 1) (a := a0) (b := n) (A := N) ha0 (by omega)
  have hK := hK (fun c => c)
  let N1 : Nat → Nat → Int := fun r c => N (sw a0 n r) c
  have e1 : ∀ u : Nat → Int, zzD (n + 1) (zx n N1 u) = zzS (n + 1) (fun j => zg (n + j) * u j * zzD n (fun i k => N1 i (zk j k))) := fun u => zx_exp
  have e2 : zzD (n + 1) (zx n N1 (fun j => zzS (n + 1) (fun a => y a * N a j))) = zzS (n + 1) (fun a => y a * zzD (n + 1) (zx n N1 (N a))) := by
    rw [e1, zzS_congr (g := fun j => zzS (n + 1) (fun a => y a * (zg (n + j) * N a j * zzD n (fun i k => N1 i (zk j k))))) (n + 1) (fun j hj => by
      rw [show zg (n + j) * zzS (n + 1) (fun a => y a * N a j) * zzD n (fun i k => N1 i (zk j k)) = (zg (n + j) * zzD n (fun i k => N1 i (zk j k))) * zzS (n + 1) (fun a => y a * N a j) by grind, ← zzS_mul]
      exact zzS_congr _ (fun a ha => by grind)), zzS_swap]
    exact zzS_congr _ (fun a ha => by rw [e1, ← zzS_mul])
  have e3 : ∀ a, a < n + 1 → a ≠ a0 → zzD (n + 1) (zx n N1 (N a)) = 0 := by
    intro a ha hne
    by_cases e : a = n
    · subst e
      refine zzD_row0 (a := a0) (b := a) ha0 ha (Ne.symm hne) (fun c _ => ?_)
      show (if a0 = a then _ else N (sw a0 a a0) c) = (if a = a then N a c else _)
      rw [if_neg (Ne.symm hne), sw_l, if_pos rfl]
    · refine zzD_row0 (a := a) (b := n) ha (by omega) e (fun c _ => ?_)
      show (if a = n then _ else N (sw a0 n a) c) = (if n = n then N a c else _)
      rw [if_neg e, sw_o hne e, if_pos rfl]
  have e4 : zzD (n + 1) (zx n N1 (N a0)) = zzD (n + 1) N1 := zzD_congr _ (fun i j hi hj => by
    show (if i = n then N a0 j else N1 i j) = N1 i j
    by_cases e : i = n
    · rw [if_pos e, e]; show _ = N (sw a0 n n) j; rw [sw_r]
    · rw [if_neg e])
  have e5 : zzS (n + 1) (fun a => y a * zzD (n + 1) (zx n N1 (N a))) = y a0 * zzD (n + 1) N1 := by
    rw [zzS_skip (j := a0) n (by omega), e4, zzS_zero _ (fun i hi => by rw [e3 _ (zk_le hi) zk_ne]; omega)]; omega
  have h1 : (m : Int) ∣ y a0 * zzD (n + 1) N1 := by
    rw [← e5, ← e2, e1]
    exact zd_sum _ (fun j hj => zd_l (zd_r (hv j hj) _) _)
  have h2 : (m : Int) ∣ zzD (n + 1) N1 := (hd.1 _ _ h1).resolve_left hy
  refine hn ?_
  rw [show zzD (n + 1) N1 = s * zzD (n + 1) (fun r c => N r c) from hK] at h2
  rcases hs with rfl | rfl
  · rwa [Int.one_mul] at h2
  · rw [Int.neg_mul, Int.one_mul] at h2; exact Int.dvd_neg.mp h2
/-- q is the rank of the part with these rows and columns -/
def rkP (m : Nat) (F : Nat → Nat → Int) (Sp Tp : Nat → Prop) (q : Nat) : Prop :=
  (∃ R J : Nat → Nat, (∀ i, i < q → Sp (R i)) ∧ (∀ i, i < q → Tp (J i)) ∧ ¬ (m : Int) ∣ MN F q R J) ∧ ∀ (k : Nat) (R J : Nat → Nat), (∀ i, i < k → Sp (R i)) → (∀ i, i < k → Tp (J i)) → ¬ (m : Int) ∣ MN F k R J → k ≤ q
theorem rkP.mono {m : Nat} {F : Nat → Nat → Int} {Sp Tp Sp2 Tp2 : Nat → Prop} {q q2 : Nat} (h1 : rkP m F Sp Tp q) (h2 : rkP m F Sp2 Tp2 q2) (hS : ∀ x, Sp x → Sp2 x) (hT : ∀ x, Tp x → Tp2 x) : q ≤ q2 := by
  obtain ⟨⟨R, J, a, b, c⟩, _⟩ := h1
  exact h2.2 q R J (fun i hi => hS _ (a i hi)) (fun i hi => hT _ (b i hi)) c
theorem rkP.uniq {m : Nat} {F : Nat → Nat → Int} {Sp Tp Sp2 Tp2 : Nat → Prop} {q q2 : Nat} (h1 : rkP m F Sp Tp q) (h2 : rkP m F Sp2 Tp2 q2) (hS : ∀ x, Sp x ↔ Sp2 x) (hT : ∀ x, Tp x ↔ Tp2 x) : q = q2 :=
  Nat.le_antisymm (h1.mono h2 (fun x => (hS x).mp) (fun x => (hT x).mp)) (h2.mono h1 (fun x => (hS x).mpr) (fun x => (hT x).mpr))
theorem MN_T {F : Nat → Nat → Int} {k : Nat} {R J : Nat → Nat} : MN F k R J = MN (fun i j => F j i) k J R := zzD_T k _
theorem rkP.T {m : Nat} {F : Nat → Nat → Int} {Sp Tp : Nat → Prop} {q : Nat} (h : rkP m F Sp Tp q) : rkP m (fun i j => F j i) Tp Sp q := by
  obtain ⟨⟨R, J, a, b, c⟩, h2⟩ := h
  exact ⟨⟨J, R, b, a, by rw [← MN_T]; exact c⟩, fun k R J hR hJ hn => h2 k J R hJ hR (by rw [MN_T]; exact hn)⟩
/-- one row more: at most one more -/
theorem rkP.step {m : Nat} {F : Nat → Nat → Int} {Sp Tp Sp2 : Nat → Prop} {q q2 r : Nat} (h1 : rkP m F Sp Tp q) (h2 : rkP m F Sp2 Tp q2) (hS : ∀ x, Sp2 x → Sp x ∨ x = r) : q2 ≤ q + 1 := by
  obtain ⟨⟨R, J, a, b, c⟩, _⟩ := h2
  by_cases hr : ∃ i, i < q2 ∧ R i = r
  · obtain ⟨i0, hi0, hir⟩ := hr
    obtain ⟨n, rfl⟩ : ∃ n, q2 = n + 1 := ⟨q2 - 1, by omega⟩
    obtain ⟨s, hs, hK⟩ := zzD_swap (n := n + 1) (a := i0) (b := n) (A := fun i j => F (R i) j) hi0 (by omega)
    have hK := hK J
    by_cases hall : ∀ j, j < n + 1 → (m : Int) ∣ zzD n (fun i k => F (R (sw i0 n i)) (J (zk j k)))
    · exfalso
      apply c
      have e : zzD (n + 1) (fun r c => F (R (sw i0 n r)) (J c)) = zzS (n + 1) (fun j => zg (n + j) * F (R (sw i0 n n)) (J j) * zzD n (fun i k => F (R (sw i0 n i)) (J (zk j k)))) := by
        rw [zzD_L, zzL_s]
        exact zzS_congr _ (fun j hj => by rw [← zzD_L])
      have h3 : (m : Int) ∣ zzD (n + 1) (fun r c => F (R (sw i0 n r)) (J c)) := by
        rw [e]; exact zd_sum _ (fun j hj => zd_r (hall j hj) _)
      rw [hK] at h3
      rcases hs with rfl | rfl
      · rw [Int.one_mul] at h3; exact h3
      · rw [Int.neg_mul, Int.one_mul] at h3; exact Int.dvd_neg.mp h3
    · obtain ⟨j, hj⟩ := Classical.not_forall.mp hall
      obtain ⟨hj, hn⟩ := Classical.not_imp.mp hj
      by_cases hdup : ∃ i, i < n + 1 ∧ i ≠ i0 ∧ R i = r
      · exfalso
        obtain ⟨i1, hi1, hne, hr1⟩ := hdup
        apply c
        rw [show MN F (n + 1) R J = 0 from zzD_row0 (a := i1) (b := i0) hi1 hi0 hne (fun c _ => by rw [hr1, hir])]
        exact Int.dvd_zero _
      · have := h1.2 n (fun i => R (sw i0 n i)) (fun k => J (zk j k)) (fun i hi => by
          have hne : sw i0 n i ≠ i0 := by
            intro e
            have e2 := congrArg (sw i0 n) e
            rw [sw_sw, sw_l] at e2; omega
          rcases hS _ (a (sw i0 n i) (sw_lt hi0 (by omega) (by omega))) with g | g
          · exact g
          · exact absurd ⟨_, sw_lt hi0 (by omega) (by omega), hne, g⟩ hdup) (fun k hk => b _ (zk_le hk)) hn
        omega
  · have := h1.2 q2 R J (fun i hi => (hS _ (a i hi)).resolve_right (fun e => hr ⟨i, hi, e⟩)) b c
    omega
/-- rows that add to a greater part's rank add to its part's of the same rank -/
theorem rkP.add {m : Nat} (hd : zdom m) {F : Nat → Nat → Int} {Bp Sp Tp Bp2 Sp2 : Nat → Prop} {q q1 q2 r : Nat} (hB : rkP m F Bp Tp q) (hS : rkP m F Sp Tp q) (hB2 : rkP m F Bp2 Tp q1) (hS2 : rkP m F Sp2 Tp q2) (hBS : ∀ x, Bp x → Sp x) (hb : ∀ x, Bp2 x ↔ Bp x ∨ x = r) (hs : ∀ x, Sp2 x ↔ Sp x ∨ x = r) (hlt : q < q2) : q1 = q + 1 := by
  have u := hB.step hB2 (fun x hx => (hb x).mp hx)
  have l := hB.mono hB2 (fun x hx => (hb x).mpr (Or.inl hx)) (fun _ h => h)
  refine Classical.byContradiction fun hne => ?_
  obtain rfl : q1 = q := by omega
  obtain ⟨⟨R, J, a, b, c⟩, _⟩ := hB
  have hz : ∀ x y, Sp2 x → Tp y → (m : Int) ∣ BM F q1 R J x y := by
    intro x y hx hy
    refine Classical.byContradiction fun hn => ?_
    have hJ : ∀ i, i < q1 + 1 → Tp (bR q1 J y i) := fun i hi => by
      by_cases e : i < q1
      · rw [bR_lt e]; exact b i e
      · rw [bR_k (by omega)]; exact hy
    rcases (hs x).mp hx with g | g
    · have := hS.2 (q1 + 1) (bR q1 R x) (bR q1 J y) (fun i hi => by
        by_cases e : i < q1
        · rw [bR_lt e]; exact hBS _ (a i e)
        · rw [bR_k (by omega)]; exact g) hJ hn
      omega
    · have := hB2.2 (q1 + 1) (bR q1 R x) (bR q1 J y) (fun i hi => by
        by_cases e : i < q1
        · rw [bR_lt e]; exact (hb _).mpr (Or.inl (a i e))
        · rw [bR_k (by omega)]; exact (hb _).mpr (Or.inr g)) hJ hn
      omega
  obtain ⟨⟨R2, J2, a2, b2, c2⟩, _⟩ := hS2
  have := zz_max hd c hz a2 b2 c2
  omega

