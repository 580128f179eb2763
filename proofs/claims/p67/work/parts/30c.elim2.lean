/-! ===== the elimination finds the rank ===== -/
def bdN : Nat → Nat
  | 0 => 1
  | n + 1 => (n + 1) * (20 * bdN n)
theorem zzS_bd {f : Nat → Int} {b : Nat} : ∀ n, (∀ i, i < n → (f i).natAbs ≤ b) → (zzS n f).natAbs ≤ n * b
  | 0, _ => by show (0 : Int).natAbs ≤ 0 * b; simp
  | n + 1, h => by
    have h1 := zzS_bd n (fun i hi => h i (by omega))
    have h2 := h n (by omega)
    have h3 := Int.natAbs_add_le (zzS n f) (f n)
    show (zzS n f + f n).natAbs ≤ (n + 1) * b
    rw [Nat.succ_mul]; omega
theorem zg_abs {n : Nat} : (zg n).natAbs = 1 := by rcases @zg_pm n with h | h <;> rw [h] <;> rfl
theorem zzD_bd : ∀ (n : Nat) (A : Nat → Nat → Int), (∀ i j, i < n → j < n → (A i j).natAbs ≤ 20) → (zzD n A).natAbs ≤ bdN n
  | 0, A, _ => by show (1 : Int).natAbs ≤ 1; decide
  | n + 1, A, h => by
    rw [zzD_s]
    refine zzS_bd _ (fun j hj => ?_)
    rw [Int.natAbs_mul, Int.natAbs_mul, zg_abs, Nat.one_mul]
    exact Nat.mul_le_mul (h 0 j (by omega) hj) (zzD_bd n _ (fun i k hi hk => h _ _ (by omega) (zk_le hk)))
theorem bdN_5 : ∀ n, n ≤ 5 → bdN n ≤ 384000000 := by decide
theorem bdN_6 : ∀ n, n ≤ 6 → bdN n ≤ 46080000000 := by decide
theorem i64_x {a b c d : Int64} (ha : a.toInt.natAbs ≤ 384000000) (hb : b.toInt.natAbs ≤ 384000000) (hc : c.toInt.natAbs ≤ 384000000) (hd : d.toInt.natAbs ≤ 384000000) : (a * b - c * d).toInt = a.toInt * b.toInt - c.toInt * d.toInt := by
  have h1 : (a.toInt * b.toInt).natAbs ≤ 384000000 * 384000000 := by rw [Int.natAbs_mul]; exact Nat.mul_le_mul ha hb
  have h2 : (c.toInt * d.toInt).natAbs ≤ 384000000 * 384000000 := by rw [Int.natAbs_mul]; exact Nat.mul_le_mul hc hd
  rw [Int64.toInt_sub, Int64.toInt_mul, Int64.toInt_mul]
  generalize a.toInt * b.toInt = x at *
  generalize c.toInt * d.toInt = y at *
  rw [Int.bmod_eq_of_le (n := x) (by omega) (by omega), Int.bmod_eq_of_le (n := y) (by omega) (by omega), Int.bmod_eq_of_le (by omega) (by omega)]
theorem i64_div {v p : Int64} {D : Int} (hp : p.toInt ≠ 0) (hv : v.toInt = p.toInt * D) (hD : D.natAbs ≤ 46080000000) : (v / p).toInt = D := by
  rw [Int64.toInt_div, hv, Int.mul_tdiv_cancel_left _ hp]
  exact Int.bmod_eq_of_le (by omega) (by omega)
theorem zd_mul {m a b a2 b2 : Int} (h1 : m ∣ a - a2) (h2 : m ∣ b - b2) : m ∣ a * b - a2 * b2 := by
  rw [show a * b - a2 * b2 = (a - a2) * b + (b - b2) * a2 by grind]
  exact Int.dvd_add (zd_l h1 _) (zd_l h2 _)
theorem rdL_int {m : Nat} {v : Int64} (hm : m < 2 ^ 31) : (rdL m v).toInt = v.toInt % (m : Int) := by
  unfold rdL
  by_cases h : m = 0
  · rw [if_pos h, h]; show _ = v.toInt % 0; rw [Int.emod_zero]
  · rw [if_neg h, fmL_toInt (by rw [nI_64 hm]; omega), nI_64 hm]
theorem rdL_z {m : Nat} : rdL m 0 = 0 := by
  unfold rdL
  by_cases h : m = 0
  · rw [if_pos h]
  · rw [if_neg h]
    unfold fmL
    have : remL 0 (nI m).toInt64 = 0 := by rw [l_eq0, remL_toInt, l0, Int.zero_tmod]
    rw [this, if_neg (by decide)]
theorem redE_0 {m : Nat} {p : Int64} : redE m p 0 = 0 := by
  unfold redE
  by_cases h : m = 0
  · rw [if_pos h]; unfold qtL
    by_cases hp : p = 0
    · rw [if_pos hp]
    · rw [if_neg hp, l_eq0, Int64.toInt_div, l0, Int.zero_tdiv]; rfl
  · rw [if_neg h]; exact rdL_z
/-- what the elimination has done: the rows' order, the pivots' columns, factors; each number left is a minor's multiple -/
def EI (m h w : Nat) (A : Nat → Nat → Int) (c : Nat) (s : am_El) (R J : Nat → Nat) (u : Nat → Int) : Prop :=
  ((∀ i, i < h → R i < h) ∧ (∀ x, x < h → ∃ i, i < h ∧ R i = x) ∧ ∃ e : Int, (e = 1 ∨ e = -1) ∧ ∀ K : Nat → Nat, zzD h (fun i j => A (R i) (K j)) = e * zzD h (fun i j => A i (K j))) ∧
  ((∀ t, t < s.2.1 → J t < c) ∧ (∀ t, t + 1 < s.2.1 → J t < J (t + 1))) ∧
  (¬ (m : Int) ∣ MN A s.2.1 R J ∧ (m = 0 → s.2.2.toInt = MN A s.2.1 R J)) ∧
  ∀ i, s.2.1 ≤ i → i < h → (¬ (m : Int) ∣ u i ∧ (m = 0 → u i = 1)) ∧ (∀ j, j < w → (m : Int) ∣ (s.1 i j).toInt - u i * BM A s.2.1 R J (R i) j) ∧ (∀ j, j < c → s.1 i j = 0) ∧ (m ≠ 0 → ∀ j, j < w → 0 ≤ (s.1 i j).toInt ∧ (s.1 i j).toInt < m)
theorem el_step {m h w c : Nat} {A : Nat → Nat → Int} {s : am_El} {R J : Nat → Nat} {u : Nat → Int} (hd : zdom m) (hm : m ≤ 97) (hh : h ≤ 6) (hc : c < w) (hA : m = 0 → ∀ i j, i < h → j < w → (A i j).natAbs ≤ 20) (hq : s.2.1 ≤ h) (E : EI m h w A c s R J u) : ∃ R2 J2 u2, EI m h w A (c + 1) (elS m false h w c s) R2 J2 u2 := by
  obtain ⟨G, q, p⟩ := s
  obtain ⟨⟨r1, r2, e0, he, hK⟩, ⟨j1, j2⟩, ⟨p1, p2⟩, H⟩ := E
  dsimp only at hq j1 j2 p1 p2 H
  by_cases hpv : pv G h q c < h
  · have hge : q ≤ pv G h q c := pv_ge
    have hnz : ¬ G (pv G h q c) c = 0 := pvN_nz (h - q) q (by show pv G h q c < _; omega)
    have hs : elS m false h w c (G, q, p) = (clG m p c w q (q + 1) h (exR G (pv G h q c) q w), q + 1, exR G (pv G h q c) q w q c) := by
      unfold elS; exact if_pos hpv
    rw [hs]
    generalize pv G h q c = r at hpv hge hnz
    have ex : ∀ i j, j < w → exR G r q w i j = G (sw q r i) j := fun i j hj => by
      unfold exR sw
      rw [if_pos hj]
      by_cases h1 : i = q
      · rw [if_pos h1, if_pos h1]
      · rw [if_neg h1, if_neg h1]
        by_cases h2 : i = r
        · rw [if_pos h2, if_pos h2]
        · rw [if_neg h2, if_neg h2]
    obtain ⟨⟨ur, ur1⟩, br, zr, mr⟩ := H r hge hpv
    have hPn : ¬ (m : Int) ∣ (G r c).toInt := by
      intro z
      by_cases h0 : m = 0
      · subst h0
        exact hnz (l_eq0.mpr (Int.zero_dvd.mp z))
      · have h2 := mr h0 c hc
        obtain ⟨t, ht⟩ := z
        have : (G r c).toInt ≠ 0 := fun e => hnz (l_eq0.mpr e)
        have h3 := Int.emod_eq_of_lt h2.1 h2.2
        rw [ht, Int.mul_emod_right] at h3
        rw [ht] at this
        exact this h3.symm
    have hBn : ¬ (m : Int) ∣ BM A q R J (R r) c := fun z => hPn (by
      have := Int.dvd_add (br c hc) (zd_r z (u r))
      rwa [Int.sub_add_cancel] at this)
    have hR2 : ∀ i, i < q + 1 → R (sw q r i) = bR q R (R r) i := fun i hi => by
      by_cases e : i < q
      · rw [sw_o (by omega) (by omega), bR_lt e]
      · obtain rfl : i = q := by omega
        rw [sw_l, bR_k (Nat.le_refl i)]
    have hMN : MN A (q + 1) (fun i => R (sw q r i)) (bR q J c) = BM A q R J (R r) c := MN_congr hR2 (fun _ _ => rfl)
    refine ⟨fun i => R (sw q r i), bR q J c, fun i => if m = 0 then 1 else u r * u (sw q r i) * MN A q R J, ⟨fun i hi => r1 _ (sw_lt (by omega) hpv hi), fun x hx => ?_, ?_⟩, ⟨fun t ht => ?_, fun t ht => ?_⟩, ⟨?_, fun h0 => ?_⟩, ?_⟩
    · obtain ⟨i, hi, e⟩ := r2 x hx
      exact ⟨sw q r i, sw_lt (by omega) hpv hi, by show R (sw q r (sw q r i)) = x; rw [sw_sw]; exact e⟩
    · obtain ⟨s2, hs2, hK2⟩ := zzD_swap (n := h) (a := q) (b := r) (A := fun i j => A (R i) j) (by omega) hpv
      refine ⟨s2 * e0, ?_, fun K => ?_⟩
      · rcases hs2 with rfl | rfl <;> rcases he with rfl | rfl <;> simp
      · rw [hK2 K, hK K, Int.mul_assoc]
    · by_cases e : t < q
      · rw [bR_lt e]; have := j1 t e; omega
      · rw [bR_k (by omega)]; omega
    · have ht : t + 1 < q + 1 := ht
      rw [bR_lt (show t < q by omega)]
      by_cases e : t + 1 < q
      · rw [bR_lt e]; exact j2 t e
      · rw [bR_k (by omega)]; exact j1 t (by omega)
    · show ¬ (m : Int) ∣ MN A (q + 1) _ _
      rw [hMN]; exact hBn
    · show (exR G r q w q c).toInt = MN A (q + 1) _ _
      rw [hMN, ex q c hc, sw_l]
      have := br c hc
      rw [ur1 h0, Int.one_mul, h0] at this
      have := Int.zero_dvd.mp this
      omega
    · intro i hi1 hi2
      have hi1 : q + 1 ≤ i := hi1
      dsimp only
      have hi0 : sw q r i < h := sw_lt (by omega) hpv hi2
      have hi0q : q ≤ sw q r i := by unfold sw; split; exact hge; split <;> omega
      obtain ⟨⟨ui, ui1⟩, bi, zi, mi⟩ := H (sw q r i) hi0q hi0
      have hv : ∀ j, j < w → clG m p c w q (q + 1) h (exR G r q w) i j = redE m p (G r c * G (sw q r i) j - G (sw q r i) c * G r j) := fun j hj => by
        unfold clG
        rw [if_pos (by omega), ex q c hc, ex i j hj, ex i c hc, ex q j hj, sw_l]
      have hBM : ∀ j, BM A (q + 1) (fun i => R (sw q r i)) (bR q J c) (R (sw q r i)) j = BM A (q + 1) (bR q R (R r)) (bR q J c) (R (sw q r i)) j := fun j => MN_congr (fun t ht => by
        by_cases e : t < q + 1
        · rw [bR_lt e, bR_lt e]; exact hR2 t e
        · rw [bR_k (by omega), bR_k (by omega)]) (fun _ _ => rfl)
      have syl : ∀ j, MN A q R J * BM A (q + 1) (bR q R (R r)) (bR q J c) (R (sw q r i)) j = BM A q R J (R r) c * BM A q R J (R (sw q r i)) j - BM A q R J (R (sw q r i)) c * BM A q R J (R r) j := fun j => zz_syl
      generalize sw q r i = i0 at *
      refine ⟨⟨?_, fun h0 => if_pos h0⟩, fun j hj => ?_, fun j hj => ?_, fun h0 j hj => ?_⟩
      · show ¬ (m : Int) ∣ if m = 0 then 1 else u r * u i0 * MN A q R J
        by_cases h0 : m = 0
        · rw [if_pos h0]; exact hd.2
        · rw [if_neg h0]; exact hd.mul (hd.mul ur ui) p1
      · show (m : Int) ∣ (clG m p c w q (q + 1) h (exR G r q w) i j).toInt - (if m = 0 then 1 else u r * u i0 * MN A q R J) * BM A (q + 1) _ _ (R i0) j
        rw [hv j hj, hBM j]
        by_cases h0 : m = 0
        · have ev : ∀ x j, q ≤ x → x < h → j < w → (G x j).toInt = BM A q R J (R x) j := fun x j hx1 hx2 hj => by
            obtain ⟨⟨_, a1⟩, a2, _⟩ := H x hx1 hx2
            have := a2 j hj
            rw [a1 h0, Int.one_mul, h0] at this
            have := Int.zero_dvd.mp this
            omega
          have bd : ∀ k x j, k ≤ q → x < h → j < w → (BM A k R J x j).natAbs ≤ bdN (k + 1) := fun k x j hk hx hj => zzD_bd _ _ (fun a b ha hb => hA h0 _ _ (by
            by_cases e : a < k
            · rw [bR_lt e]; exact r1 _ (by omega)
            · rw [bR_k (by omega)]; exact hx) (by
            by_cases e : b < k
            · rw [bR_lt e]; have := j1 b (by omega); omega
            · rw [bR_k (by omega)]; exact hj))
          have b5 := bdN_5 (q + 1) (by omega)
          have b1 := bd q (R r) c (Nat.le_refl q) (r1 r hpv) hc
          have b2 := bd q (R i0) j (Nat.le_refl q) (r1 i0 hi0) hj
          have b3 := bd q (R i0) c (Nat.le_refl q) (r1 i0 hi0) hc
          have b4 := bd q (R r) j (Nat.le_refl q) (r1 r hpv) hj
          rw [← ev r c hge hpv hc] at b1
          rw [← ev i0 j hi0q hi0 hj] at b2
          rw [← ev i0 c hi0q hi0 hc] at b3
          rw [← ev r j hge hpv hj] at b4
          have e1 := i64_x (Nat.le_trans b1 b5) (Nat.le_trans b2 b5) (Nat.le_trans b3 b5) (Nat.le_trans b4 b5)
          rw [ev r c hge hpv hc, ev i0 j hi0q hi0 hj, ev i0 c hi0q hi0 hc, ev r j hge hpv hj, ← syl j, ← p2 h0] at e1
          have hp0 : p.toInt ≠ 0 := fun e => p1 (by rw [← p2 h0, e]; exact Int.dvd_zero _)
          have b6 : (BM A (q + 1) (bR q R (R r)) (bR q J c) (R i0) j).natAbs ≤ bdN (q + 1 + 1) := zzD_bd _ _ (fun a b ha hb => hA h0 _ _ (by
            by_cases e : a < q + 1
            · rw [bR_lt e, ← hR2 a e]; exact r1 _ (sw_lt (by omega) hpv (by omega))
            · rw [bR_k (by omega)]; exact r1 i0 hi0) (by
            by_cases e : b < q + 1
            · rw [bR_lt e]
              by_cases e2 : b < q
              · rw [bR_lt e2]; have := j1 b e2; omega
              · rw [bR_k (by omega)]; exact hc
            · rw [bR_k (by omega)]; exact hj))
          have hpz : ¬ p = 0 := fun e => hp0 (l_eq0.mp e)
          have e2 : (redE m p (G r c * G i0 j - G i0 c * G r j)).toInt = BM A (q + 1) (bR q R (R r)) (bR q J c) (R i0) j := by
            unfold redE qtL
            rw [if_pos h0, if_neg hpz]
            exact i64_div hp0 e1 (Nat.le_trans b6 (bdN_6 _ (by omega)))
          rw [e2, if_pos h0, Int.one_mul, Int.sub_self]
          exact Int.dvd_zero _
        · have hb : ∀ x j, q ≤ x → x < h → j < w → (G x j).toInt.natAbs ≤ 384000000 := fun x j hx1 hx2 hj => by
            have := (H x hx1 hx2).2.2.2 h0 j hj
            omega
          have e1 := i64_x (hb r c hge hpv hc) (hb i0 j hi0q hi0 hj) (hb i0 c hi0q hi0 hc) (hb r j hge hpv hj)
          rw [if_neg h0]
          unfold redE
          rw [if_neg h0, rdL_int (by omega), e1]
          have d1 := zd_mul (br c hc) (bi j hj)
          have d2 := zd_mul (bi c hc) (br j hj)
          have d3 := Int.dvd_sub d1 d2
          have d4 : (m : Int) ∣ ((G r c).toInt * (G i0 j).toInt - (G i0 c).toInt * (G r j).toInt) % (m : Int) - ((G r c).toInt * (G i0 j).toInt - (G i0 c).toInt * (G r j).toInt) := by
            have := Int.emod_add_mul_ediv ((G r c).toInt * (G i0 j).toInt - (G i0 c).toInt * (G r j).toInt) (m : Int)
            exact ⟨-(((G r c).toInt * (G i0 j).toInt - (G i0 c).toInt * (G r j).toInt) / (m : Int)), by rw [Int.mul_neg]; omega⟩
          have d5 := Int.dvd_add d4 d3
          refine Int.dvd_trans d5 ?_
          rw [Int.mul_assoc (u r * u i0), syl j]
          refine ⟨1, ?_⟩
          grind
      · show clG m p c w q (q + 1) h (exR G r q w) i j = 0
        rw [hv j (by omega)]
        by_cases e : j < c
        · rw [zr j e, zi j e, Int64.mul_zero, Int64.mul_zero, Int64.sub_self]; exact redE_0
        · obtain rfl : j = c := by omega
          rw [Int64.mul_comm, Int64.sub_self]; exact redE_0
      · show 0 ≤ (clG m p c w q (q + 1) h (exR G r q w) i j).toInt ∧ _
        rw [hv j hj]
        unfold redE
        rw [if_neg h0, rdL_int (by omega)]
        exact ⟨Int.emod_nonneg _ (show (m : Int) ≠ 0 by omega), Int.emod_lt_of_pos _ (show (0 : Int) < m by omega)⟩
  · have hs : elS m false h w c (G, q, p) = (G, q, p) := by unfold elS; exact if_neg hpv
    rw [hs]
    refine ⟨R, J, u, ⟨r1, r2, e0, he, hK⟩, ⟨fun t ht => Nat.lt_succ_of_lt (j1 t ht), j2⟩, ⟨p1, p2⟩, fun i hi1 hi2 => ?_⟩
    obtain ⟨a1, a2, a3, a4⟩ := H i hi1 hi2
    refine ⟨a1, a2, fun j hj => ?_, a4⟩
    by_cases e : j < c
    · exact a3 j e
    · obtain rfl : j = c := by omega
      have h1 : pv G h q j ≤ h := pv_le hq
      exact pvN_z (h - q) q i hi1 (by show i < pv G h q j; omega) (by have hi1 : q ≤ i := hi1; omega)
theorem el_EI {m h w : Nat} {G : am_Gr} {A : Nat → Nat → Int} (hd : zdom m) (hm : m ≤ 97) (hh : h ≤ 6) (hA : m = 0 → ∀ i j, i < h → j < w → (A i j).natAbs ≤ 20) (hG : ∀ i j, i < h → j < w → (m : Int) ∣ (G i j).toInt - A i j) (hG2 : m ≠ 0 → ∀ i j, i < h → j < w → 0 ≤ (G i j).toInt ∧ (G i j).toInt < m) : ∀ c, c ≤ w → ∃ R J u, EI m h w A c (el m false h w G c) R J u
  | 0, _ => ⟨fun i => i, fun i => i, fun _ => 1, ⟨fun i hi => hi, fun x hx => ⟨x, hx, rfl⟩, 1, Or.inl rfl, fun K => (Int.one_mul _).symm⟩, ⟨fun t ht => absurd ht (Nat.not_lt_zero t), fun t ht => absurd ht (Nat.not_lt_zero _)⟩, ⟨hd.2, fun _ => rfl⟩, fun i _ hi => ⟨⟨hd.2, fun _ => rfl⟩, fun j hj => by
      have e : BM A 0 (fun i => i) (fun i => i) i j = A i j := by
        show 0 + zg 0 * A i j * 1 = A i j
        rw [show zg 0 = 1 from rfl]; omega
      show (m : Int) ∣ (G i j).toInt - 1 * BM A 0 _ _ i j
      rw [e, Int.one_mul]; exact hG i j hi hj, fun j hj => absurd hj (Nat.not_lt_zero j), fun h0 j hj => hG2 h0 i j hi hj⟩⟩
  | c + 1, hc => by
    obtain ⟨R, J, u, E⟩ := el_EI hd hm hh hA hG hG2 c (by omega)
    exact el_step hd hm hh (by omega) hA (el_r c).2 E
/-- the elimination's rank is the rank -/
theorem el_rk {m h w : Nat} {G : am_Gr} {A : Nat → Nat → Int} (hd : zdom m) (hm : m ≤ 97) (hh : h ≤ 6) (hA : m = 0 → ∀ i j, i < h → j < w → (A i j).natAbs ≤ 20) (hG : ∀ i j, i < h → j < w → (m : Int) ∣ (G i j).toInt - A i j) (hG2 : m ≠ 0 → ∀ i j, i < h → j < w → 0 ≤ (G i j).toInt ∧ (G i j).toInt < m) : rkP m A (fun x => x < h) (fun y => y < w) (rkG m h w G) := by
  obtain ⟨R, J, u, ⟨r1, r2, _⟩, ⟨j1, j2⟩, ⟨p1, p2⟩, H⟩ := el_EI hd hm hh hA hG hG2 w (Nat.le_refl w)
  have hr := (@el_r m false h w G w).2
  refine ⟨⟨R, J, fun i hi => r1 i (Nat.lt_of_lt_of_le hi hr), j1, p1⟩, fun k R2 J2 h1 h2 hn => ?_⟩
  refine zz_max (Sp := fun x => x < h) (Tp := fun y => y < w) hd p1 (fun x y hx hy => ?_) h1 h2 hn
  obtain ⟨i, hi, rfl⟩ := r2 x hx
  by_cases e : i < (el m false h w G w).2.1
  · rw [BM_row0 e]; exact Int.dvd_zero _
  · obtain ⟨⟨a1, _⟩, a2, a3, _⟩ := H i (by omega) hi
    have h3 := a2 y hy
    rw [a3 y hy, l0, Int.zero_sub] at h3
    exact (hd.1 _ _ (Int.dvd_neg.mp h3)).resolve_left a1
/-- of a square part of full rank the determinant isn't 0 -/
theorem el_full {m h : Nat} {G : am_Gr} {A : Nat → Nat → Int} (hd : zdom m) (hm : m ≤ 97) (hh : h ≤ 6) (hA : m = 0 → ∀ i j, i < h → j < h → (A i j).natAbs ≤ 20) (hG : ∀ i j, i < h → j < h → (m : Int) ∣ (G i j).toInt - A i j) (hG2 : m ≠ 0 → ∀ i j, i < h → j < h → 0 ≤ (G i j).toInt ∧ (G i j).toInt < m) (hf : rkG m h h G = h) : ¬ (m : Int) ∣ zzD h A := by
  obtain ⟨R, J, u, ⟨r1, r2, e, he, hK⟩, ⟨j1, j2⟩, ⟨p1, p2⟩, H⟩ := el_EI hd hm hh hA hG hG2 h (Nat.le_refl h)
  have hf : (el m false h h G h).2.1 = h := hf
  rw [hf] at p1 j1 j2
  have hJ : ∀ n t, t + n + 1 = h → J t ≤ t := fun n => by
    induction n with
    | zero => intro t ht; have := j1 t (by omega); omega
    | succ n ih => intro t ht; have h1 := ih (t + 1) (by omega); have h2 := j2 t (by omega); omega
  have hJ2 : ∀ t, t < h → t ≤ J t := fun t => by
    induction t with
    | zero => intro _; omega
    | succ t ih => intro ht; have h1 := ih (by omega); have h2 := j2 t (by omega); omega
  have hJe : ∀ t, t < h → J t = t := fun t ht => by
    have h1 := hJ (h - t - 1) t (by omega); have h2 := hJ2 t ht; omega
  intro hz
  apply p1
  rw [show MN A h R J = zzD h (fun i j => A (R i) j) from zzD_congr h (fun i j _ hj => by rw [hJe j hj])]
  rw [hK (fun j => j)]
  exact zd_r hz _

