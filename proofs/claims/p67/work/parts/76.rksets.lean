/-! ===== ranks by sets ===== -/
theorem zzD_z0 : ∀ (n i : Nat) (A : Nat → Nat → Int), i < n → (∀ j, j < n → A i j = 0) → zzD n A = 0
  | 0, i, _, hi, _ => absurd hi (Nat.not_lt_zero i)
  | n + 1, i, A, hi, h => by
    rw [zzD_s]
    refine zzS_zero _ (fun j hj => ?_)
    cases i with
    | zero => rw [h j hj, Int.mul_zero, Int.zero_mul]
    | succ i =>
      rw [zzD_z0 n i (fun i k => A (i + 1) (zk j k)) (by omega) (fun k hk => h _ (zk_le hk)), Int.mul_zero]
theorem sel_of {A x : Nat} (hA : A < 64) (hx : x < 6) (hb : A.testBit x = true) : nb A x < pc A ∧ sel A (nb A x) = x := by
  refine ⟨?_, sel_nb hA hx hb⟩
  rw [pc_nb hA]
  exact nb_lt hx hb
theorem sel_b {S i : Nat} (hS : S < 64) (hi : i < pc S) : sel S i < 6 ∧ S.testBit (sel S i) = true := by
  have h := sel_in hS (Nat.le_refl 6) (i := i) (by rw [← pc_nb hS]; exact hi)
  exact h
theorem tb_w {S h x : Nat} (hS : S < 2 ^ h) (hb : S.testBit x = true) : x < h := by
  refine Decidable.byContradiction fun z => ?_
  exact tb_hi (Nat.lt_of_lt_of_le hS (Nat.pow_le_pow_right (by decide) (Nat.le_of_not_lt z))) hb
/-- a part of the matrix, noughts elsewhere -/
def fPt (f : am_Gr) (S T : Nat) : am_Gr := fun i j => if S.testBit i = true ∧ T.testBit j = true then f i j else 0
section RKS
variable {f : am_Gr} {m h w : Nat}
theorem fPt_s {S T : Nat} (hf : fSm f h w) : fSm (fPt f S T) h w := by
  intro i j hi hj
  unfold fPt
  split
  · exact hf i j hi hj
  · show (0 : Int64).toInt.natAbs ≤ 20
    decide
theorem fPt_0r {S T i j : Nat} (h : ¬ S.testBit i = true) : fZ (fPt f S T) i j = 0 := by
  show (fPt f S T i j).toInt = 0
  unfold fPt
  rw [if_neg (fun z => h z.1)]
  rfl
theorem fPt_0c {S T i j : Nat} (h : ¬ T.testBit j = true) : fZ (fPt f S T) i j = 0 := by
  show (fPt f S T i j).toInt = 0
  unfold fPt
  rw [if_neg (fun z => h z.2)]
  rfl
theorem fPt_in {S T i j : Nat} (h1 : S.testBit i = true) (h2 : T.testBit j = true) : fZ (fPt f S T) i j = fZ f i j := by
  show (fPt f S T i j).toInt = (f i j).toInt
  unfold fPt
  rw [if_pos ⟨h1, h2⟩]
theorem rk_top (hd : zdom m) (hm : m ≤ 97) (hf : fSm f h w) (hh : h ≤ 6) (hw : w ≤ 6) {S T A B : Nat} (hS : S < 2 ^ h) (hT : T < 2 ^ w) (hA : ∀ x, A.testBit x = true → S.testBit x = true) (hB : ∀ x, B.testBit x = true → T.testBit x = true) (hA6 : A < 64) (hB6 : B < 64) (hp : pc A = pc B) (hn : ¬ (m : Int) ∣ zM f A B) : pc A ≤ rkO f m S T h w := by
  refine (rkO_rk hd hm hf hh hw (p2_64 hS hh) hT).2 (pc A) (sel A) (sel B) (fun i hi => ?_) (fun i hi => ?_) ?_
  · have := (sel_b hA6 hi).2
    exact ⟨tb_w hS (hA _ this), hA _ this⟩
  · have := (sel_b hB6 (hp ▸ hi)).2
    exact ⟨tb_w hT (hB _ this), hB _ this⟩
  · unfold zM at hn
    rw [← hp] at hn
    exact hn
theorem rk_sets (hd : zdom m) (hm : m ≤ 97) (hf : fSm f h w) (hh : h ≤ 6) (hw : w ≤ 6) {S T : Nat} (hS : S < 2 ^ h) (hT : T < 2 ^ w) : ∃ A B, A < 2 ^ h ∧ B < 2 ^ w ∧ (∀ x, A.testBit x = true → S.testBit x = true) ∧ (∀ x, B.testBit x = true → T.testBit x = true) ∧ pc A = rkO f m S T h w ∧ pc B = rkO f m S T h w ∧ ¬ (m : Int) ∣ zM f A B := by
  have hf2 : fSm (fPt f S T) h w := fPt_s hf
  have hA6 : prR (fPt f S T) m h w h < 64 := prR_lt h hh
  have hA := @prR_lt2 (fPt f S T) m h w h
  have hB := @prC_lt2 (fPt f S T) m (prR (fPt f S T) m h w h) h w w
  obtain ⟨n1, n2⟩ := prof_ne (f := fPt f S T) (r := h) (Nat.le_refl h) hd hm hf2 hh hw
  obtain ⟨r1, -⟩ := prR_rk hd hm hf2 hh hw h (Nat.le_refl h)
  revert n1 n2 r1 hA hB hA6
  generalize prR (fPt f S T) m h w h = A
  generalize prC (fPt f S T) m A h w w = B
  intro hA6 hA hB n1 n2 r1
  have hB6 := p2_64 hB hw
  have cA : ∀ x, A.testBit x = true → S.testBit x = true := by
    intro x hx
    refine Decidable.byContradiction fun z => n2 ?_
    have hx6 : x < 6 := Nat.lt_of_lt_of_le (tb_w hA hx) hh
    obtain ⟨a1, a2⟩ := sel_of hA6 hx6 hx
    rw [zzD_z0 _ (nb A x) _ a1 (fun j _ => by show fZ _ (sel A (nb A x)) _ = 0; rw [a2]; exact fPt_0r z)]
    exact Int.dvd_zero _
  have cB : ∀ x, B.testBit x = true → T.testBit x = true := by
    intro x hx
    refine Decidable.byContradiction fun z => n2 ?_
    have hx6 : x < 6 := Nat.lt_of_lt_of_le (tb_w hB hx) hw
    obtain ⟨a1, a2⟩ := sel_of hB6 hx6 hx
    rw [zzD_T, zzD_z0 _ (nb B x) _ (n1 ▸ a1) (fun j _ => by show fZ _ _ (sel B (nb B x)) = 0; rw [a2]; exact fPt_0c z)]
    exact Int.dvd_zero _
  have e : zzD (pc A) (fun i j => fZ (fPt f S T) (sel A i) (sel B j)) = zM f A B := by
    unfold zM
    rw [n1]
    exact zzD_congr _ (fun i j hi hj => fPt_in (cA _ (sel_b hA6 hi).2) (cB _ (sel_b hB6 (n1 ▸ hj)).2))
  rw [e] at n2
  have hq : pc A = rkO f m S T h w := by
    refine Nat.le_antisymm (rk_top hd hm hf hh hw hS hT cA cB hA6 hB6 n1.symm n2) ?_
    rw [r1]
    obtain ⟨⟨R, J, b1, b2, b3⟩, -⟩ := rkO_rk hd hm hf hh hw (p2_64 hS hh) hT
    refine (rkO_rk hd hm hf2 hh hw (p2_64 (lwP2 (Nat.le_refl h)) hh) (lwP2 (Nat.le_refl w))).2 _ R J (fun i hi => ⟨(b1 i hi).1, (tb_lw hh (by have := (b1 i hi).1; omega)).mpr (b1 i hi).1⟩) (fun i hi => ⟨(b2 i hi).1, (tb_lw hw (by have := (b2 i hi).1; omega)).mpr (b2 i hi).1⟩) ?_
    have e2 : MN (fZ (fPt f S T)) (rkO f m S T h w) R J = MN (fZ f) (rkO f m S T h w) R J := zzD_congr _ (fun i j hi hj => fPt_in (b1 i hi).2 (b2 j hj).2)
    rw [e2]
    exact b3
  exact ⟨A, B, hA, hB, cA, cB, hq, n1.trans hq, n2⟩
/-- smaller minors too -/
theorem zM_down {q : Nat} : ∀ (t : Nat) (A B : Nat), A < 64 → B < 64 → pc A = q + t → pc B = q + t → ¬ (m : Int) ∣ zM f A B → ∃ A2 B2, (∀ x, A2.testBit x = true → A.testBit x = true) ∧ (∀ x, B2.testBit x = true → B.testBit x = true) ∧ A2 < 64 ∧ B2 < 64 ∧ pc A2 = q ∧ pc B2 = q ∧ ¬ (m : Int) ∣ zM f A2 B2
  | 0, A, B, hA, hB, h1, h2, hn => ⟨A, B, fun _ h => h, fun _ h => h, hA, hB, h1, h2, hn⟩
  | t + 1, A, B, hA, hB, h1, h2, hn => by
    have e := zM_s (f := f) hA hB (n := q + t) h1 h2
    by_cases hall : ∀ j, j < q + t + 1 → (m : Int) ∣ zM f (wo A (sel A 0)) (wo B (sel B j))
    · exfalso
      apply hn
      rw [e]
      exact zd_sum _ (fun j hj => zd_r (hall j hj) _)
    · obtain ⟨j, hj⟩ := Classical.not_forall.mp hall
      obtain ⟨hj1, hj2⟩ := Classical.not_imp.mp hj
      have p1 := pc_above hA (j := 0) (by omega)
      have p2 := pc_above hB (j := j) (by omega)
      have k1 : wo A (sel A 0) < 64 := wo_lt hA p1.2.1
      have k2 : wo B (sel B j) < 64 := wo_lt hB p2.2.1
      obtain ⟨A2, B2, c1, c2, c3, c4, c5, c6, c7⟩ := zM_down (q := q) t _ _ k1 k2 (by have := p1.2.2.2; omega) (by have := p2.2.2.2; omega) hj2
      have hsub : ∀ s k x : Nat, s < 64 → k < 6 → (wo s k).testBit x = true → s.testBit x = true := by
        intro s k x hs hk hx
        have hx6 : x < 6 := tb_w (h := 6) (wo_lt hs hk) hx
        exact ((tb_wo hs hk hx6).mp hx).1
      exact ⟨A2, B2, fun x hx => hsub _ _ _ hA p1.2.1 (c1 x hx), fun x hx => hsub _ _ _ hB p2.2.1 (c2 x hx), c3, c4, c5, c6, c7⟩
end RKS
