/-! ===== the echelon form: the model's way and the class's ===== -/
theorem ivF_ok {n : Nat} {v : Int64} : ∀ u t, (∃ i, t ≤ i ∧ i < t + u ∧ rdL n (v * (nI i).toInt64) = 1) → rdL n (v * ivF n v u t) = 1
  | 0, t, h => by obtain ⟨i, a, b, -⟩ := h; omega
  | u + 1, t, h => by
    simp only [ivF]
    by_cases c : rdL n (v * (nI t).toInt64) = 1
    · rw [if_pos c]; exact c
    · rw [if_neg c]
      obtain ⟨i, a, b, e⟩ := h
      refine ivF_ok u (t + 1) ⟨i, ?_, by omega, e⟩
      rcases Nat.lt_or_eq_of_le a with x | x
      · exact x
      · subst x; exact absurd e c
theorem ivL_ok {x : Int64} {n : Nat} (hx : mB x) (hp : n ∈ prL) (hd : ¬ (n : Int) ∣ x.toInt) : rdL n (x * ivL n x) = 1 := by
  have hb := prL_le n hp
  obtain ⟨i, a, b, e⟩ := inv_ex hx hp hd
  exact ivF_ok (n - 1) 1 ⟨i, a, by omega, e⟩
def rg (m : Nat) (x : Int64) : Prop := 0 ≤ x.toInt ∧ x.toInt < m
theorem rdL_in {m : Nat} {x : Int64} (hm : m < 2 ^ 31) (h : rg m x) : rdL m x = x := by
  rw [← Int64.toInt_inj, rdL_int hm]
  exact Int.emod_eq_of_lt h.1 h.2
theorem rdL_rg {m : Nat} {x : Int64} (hm : m < 2 ^ 31) (h1 : 1 ≤ m) : rg m (rdL m x) := by
  unfold rg
  rw [rdL_int hm]
  exact ⟨Int.emod_nonneg _ (by omega), Int.emod_lt_of_pos _ (by omega)⟩
theorem rg_z {m : Nat} {x : Int64} (h : rg m x) : x = 0 ↔ (m : Int) ∣ x.toInt := by
  constructor
  · intro e; rw [e, l0]; exact Int.dvd_zero _
  · intro e
    rw [← Int64.toInt_inj, l0]
    rw [← Int.emod_eq_of_lt h.1 h.2]; exact Int.emod_eq_zero_of_dvd e
theorem ec_int {m a b cc d q x y z s ur ui : Int} (h1 : m ∣ a - ur * q) (h2 : m ∣ b - ui * x) (h3 : m ∣ cc - ui * y) (h4 : m ∣ d - ur * z) (h5 : m ∣ q * s - 1) : m ∣ (a * b - cc * d) % m - (ui * ur * q) * ((x - y * ((z * s) % m)) % m) := by
  obtain ⟨k1, h1⟩ := h1
  obtain ⟨k2, h2⟩ := h2
  obtain ⟨k3, h3⟩ := h3
  obtain ⟨k4, h4⟩ := h4
  obtain ⟨k5, h5⟩ := h5
  rw [Int.emod_def (a * b - cc * d), Int.emod_def (z * s), Int.emod_def (x - y * _)]
  generalize (a * b - cc * d) / m = k8
  generalize (z * s) / m = k6
  generalize (x - y * (z * s - m * k6)) / m = k7
  have ea : a = ur * q + m * k1 := by omega
  have eb : b = ui * x + m * k2 := by omega
  have ec : cc = ui * y + m * k3 := by omega
  have ed : d = ur * z + m * k4 := by omega
  subst ea; subst eb; subst ec; subst ed
  refine ⟨k1 * ui * x + ur * q * k2 + m * k1 * k2 - k3 * ur * z - ui * y * k4 - m * k3 * k4 - k8 - ui * ur * q * y * k6 + ui * ur * q * k7 + ui * ur * y * z * k5, ?_⟩
  have e5 : ui * ur * y * z * (q * s - 1) = ui * ur * y * z * (m * k5) := by rw [h5]
  grind
theorem er_int {m d q z s ur : Int} (h4 : m ∣ d - ur * z) (h5 : m ∣ q * s - 1) : m ∣ d - (ur * q) * ((z * s) % m) := by
  obtain ⟨k4, h4⟩ := h4
  obtain ⟨k5, h5⟩ := h5
  rw [Int.emod_def (z * s)]
  generalize (z * s) / m = k6
  have ed : d = ur * z + m * k4 := by omega
  subst ed
  refine ⟨k4 - ur * z * k5 + ur * q * k6, ?_⟩
  have e5 : ur * z * (q * s - 1) = ur * z * (m * k5) := by rw [h5]
  grind
theorem ef_int {m a g gm u iv : Int} (h1 : m ∣ a - u) (h2 : m ∣ g - u * gm) (h5 : m ∣ a * iv - 1) (h0 : 0 ≤ gm) (hm : gm < m) : (iv * g) % m = gm := by
  have h : m ∣ iv * g - gm := by
    obtain ⟨k1, h1⟩ := h1
    obtain ⟨k2, h2⟩ := h2
    obtain ⟨k5, h5⟩ := h5
    have ea : a = u + m * k1 := by omega
    have eg : g = u * gm + m * k2 := by omega
    subst ea; subst eg
    refine ⟨iv * k2 + gm * k5 - gm * k1 * iv, ?_⟩
    have e5 : gm * ((u + m * k1) * iv - 1) = gm * (m * k5) := by rw [h5]
    grind
  have e1 := Int.emod_eq_emod_iff_emod_sub_eq_zero.mpr (Int.emod_eq_zero_of_dvd h)
  rw [e1]
  exact Int.emod_eq_of_lt h0 hm
/-- the model: a row made to begin with 1, then the others cleared -/
def nmG (G : am_Gr) (pr m : Nat) (s : Int64) (n : Nat) : am_Gr := fun i j => if i = pr ∧ j < n then remL (G pr j * s) (nI m).toInt64 else G i j
def icG (G : am_Gr) (r pr m : Nat) (F : Int64) (n : Nat) : am_Gr := fun i j => if i = r ∧ j < n then rdL m (G r j - F * G pr j) else G i j
def ocG (G : am_Gr) (c pr m w n : Nat) : am_Gr := fun i j => if i < n ∧ i ≠ pr ∧ j < w then rdL m (G i j - G i c * G pr j) else G i j
def mcS (m h w c : Nat) (s : am_Gr × Nat) : am_Gr × Nat := if pv s.1 h s.2 c < h then (ocG (nmG (exR s.1 (pv s.1 h s.2 c) s.2 w) s.2 m (ivL m (exR s.1 (pv s.1 h s.2 c) s.2 w s.2 c)) w) c s.2 m w h, s.2 + 1) else s
def ml (m h w : Nat) (G : am_Gr) : Nat → am_Gr × Nat
  | 0 => (G, 0)
  | c + 1 => mcS m h w c (ml m h w G c)
theorem remL_rd {m : Nat} {x : Int64} (hm : m < 2 ^ 31) (h1 : 1 ≤ m) (h : 0 ≤ x.toInt) : (remL x (nI m).toInt64).toInt = x.toInt % (m : Int) := by
  rw [remL_toInt, nI_64 hm]
  exact Int.tmod_eq_emod_of_nonneg h
theorem sm_mul {a b : Int64} (ha : 0 ≤ a.toInt ∧ a.toInt < 97) (hb : 0 ≤ b.toInt ∧ b.toInt < 97) : (a * b).toInt = a.toInt * b.toInt ∧ 0 ≤ a.toInt * b.toInt ∧ a.toInt * b.toInt ≤ 9409 := by
  have h0 := Int.mul_nonneg ha.1 hb.1
  have h1 : a.toInt * b.toInt ≤ 97 * 97 := Int.mul_le_mul (by omega) (by omega) hb.1 (by omega)
  refine ⟨?_, h0, by omega⟩
  rw [Int64.toInt_mul]
  exact Int.bmod_eq_of_le (by omega) (by omega)
theorem sm_sub {a b c d : Int64} (ha : 0 ≤ a.toInt ∧ a.toInt < 97) (hb : 0 ≤ b.toInt ∧ b.toInt < 97) (hc : 0 ≤ c.toInt ∧ c.toInt < 97) (hd : 0 ≤ d.toInt ∧ d.toInt < 97) : (a * b - c * d).toInt = a.toInt * b.toInt - c.toInt * d.toInt := by
  obtain ⟨e1, e2, e3⟩ := sm_mul ha hb
  obtain ⟨f1, f2, f3⟩ := sm_mul hc hd
  rw [Int64.toInt_sub, e1, f1]
  exact Int.bmod_eq_of_le (by omega) (by omega)
theorem sm_sub1 {a c d : Int64} (ha : 0 ≤ a.toInt ∧ a.toInt < 97) (hc : 0 ≤ c.toInt ∧ c.toInt < 97) (hd : 0 ≤ d.toInt ∧ d.toInt < 97) : (a - c * d).toInt = a.toInt - c.toInt * d.toInt := by
  obtain ⟨f1, f2, f3⟩ := sm_mul hc hd
  rw [Int64.toInt_sub, f1]
  exact Int.bmod_eq_of_le (by omega) (by omega)
theorem rg_97 {m : Nat} {x : Int64} (hm : m ≤ 97) (h : rg m x) : 0 ≤ x.toInt ∧ x.toInt < 97 := ⟨h.1, by have := h.2; omega⟩
theorem pvN_zc {G H : am_Gr} {c h : Nat} (e : ∀ i, i < h → (G i c = 0 ↔ H i c = 0)) : ∀ n r, r + n ≤ h → pvN G c n r = pvN H c n r
  | 0, _, _ => rfl
  | n + 1, r, hr => by
    simp only [pvN]
    by_cases a : G r c = 0
    · rw [if_pos a, if_pos ((e r (by omega)).mp a), pvN_zc e n (r + 1) (by omega)]
    · rw [if_neg a, if_neg (fun z => a ((e r (by omega)).mpr z))]
/-- the two forms of one matrix -/
def EQ (m h w c rk : Nat) (Gc Gm : am_Gr) (u : Nat → Int) : Prop :=
  (∀ i, i < h → ¬ (m : Int) ∣ u i ∧ ∀ j, j < w → rg m (Gc i j) ∧ rg m (Gm i j) ∧ (m : Int) ∣ (Gc i j).toInt - u i * (Gm i j).toInt) ∧ (∀ i, rk ≤ i → i < h → ∀ j, j < c → Gm i j = 0) ∧ ∀ i, i < rk → ∃ q, q < c ∧ Gm i q = 1 ∧ ∀ j, j < q → Gm i j = 0
theorem EQ_z {m h w c rk : Nat} {Gc Gm : am_Gr} {u : Nat → Int} (hp : m ∈ prL) (h0 : EQ m h w c rk Gc Gm u) {i j : Nat} (hi : i < h) (hj : j < w) : Gc i j = 0 ↔ Gm i j = 0 := by
  obtain ⟨a, b⟩ := h0.1 i hi
  obtain ⟨b1, b2, b3⟩ := b j hj
  rw [rg_z b1, rg_z b2]
  constructor
  · intro z
    have z2 : (m : Int) ∣ u i * (Gm i j).toInt := by
      have := Int.dvd_sub z b3
      rwa [show (Gc i j).toInt - ((Gc i j).toInt - u i * (Gm i j).toInt) = u i * (Gm i j).toInt by omega] at this
    exact ((zdom_p hp).1 _ _ z2).resolve_left a
  · intro z
    have := Int.dvd_add b3 (Int.dvd_trans z (Int.dvd_mul_left (u i) (Gm i j).toInt))
    rwa [show (Gc i j).toInt - u i * (Gm i j).toInt + u i * (Gm i j).toInt = (Gc i j).toInt by omega] at this
set_option maxHeartbeats 1000000 in
theorem EQ_step {m h w c rk : Nat} {pp : Int64} {Gc Gm : am_Gr} {u : Nat → Int} (hp : m ∈ prL) (hc : c < w) (h0 : EQ m h w c rk Gc Gm u) (hq : pv Gc h rk c < h) : pv Gm h rk c = pv Gc h rk c ∧ ∃ u2, EQ m h w (c + 1) (rk + 1) (clG m pp c w rk 0 h (exR Gc (pv Gc h rk c) rk w)) (ocG (nmG (exR Gm (pv Gc h rk c) rk w) rk m (ivL m (exR Gm (pv Gc h rk c) rk w rk c)) w) c rk m w h) u2 := by
  have hb := prL_le m hp
  have hge : rk ≤ pv Gc h rk c := pv_ge
  have hzz := fun i hi => EQ_z hp h0 (i := i) (j := c) hi hc
  have epv : pv Gc h rk c = pv Gm h rk c := pvN_zc hzz _ _ (by omega)
  have hnz : ¬ Gc (pv Gc h rk c) c = 0 := pvN_nz (h - rk) rk (by show pv _ h _ c < _; omega)
  refine ⟨epv.symm, ?_⟩
  generalize pv Gc h rk c = p at hge hnz hq ⊢
  obtain ⟨H1, H2, H3⟩ := h0
  -- the swapped ones
  have eA : ∀ G : am_Gr, ∀ i j, j < w → exR G p rk w i j = G (if i = rk then p else if i = p then rk else i) j := fun G i j hj => by
    unfold exR
    rw [if_pos hj]
    by_cases a : i = rk
    · rw [if_pos a, if_pos a]
    · rw [if_neg a, if_neg a]
      by_cases b : i = p
      · rw [if_pos b, if_pos b]
      · rw [if_neg b, if_neg b]
  have hsw : ∀ i, i < h → (if i = rk then p else if i = p then rk else i) < h := fun i hi => by split <;> (try split) <;> omega
  generalize hA : exR Gc p rk w = A
  generalize hB : exR Gm p rk w = Bm
  have K1 : ∀ i, i < h → ¬ (m : Int) ∣ u (if i = rk then p else if i = p then rk else i) ∧ ∀ j, j < w → rg m (A i j) ∧ rg m (Bm i j) ∧ (m : Int) ∣ (A i j).toInt - u (if i = rk then p else if i = p then rk else i) * (Bm i j).toInt := fun i hi => by
    obtain ⟨a, b⟩ := H1 _ (hsw i hi)
    refine ⟨a, fun j hj => ?_⟩
    rw [← hA, ← hB, eA Gc i j hj, eA Gm i j hj]
    exact b j hj
  generalize hv : (fun i => u (if i = rk then p else if i = p then rk else i)) = v
  have ev : ∀ i, u (if i = rk then p else if i = p then rk else i) = v i := fun i => by rw [← hv]
  have K2 : ∀ i, rk ≤ i → i < h → ∀ j, j < c → Bm i j = 0 := fun i h1 h2 j hj => by
    rw [← hB, eA Gm i j (by omega)]
    exact H2 _ (by split <;> (try split) <;> omega) (hsw i h2) j hj
  have K3 : ∀ i, i < rk → ∀ j, j < w → Bm i j = Gm i j := fun i hi j hj => by
    rw [← hB, eA Gm i j hj, if_neg (by omega), if_neg (by omega)]
  have hrk : rk < h := by omega
  obtain ⟨v1, v2⟩ := K1 rk hrk
  rw [ev rk] at v1 v2
  have hBc : ¬ Bm rk c = 0 := by
    rw [← hB, eA Gm rk c hc, if_pos rfl]
    exact fun z => hnz ((hzz p hq).mpr z)
  have rq : rg m (Bm rk c) := (v2 c hc).2.1
  have nq : ¬ (m : Int) ∣ (Bm rk c).toInt := fun z => hBc ((rg_z rq).mpr z)
  generalize hs : ivL m (Bm rk c) = s
  obtain ⟨si, si1, si2⟩ := @ivL_nI m (Bm rk c) hb.1
  have rs : 0 ≤ s.toInt ∧ s.toInt < 97 := by
    rw [← hs, si2, nI_64 (by omega)]; omega
  have h97 := fun (x : Int64) (hx : rg m x) => rg_97 hb.2 hx
  have hqs : (m : Int) ∣ (Bm rk c).toInt * s.toInt - 1 := by
    have e := ivL_ok (x := Bm rk c) (by unfold mB; have := h97 _ rq; omega) hp nq
    rw [hs, ← Int64.toInt_inj, rdL_int (by omega), (sm_mul (h97 _ rq) rs).1, l1] at e
    generalize (Bm rk c).toInt * s.toInt = T at e ⊢
    refine ⟨T / (m : Int), ?_⟩
    rw [Int.emod_def] at e
    generalize (m : Int) * (T / (m : Int)) = W at e ⊢
    omega
  have eN : ∀ i j, i ≠ rk → nmG Bm rk m s w i j = Bm i j := fun i j hi => by unfold nmG; rw [if_neg (fun z => hi z.1)]
  have eR : ∀ j, j < w → (nmG Bm rk m s w rk j).toInt = ((Bm rk j).toInt * s.toInt) % (m : Int) := fun j hj => by
    obtain ⟨e1, e2, e3⟩ := sm_mul (h97 _ (v2 j hj).2.1) rs
    unfold nmG
    rw [if_pos ⟨rfl, hj⟩, remL_rd (by omega) (by omega) (by rw [e1]; exact e2), e1]
  have rR : ∀ j, j < w → rg m (nmG Bm rk m s w rk j) := fun j hj => by
    unfold rg
    rw [eR j hj]
    exact ⟨Int.emod_nonneg _ (by omega), Int.emod_lt_of_pos _ (by omega)⟩
  have cls : ∀ i j, i < h → i ≠ rk → j < w → clG m pp c w rk 0 h A i j = rdL m (A rk c * A i j - A i c * A rk j) := fun i j hi hne hj => by
    unfold clG redE
    rw [if_pos ⟨Nat.zero_le _, hi, hne, hj⟩, if_neg (by omega)]
  have clr : ∀ j, clG m pp c w rk 0 h A rk j = A rk j := fun j => by
    unfold clG
    rw [if_neg (fun z => z.2.2.1 rfl)]
  have mos : ∀ i j, i < h → i ≠ rk → j < w → ocG (nmG Bm rk m s w) c rk m w h i j = rdL m (Bm i j - Bm i c * nmG Bm rk m s w rk j) := fun i j hi hne hj => by
    unfold ocG
    rw [if_pos ⟨hi, hne, hj⟩, eN i j hne, eN i c hne]
  have mor : ∀ j, ocG (nmG Bm rk m s w) c rk m w h rk j = nmG Bm rk m s w rk j := fun j => by
    unfold ocG
    rw [if_neg (fun z => z.2.1 rfl)]
  have z1 : ∀ j, j < c → nmG Bm rk m s w rk j = 0 := fun j hj => by
    rw [← Int64.toInt_inj, eR j (by omega), K2 rk (Nat.le_refl _) hrk j hj, l0, Int.zero_mul, Int.zero_emod]
  have z2 : nmG Bm rk m s w rk c = 1 := by
    rw [← Int64.toInt_inj, eR c hc, l1]
    have e : ((Bm rk c).toInt * s.toInt) % (m : Int) = 1 % (m : Int) := Int.emod_eq_emod_iff_emod_sub_eq_zero.mpr (Int.emod_eq_zero_of_dvd hqs)
    rw [e]
    exact Int.emod_eq_of_lt (by omega) (by omega)
  refine ⟨fun i => if i = rk then v rk * (Bm rk c).toInt else v i * v rk * (Bm rk c).toInt, fun i hi => ?_, fun i h1 h2 j hj => ?_, fun i hi => ?_⟩
  · by_cases a : i = rk
    · subst a
      refine ⟨?_, fun j hj => ?_⟩
      · show ¬ (m : Int) ∣ if i = i then _ else _
        rw [if_pos rfl]
        exact (zdom_p hp).mul v1 nq
      · show rg m _ ∧ rg m _ ∧ (m : Int) ∣ _ - (if i = i then _ else _) * _
        rw [clr j, mor j, if_pos rfl]
        refine ⟨(v2 j hj).1, rR j hj, ?_⟩
        rw [eR j hj]
        exact er_int (v2 j hj).2.2 hqs
    · obtain ⟨w1, w2⟩ := K1 i hi
      rw [ev i] at w1 w2
      refine ⟨?_, fun j hj => ?_⟩
      · show ¬ (m : Int) ∣ if i = rk then _ else _
        rw [if_neg a]
        exact (zdom_p hp).mul ((zdom_p hp).mul w1 v1) nq
      · show rg m _ ∧ rg m _ ∧ (m : Int) ∣ _ - (if i = rk then _ else _) * _
        rw [cls i j hi a hj, mos i j hi a hj, if_neg a]
        refine ⟨rdL_rg (by omega) (by omega), rdL_rg (by omega) (by omega), ?_⟩
        rw [rdL_int (by omega), rdL_int (by omega), sm_sub (h97 _ (v2 c hc).1) (h97 _ (w2 j hj).1) (h97 _ (w2 c hc).1) (h97 _ (v2 j hj).1), sm_sub1 (h97 _ (w2 j hj).2.1) (h97 _ (w2 c hc).2.1) (h97 _ (rR j hj)), eR j hj]
        exact ec_int (v2 c hc).2.2 (w2 j hj).2.2 (w2 c hc).2.2 (v2 j hj).2.2 hqs
  · have hne : i ≠ rk := by omega
    rw [mos i j h2 hne (by omega)]
    obtain ⟨w1, w2⟩ := K1 i h2
    rw [← Int64.toInt_inj, rdL_int (by omega), sm_sub1 (h97 _ (w2 j (by omega)).2.1) (h97 _ (w2 c hc).2.1) (h97 _ (rR j (by omega))), l0]
    rcases Nat.lt_or_eq_of_le (Nat.le_of_lt_succ hj) with a | a
    · rw [z1 j a, K2 i (by omega) h2 j a, l0, Int.mul_zero, Int.sub_zero, Int.zero_emod]
    · subst a
      rw [z2, l1, Int.mul_one, Int.sub_self, Int.zero_emod]
  · rcases Nat.lt_or_eq_of_le (Nat.le_of_lt_succ hi) with a | a
    · obtain ⟨q, q1, q2, q3⟩ := H3 i a
      obtain ⟨w1, w2⟩ := K1 i (by omega)
      have same : ∀ j, j < c → ocG (nmG Bm rk m s w) c rk m w h i j = Gm i j := fun j hj => by
        rw [mos i j (by omega) (by omega) (by omega), ← K3 i a j (by omega), ← Int64.toInt_inj, rdL_int (by omega), sm_sub1 (h97 _ (w2 j (by omega)).2.1) (h97 _ (w2 c hc).2.1) (h97 _ (rR j (by omega))), z1 j hj, l0, Int.mul_zero, Int.sub_zero]
        exact Int.emod_eq_of_lt (w2 j (by omega)).2.1.1 (w2 j (by omega)).2.1.2
      exact ⟨q, by omega, (same q q1).trans q2, fun j hj => (same j (by omega)).trans (q3 j hj)⟩
    · subst a
      exact ⟨c, Nat.lt_succ_self c, (mor c).trans z2, fun j hj => (mor j).trans (z1 j hj)⟩
theorem EQ_skip {m h w c rk : Nat} {Gc Gm : am_Gr} {u : Nat → Int} (hp : m ∈ prL) (hc : c < w) (hr : rk ≤ h) (h0 : EQ m h w c rk Gc Gm u) (hq : ¬ pv Gc h rk c < h) : ¬ pv Gm h rk c < h ∧ EQ m h w (c + 1) rk Gc Gm u := by
  have hzz := fun i hi => EQ_z hp h0 (i := i) (j := c) hi hc
  have epv : pv Gc h rk c = pv Gm h rk c := pvN_zc hzz _ _ (by omega)
  refine ⟨by rw [← epv]; exact hq, h0.1, fun i h1 h2 j hj => ?_, fun i hi => ?_⟩
  · rcases Nat.lt_or_eq_of_le (Nat.le_of_lt_succ hj) with a | a
    · exact h0.2.1 i h1 h2 j a
    · subst a
      exact (hzz i h2).mp (pvN_z (h - rk) rk i h1 (by unfold pv at hq; omega) (by omega))
  · obtain ⟨q, a, b⟩ := h0.2.2 i hi
    exact ⟨q, by omega, b⟩
