/-! ===== what the class reads in the law's text ===== -/
theorem ib_drop {B Y : List Int32} {e : Nat} (h : B.drop e = Y) (i : Nat) : ibA B (e + i) = ibA Y i := by
  unfold ibA
  rw [← h, List.getElem?_drop]
theorem ib_app {X Y : List Int32} {i : Nat} (h : i < X.length) : ibA (X ++ Y) i = X.getD i 0 := by
  unfold ibA
  rw [List.getElem?_append_left h, List.getD_eq_getElem?_getD, List.getElem?_eq_getElem h]
  rfl
theorem ib_app2 {X Y : List Int32} : ibA (X ++ Y) X.length = ibA Y 0 := by
  unfold ibA
  rw [List.getElem?_append_right (Nat.le_refl _), Nat.sub_self]
theorem dr_step {B X Y : List Int32} {e : Nat} (h : B.drop e = X ++ Y) : B.drop (e + X.length) = Y := by
  rw [← List.drop_drop, h, List.drop_left]
theorem dr_len {B Y : List Int32} {e : Nat} (h : B.drop e = Y) (he : e ≤ B.length) : B.length = e + Y.length := by
  have := congrArg List.length h
  rw [List.length_drop] at this
  omega
theorem sk_k {p : Int32 → Bool} {B : List Int32} : ∀ k u i, k ≤ u → (∀ j, j < k → p (ibA B (i + j)) = true) → p (ibA B (i + k)) = false → skF p B u i = i + k
  | 0, 0, i, _, _, _ => rfl
  | 0, u + 1, i, _, _, h2 => by
    simp only [skF]
    rw [if_neg (by rw [Nat.add_zero] at h2; rw [h2]; decide)]
    rfl
  | k + 1, 0, i, hk, _, _ => by omega
  | k + 1, u + 1, i, hk, h1, h2 => by
    simp only [skF]
    rw [if_pos (by have := h1 0 (by omega); rwa [Nat.add_zero] at this), sk_k k u (i + 1) (by omega) (fun j hj => by have := h1 (j + 1) (by omega); rwa [show i + (j + 1) = i + 1 + j by omega] at this) (by rwa [show i + (k + 1) = i + 1 + k by omega] at h2)]
    omega
theorem nv_stop {c : Nat} {B : List Int32} {i a : Nat} (h : isDb (ibA B i) = false) : ∀ f, nvF c B f i a = a
  | 0 => rfl
  | f + 1 => by
    simp only [nvF]
    rw [if_neg (by rw [h]; decide)]
theorem dg_d : ∀ d : Nat, d < 10 → isDb (nI (48 + d)) = true ∧ isLb (nI (48 + d)) = false ∧ isBb (nI (48 + d)) = false ∧ dgv (nI (48 + d)) = d := by decide +kernel
/-- a blank ahead, or none -/
def bl1 (bl : List Int32) : Prop := bl = [] ∨ bl = [32]
theorem nx_bl {B bl X : List Int32} {e : Nat} (h : B.drop e = bl ++ X) (he : e ≤ B.length) (hb : bl1 bl) (hX : isBb (ibA X 0) = false) : nxS B B.length e = e + bl.length := by
  have hl := dr_len h he
  rw [List.length_append] at hl
  have hs := ib_drop (dr_step h) 0
  rw [Nat.add_zero] at hs
  unfold nxS
  refine sk_k _ _ _ (by omega) (fun j hj => ?_) (by rw [hs]; exact hX)
  rw [ib_drop h j, ib_app hj]
  rcases hb with rfl | rfl
  · exact absurd hj (Nat.not_lt_zero j)
  · have : j = 0 := by have : j < 1 := hj; omega
    subst this
    rfl
section TOK
variable {B bl Y : List Int32} {e : Nat}
theorem tk_num {u : Nat} (h : B.drop e = bl ++ (dgP u ++ Y)) (he : e ≤ B.length) (hb : bl1 bl) (hu : u < 100) (hY : isDb (ibA Y 0) = false) : tkF 1000 B B.length e = (e + bl.length, e + bl.length + (dgP u).length, 2, u) ∧ B.drop (e + bl.length + (dgP u).length) = Y ∧ e + bl.length + (dgP u).length ≤ B.length := by
  have d1 := dr_step h
  have d2 := dr_step d1
  have hl := dr_len h he
  rw [List.length_append, List.length_append] at hl
  have hlen := @dgP_l u
  have c0 : ibA (dgP u ++ Y) 0 = nI (48 + (if u < 10 then u else u / 10)) := by
    unfold dgP
    split <;> rfl
  have hd0 : (if u < 10 then u else u / 10) < 10 := by split <;> omega
  obtain ⟨k1, k2, k3, k4⟩ := dg_d _ hd0
  have hnx := nx_bl h he hb (by rw [c0]; exact k3)
  have hlt : e + bl.length < B.length := by split at hlen <;> omega
  have a0 : ibA B (e + bl.length) = nI (48 + (if u < 10 then u else u / 10)) := by
    have := ib_drop d1 0
    rw [Nat.add_zero, c0] at this
    exact this
  have aY : ∀ k, k = (dgP u).length → isDb (ibA B (e + bl.length + k)) = false := by
    intro k hk
    have := ib_drop d2 0
    rw [Nat.add_zero] at this
    rw [hk, this]
    exact hY
  refine ⟨?_, d2, by omega⟩
  unfold tkF
  rw [hnx, if_pos hlt, a0, if_neg (by rw [k2]; decide), if_pos k1]
  by_cases h10 : u < 10
  · rw [if_pos h10] at hlen a0 k1 k4
    have e1 : skF isDb B (B.length - (e + bl.length)) (e + bl.length) = e + bl.length + 1 := sk_k 1 _ _ (by omega) (fun j hj => by rw [show j = 0 by omega, Nat.add_zero, a0]; exact k1) (aY 1 hlen.symm)
    have e2 : nvF 1000 B (B.length - (e + bl.length)) (e + bl.length) 0 = u := by
      obtain ⟨f, hf⟩ : ∃ f, B.length - (e + bl.length) = f + 1 := ⟨B.length - (e + bl.length) - 1, by omega⟩
      rw [hf]
      simp only [nvF]
      rw [a0, if_pos k1, nv_stop (aY 1 hlen.symm), k4]
      omega
    rw [e1, e2, hlen]
  · rw [if_neg h10] at hlen a0 k1 k4
    obtain ⟨m1, m2, m3, m4⟩ := dg_d (u % 10) (by omega)
    have a1 : ibA B (e + bl.length + 1) = nI (48 + u % 10) := by
      rw [ib_drop d1 1]
      unfold dgP
      rw [if_neg h10]
      rfl
    have e1 : skF isDb B (B.length - (e + bl.length)) (e + bl.length) = e + bl.length + 2 := sk_k 2 _ _ (by omega) (fun j hj => by
      by_cases z : j = 0
      · rw [z, Nat.add_zero, a0]; exact k1
      · rw [show j = 1 by omega, a1]; exact m1) (aY 2 hlen.symm)
    have e2 : nvF 1000 B (B.length - (e + bl.length)) (e + bl.length) 0 = u := by
      obtain ⟨f, hf⟩ : ∃ f, B.length - (e + bl.length) = f + 2 := ⟨B.length - (e + bl.length) - 2, by omega⟩
      rw [hf]
      simp only [nvF]
      rw [a0, if_pos k1, a1, if_pos m1, nv_stop (aY 2 hlen.symm), k4, m4]
      omega
    rw [e1, e2, hlen]
theorem lb_bb {x : Int32} (h : isLb x = true) : isBb x = false := by
  have h := (of_decide_eq_true h).1
  refine decide_eq_false ?_
  rintro (rfl | rfl) <;> exact absurd h (by decide)
theorem tk_wd {bs : List Int32} (h : B.drop e = bl ++ (bs ++ Y)) (he : e ≤ B.length) (hb : bl1 bl) (h0 : 0 < bs.length) (hL : ∀ j, j < bs.length → isLb (bs.getD j 0) = true) (hY : isLb (ibA Y 0) = false) : tkF 1000 B B.length e = (e + bl.length, e + bl.length + bs.length, 1, 0) ∧ B.drop (e + bl.length + bs.length) = Y ∧ e + bl.length + bs.length ≤ B.length ∧ ∀ j, j < bs.length → ibA B (e + bl.length + j) = bs.getD j 0 := by
  have d1 := dr_step h
  have d2 := dr_step d1
  have hl := dr_len h he
  rw [List.length_append, List.length_append] at hl
  have aj : ∀ j, j < bs.length → ibA B (e + bl.length + j) = bs.getD j 0 := fun j hj => by rw [ib_drop d1 j, ib_app hj]
  have a0 := aj 0 h0
  rw [Nat.add_zero] at a0
  have hnx := nx_bl h he hb (by rw [ib_app h0]; exact lb_bb (hL 0 h0))
  refine ⟨?_, d2, by omega, aj⟩
  unfold tkF
  rw [hnx, if_pos (by omega), a0, if_pos (hL 0 h0)]
  rw [sk_k bs.length _ _ (by omega) (fun j hj => by rw [aj j hj]; exact hL j hj) (by
    have := ib_drop d2 0
    rw [Nat.add_zero] at this
    rw [this]
    exact hY)]
theorem tk_sy {x : Int32} (h : B.drop e = bl ++ ([x] ++ Y)) (he : e ≤ B.length) (hb : bl1 bl) (h1 : isBb x = false) (h2 : isLb x = false) (h3 : isDb x = false) : tkF 1000 B B.length e = (e + bl.length, e + bl.length + 1, 3, 0) ∧ B.drop (e + bl.length + 1) = Y ∧ e + bl.length + 1 ≤ B.length ∧ ibA B (e + bl.length) = x := by
  have d1 := dr_step h
  have d2 := dr_step d1
  have hl := dr_len h he
  rw [List.length_append, List.length_append, show [x].length = 1 from rfl] at hl
  have a0 : ibA B (e + bl.length) = x := by
    have := ib_drop d1 0
    rw [Nat.add_zero] at this
    exact this
  have hnx := nx_bl h he hb h1
  refine ⟨?_, d2, by omega, a0⟩
  unfold tkF
  rw [hnx, if_pos (by omega), a0, if_neg (by rw [h2]; decide), if_neg (by rw [h3]; decide)]
theorem tk_end (h : B.drop e = []) (he : e ≤ B.length) : (tkF 1000 B B.length e).2.2.1 = 0 := by
  have hl := dr_len h he
  have e1 : nxS B B.length e = e := by
    unfold nxS
    rw [show B.length - e = 0 by rw [hl]; simp]
    rfl
  unfold tkF
  rw [e1, if_neg (by rw [hl]; simp)]
end TOK
/-- a whole number's text -/
def dgI (z : Int) : List Int32 := dgZ (decide (z < 0)) z.natAbs
theorem dgI_p {z : Int} (h : 0 ≤ z) : dgI z = dgP z.natAbs := by
  unfold dgI dgZ
  rw [decide_eq_false (by omega)]
  rfl
theorem dgI_n {z : Int} (h : z < 0) : dgI z = [45] ++ dgP z.natAbs := by
  unfold dgI dgZ
  rw [decide_eq_true h]
  rfl
theorem sgn_v : ∀ u : Nat, u ≤ 20 → (nI u).toInt64 = Int64.ofInt u ∧ (-(nI u)).toInt64 = Int64.ofInt (-(u : Int)) := by decide +kernel
section ROW
variable {B : List Int32}
theorem en_tok {e : Nat} {bl Y : List Int32} {z : Int} {x : Int32} (h : B.drop e = bl ++ (dgI z ++ ([x] ++ Y))) (he : e ≤ B.length) (hb : bl1 bl) (hz : -20 ≤ z ∧ z ≤ 20) (hx : isDb x = false) : ∃ s e1, eT B B.length (tkF 1000 B B.length e) = (s, e1, 2, z.natAbs) ∧ B.drop e1 = [x] ++ Y ∧ e1 ≤ B.length ∧ eV B B.length (tkF 1000 B B.length e) = Int64.ofInt z := by
  by_cases h0 : z < 0
  · rw [dgI_n h0, List.append_assoc] at h
    obtain ⟨t1, t2, t3, t4⟩ := tk_sy h he hb (by decide) (by decide) (by decide)
    obtain ⟨n1, n2, n3⟩ := tk_num (bl := []) (u := z.natAbs) (Y := [x] ++ Y) t2 t3 (Or.inl rfl) (by omega) hx
    have hs : isSy B 45 (tkF 1000 B B.length e) := by rw [t1]; exact ⟨rfl, t4⟩
    have e1 : eT B B.length (tkF 1000 B B.length e) = nx B B.length (tkF 1000 B B.length e) := if_pos hs
    have e2 : nx B B.length (tkF 1000 B B.length e) = (e + bl.length + 1 + 0, e + bl.length + 1 + 0 + (dgP z.natAbs).length, 2, z.natAbs) := by
      show tkF 1000 B B.length (tkF 1000 B B.length e).2.1 = _
      rw [t1]
      exact n1
    refine ⟨_, _, e1.trans e2, n2, n3, ?_⟩
    unfold eV
    rw [if_pos hs, e1, e2]
    show (-(nI z.natAbs)).toInt64 = _
    rw [(sgn_v z.natAbs (by omega)).2]
    congr 1
    omega
  · rw [dgI_p (by omega)] at h
    obtain ⟨n1, n2, n3⟩ := tk_num (u := z.natAbs) h he hb (by omega) hx
    have hs : ¬ isSy B 45 (tkF 1000 B B.length e) := by rw [n1]; exact fun z => absurd z.1 (by show ¬ (2 : Nat) = 3; decide)
    have e1 : eT B B.length (tkF 1000 B B.length e) = tkF 1000 B B.length e := if_neg hs
    refine ⟨_, _, e1.trans n1, n2, n3, ?_⟩
    unfold eV
    rw [if_neg hs, e1, n1]
    show (nI z.natAbs).toInt64 = _
    rw [(sgn_v z.natAbs (by omega)).1]
    congr 1
    omega
/-- a row's text from its entry j on, Y behind -/
def rwTl (ev : Nat → Int) (w : Nat) (Y : List Int32) : Nat → Nat → List Int32
  | 0, _ => Y
  | u + 1, j => dgI (ev j) ++ ([if j = w - 1 then 59 else 44] ++ rwTl ev w Y u (j + 1))
theorem sep_ok {c : Prop} [Decidable c] : isBb (if c then 59 else 44 : Int32) = false ∧ isLb (if c then 59 else 44 : Int32) = false ∧ isDb (if c then 59 else 44 : Int32) = false := by
  split <;> decide
theorem row_ok {ev : Nat → Int} {w : Nat} {Y : List Int32} {t0 : am_T} (hev : ∀ j, -20 ≤ ev j ∧ ev j ≤ 20) : ∀ u j e bl, j + u = w → rS B B.length t0 j = tkF 1000 B B.length e → B.drop e = bl ++ rwTl ev w Y u j → e ≤ B.length → bl1 bl → (u ≠ 0 ∨ bl = []) → rE B B.length w t0 u j = none ∧ (∃ e1, rS B B.length t0 w = tkF 1000 B B.length e1 ∧ B.drop e1 = Y ∧ e1 ≤ B.length) ∧ ∀ i, j ≤ i → i < w → eV B B.length (rS B B.length t0 i) = Int64.ofInt (ev i)
  | 0, j, e, bl, hj, hs, hd, he, hb, h0 => by
    obtain rfl : j = w := by omega
    have : bl = [] := h0.resolve_left (fun z => z rfl)
    subst this
    exact ⟨rfl, ⟨e, hs, hd, he⟩, fun i h1 h2 => by omega⟩
  | u + 1, j, e, bl, hj, hs, hd, he, hb, _ => by
    obtain ⟨s1, s2, s3⟩ := @sep_ok (j = w - 1) _
    obtain ⟨s, e1, t1, t2, t3, t4⟩ := en_tok hd he hb (hev j) s3
    obtain ⟨y1, y2, y3, y4⟩ := tk_sy (bl := []) (e := e1) (B := B) t2 t3 (Or.inl rfl) s1 s2 s3
    have n1 : nx B B.length (eT B B.length (rS B B.length t0 j)) = (e1, e1 + 1, 3, 0) := by
      rw [hs, t1]
      exact y1
    have n2 : rS B B.length t0 (j + 1) = tkF 1000 B B.length (e1 + 1) := by
      show nx B B.length (nx B B.length (eT B B.length (rS B B.length t0 j))) = _
      rw [n1]
      rfl
    obtain ⟨r1, r2, r3⟩ := row_ok (t0 := t0) hev u (j + 1) (e1 + 1) [] (by omega) n2 y2 y3 (Or.inl rfl) (Or.inr rfl)
    refine ⟨?_, r2, fun i h1 h2 => ?_⟩
    · simp only [rE]
      rw [n1, hs, t1, if_pos (by have := hev j; show ckN 0 20 (s, e1, 2, (ev j).natAbs) = 0; unfold ckN; rw [if_pos rfl, if_pos ⟨Nat.zero_le _, by show (ev j).natAbs ≤ 20; omega⟩]), if_pos ⟨rfl, y4⟩]
      exact r1
    · by_cases c : i = j
      · rw [c, hs]; exact t4
      · exact r3 i (by omega) h2
theorem rF_eq {ev : Nat → Int} {f : am_Gr} {rt : Nat} {t0 : am_T} : ∀ w, (∀ i, i < w → eV B B.length (rS B B.length t0 i) = Int64.ofInt (ev i)) → rF B B.length f rt t0 w = fun a b => if a = rt ∧ b < w then Int64.ofInt (ev b) else f a b
  | 0, _ => by
    funext a b
    show f a b = _
    rw [if_neg (by omega)]
  | w + 1, h => by
    have ih := rF_eq (f := f) (rt := rt) w (fun i hi => h i (by omega))
    funext a b
    show up2 (rF B B.length f rt t0 w) rt w (eV B B.length (rS B B.length t0 w)) a b = _
    rw [ih, h w (by omega)]
    unfold up2
    by_cases c : a = rt ∧ b = w
    · rw [if_pos c, if_pos ⟨c.1, by omega⟩, c.2]
    · rw [if_neg c]
      show (if a = rt ∧ b < w then Int64.ofInt (ev b) else f a b) = _
      by_cases d : a = rt ∧ b < w
      · rw [if_pos d, if_pos ⟨d.1, by omega⟩]
      · rw [if_neg d, if_neg (by omega)]
/-- the primes' text -/
def psT : List Nat → List Int32
  | [] => []
  | p :: ps => wPr ++ ([32] ++ (dgP p ++ ([59] ++ psT ps)))
theorem psT_h (ps : List Nat) : isLb (ibA ([59] ++ psT ps) 0) = false ∧ isDb (ibA ([59] ++ psT ps) 0) = false := ⟨rfl, rfl⟩
theorem pr_ps {h w rt : Nat} {f : am_Gr} : ∀ (ps : List Nat) (U e : Nat) (P : Nat → Nat) (pn : Nat), ps.length < U → B.drop e = psT ps → e ≤ B.length → pn + ps.length ≤ 6 → ps.Nodup → (∀ p ∈ ps, p ∈ prL) → (∀ j, j < pn → P j ∉ ps) → ∃ P2, prE B B.length h w U (tkF 1000 B B.length e) f rt P pn = .inr (f, rt, P2, pn + ps.length)
  | [], 0, _, _, _, hU, _, _, _, _, _, _ => absurd hU (Nat.lt_irrefl 0)
  | [], U + 1, e, P, pn, _, hd, he, _, _, _, _ => by
    refine ⟨P, ?_⟩
    simp only [prE]
    rw [if_pos (tk_end hd he)]
    rfl
  | p :: ps, 0, _, _, _, hU, _, _, _, _, _, _ => absurd hU (Nat.not_lt_zero _)
  | p :: ps, U + 1, e, P, pn, hU, hd, he, h6, hn, hp, hP => by
    obtain ⟨hp2, hp97⟩ := prL_le p (hp p List.mem_cons_self)
    have hlen : (p :: ps).length = ps.length + 1 := rfl
    obtain ⟨w1, w2, w3, w4⟩ := tk_wd (bl := []) (bs := wPr) (Y := [32] ++ (dgP p ++ ([59] ++ psT ps))) hd he (Or.inl rfl) (by decide) (by decide) rfl
    obtain ⟨n1, n2, n3⟩ := tk_num (bl := [32]) (u := p) (Y := [59] ++ psT ps) w2 w3 (Or.inr rfl) (by omega) rfl
    obtain ⟨y1, y2, y3, y4⟩ := tk_sy (bl := []) (x := 59) n2 n3 (Or.inl rfl) (by decide) (by decide) (by decide)
    have x1 : nx B B.length (tkF 1000 B B.length e) = (e + 0 + wPr.length + [(32 : Int32)].length, e + 0 + wPr.length + [(32 : Int32)].length + (dgP p).length, 2, p) := by
      show tkF 1000 B B.length (tkF 1000 B B.length e).2.1 = _
      rw [w1]
      exact n1
    have x2 : nx B B.length (nx B B.length (tkF 1000 B B.length e)) = (e + 0 + wPr.length + [(32 : Int32)].length + (dgP p).length + 0, e + 0 + wPr.length + [(32 : Int32)].length + (dgP p).length + 0 + 1, 3, 0) := by
      rw [x1]
      exact y1
    obtain ⟨P2, hP2⟩ := pr_ps (h := h) (w := w) (rt := rt) (f := f) ps U _ (fun j => if j = pn then p else P j) (pn + 1) (by omega) y2 y3 (by omega) (List.nodup_cons.mp hn).2 (fun q hq => hp q (List.mem_cons_of_mem _ hq)) (fun j hj => by
      by_cases c : j = pn
      · show (if j = pn then p else P j) ∉ ps
        rw [if_pos c]
        exact (List.nodup_cons.mp hn).1
      · show (if j = pn then p else P j) ∉ ps
        rw [if_neg c]
        exact fun z => hP j (by omega) (List.mem_cons_of_mem _ z))
    refine ⟨P2, ?_⟩
    have hk : (tkF 1000 B B.length e).2.2.1 = 1 := by rw [w1]
    have hr : ¬ isWd B wRo (tkF 1000 B B.length e) := by
      rw [w1]
      rintro ⟨-, z, -⟩
      have z : e + 0 + 5 = e + 0 + 3 := z
      omega
    have hw : isWd B wPr (tkF 1000 B B.length e) := by
      rw [w1]
      exact ⟨rfl, rfl, w4⟩
    have hm : pmE B B.length P pn (tkF 1000 B B.length e) = none := by
      unfold pmE
      rw [x2, x1]
      rw [if_pos (by show ckN 2 97 (_, _, 2, p) = 0; unfold ckN; rw [if_pos rfl, if_pos ⟨hp2, hp97⟩]), if_pos (by exact hp p List.mem_cons_self), if_neg (by
        rintro ⟨j, j1, j2⟩
        exact hP j j1 (j2 ▸ List.mem_cons_self)), if_pos ⟨rfl, y4⟩]
    simp only [prE]
    rw [if_neg (by rw [hk]; decide), if_neg hr, if_pos hw, if_pos (by omega), hm]
    have x3 : nx B B.length (nx B B.length (nx B B.length (tkF 1000 B B.length e))) = tkF 1000 B B.length (e + 0 + wPr.length + [(32 : Int32)].length + (dgP p).length + 0 + 1) := by
      rw [x2]
      rfl
    rw [x3, x1, hlen, show pn + (ps.length + 1) = pn + 1 + ps.length by omega]
    exact hP2
/-- the rows' text from row r on -/
def rwsTl (ev : Nat → Nat → Int) (w : Nat) (Y : List Int32) : Nat → Nat → List Int32
  | 0, _ => Y
  | u + 1, r => wRo ++ ([32] ++ rwTl (ev r) w (rwsTl ev w Y u (r + 1)) w 0)
/-- the entries of the first r rows -/
def fRw (ev : Nat → Nat → Int) (w r : Nat) : am_Gr := fun a b => if a < r ∧ b < w then Int64.ofInt (ev a b) else 0
theorem pr_rows {ev : Nat → Nat → Int} {h w : Nat} {ps : List Nat} (hw : 0 < w) (hev : ∀ r c, -20 ≤ ev r c ∧ ev r c ≤ 20) (h6 : ps.length ≤ 6) (hn : ps.Nodup) (hp : ∀ p ∈ ps, p ∈ prL) : ∀ u r U e, r + u = h → u + ps.length < U → B.drop e = rwsTl ev w (psT ps) u r → e ≤ B.length → ∃ P2, prE B B.length h w U (tkF 1000 B B.length e) (fRw ev w r) r (fun _ => 0) 0 = .inr (fRw ev w h, h, P2, ps.length)
  | 0, r, U, e, hr, hU, hd, he => by
    obtain rfl : r = h := by omega
    obtain ⟨P2, h2⟩ := pr_ps (B := B) (h := r) (w := w) (rt := r) (f := fRw ev w r) ps U e (fun _ => 0) 0 (by omega) hd he (by omega) hn hp (fun j hj => absurd hj (Nat.not_lt_zero j))
    rw [Nat.zero_add] at h2
    exact ⟨P2, h2⟩
  | u + 1, r, 0, e, hr, hU, hd, he => absurd hU (Nat.not_lt_zero _)
  | u + 1, r, U + 1, e, hr, hU, hd, he => by
    obtain ⟨w1, w2, w3, w4⟩ := tk_wd (bl := []) (bs := wRo) (Y := [32] ++ rwTl (ev r) w (rwsTl ev w (psT ps) u (r + 1)) w 0) hd he (Or.inl rfl) (by decide) (by decide) rfl
    have x1 : nx B B.length (tkF 1000 B B.length e) = tkF 1000 B B.length (e + 0 + wRo.length) := by
      show tkF 1000 B B.length (tkF 1000 B B.length e).2.1 = _
      rw [w1]
      rfl
    obtain ⟨r1, ⟨e1, r2, r3, r4⟩, r5⟩ := row_ok (B := B) (ev := ev r) (w := w) (Y := rwsTl ev w (psT ps) u (r + 1)) (t0 := nx B B.length (tkF 1000 B B.length e)) (hev r) w 0 _ [32] (by omega) x1 w2 w3 (Or.inr rfl) (Or.inl (by omega))
    have hk : (tkF 1000 B B.length e).2.2.1 = 1 := by rw [w1]
    have hr1 : isWd B wRo (tkF 1000 B B.length e) := by
      rw [w1]
      exact ⟨rfl, rfl, w4⟩
    have hF : rF B B.length (fRw ev w r) r (nx B B.length (tkF 1000 B B.length e)) w = fRw ev w (r + 1) := by
      rw [rF_eq w (fun i hi => r5 i (Nat.zero_le i) hi)]
      funext a b
      unfold fRw
      by_cases c : a = r ∧ b < w
      · rw [if_pos c, if_pos (by omega), c.1]
      · rw [if_neg c]
        by_cases d : a < r ∧ b < w
        · rw [if_pos d, if_pos (by omega)]
        · rw [if_neg d, if_neg (by omega)]
    obtain ⟨P2, h2⟩ := pr_rows (h := h) (ps := ps) hw hev h6 hn hp u (r + 1) U e1 (by omega) (by omega) r3 r4
    refine ⟨P2, ?_⟩
    simp only [prE]
    rw [if_neg (by rw [hk]; decide), if_pos hr1, if_pos (by omega), r1, hF, r2]
    exact h2
/-- the whole text -/
theorem pa_text {ev : Nat → Nat → Int} {h w : Nat} {ps : List Nat} (hh : 1 ≤ h ∧ h ≤ 6) (hw : 1 ≤ w ∧ w ≤ 6) (hev : ∀ r c, -20 ≤ ev r c ∧ ev r c ≤ 20) (h6 : ps.length ≤ 6) (hn : ps.Nodup) (hp : ∀ p ∈ ps, p ∈ prL) (hB : B = wM ++ ([32] ++ (dgP h ++ ([32] ++ (dgP w ++ ([59] ++ rwsTl ev w (psT ps) h 0)))))) : ∃ P2, paE B B.length = .inr (fRw ev w h, h, P2, ps.length) ∧ paH B B.length = h ∧ paW B B.length = w := by
  have h0 : B.drop 0 = [] ++ (wM ++ ([32] ++ (dgP h ++ ([32] ++ (dgP w ++ ([59] ++ rwsTl ev w (psT ps) h 0)))))) := hB
  obtain ⟨w1, w2, w3, w4⟩ := tk_wd (bl := []) (bs := wM) h0 (Nat.zero_le _) (Or.inl rfl) (by decide) (by decide) rfl
  obtain ⟨n1, n2, n3⟩ := tk_num (bl := [32]) (u := h) w2 w3 (Or.inr rfl) (by omega) rfl
  obtain ⟨m1, m2, m3⟩ := tk_num (bl := [32]) (u := w) n2 n3 (Or.inr rfl) (by omega) rfl
  obtain ⟨y1, y2, y3, y4⟩ := tk_sy (bl := []) (x := 59) m2 m3 (Or.inl rfl) (by decide) (by decide) (by decide)
  have t0 : paT B B.length = tkF 1000 B B.length 0 := rfl
  have x1 : nx B B.length (paT B B.length) = tkF 1000 B B.length (0 + 0 + wM.length) := by
    rw [t0]
    show tkF 1000 B B.length (tkF 1000 B B.length 0).2.1 = _
    rw [w1]
    rfl
  have T0 : paT B B.length = (0 + 0, 0 + 0 + wM.length, 1, 0) := w1
  have T1 : nx B B.length (paT B B.length) = (0 + 0 + wM.length + [(32 : Int32)].length, 0 + 0 + wM.length + [(32 : Int32)].length + (dgP h).length, 2, h) := x1.trans n1
  have x2 : nx B B.length (nx B B.length (paT B B.length)) = tkF 1000 B B.length (0 + 0 + wM.length + [(32 : Int32)].length + (dgP h).length) := congrArg (fun t : am_T => tkF 1000 B B.length t.2.1) T1
  have T2 : nx B B.length (nx B B.length (paT B B.length)) = (0 + 0 + wM.length + [(32 : Int32)].length + (dgP h).length + [(32 : Int32)].length, 0 + 0 + wM.length + [(32 : Int32)].length + (dgP h).length + [(32 : Int32)].length + (dgP w).length, 2, w) := x2.trans m1
  have x3 : nx B B.length (nx B B.length (nx B B.length (paT B B.length))) = tkF 1000 B B.length (0 + 0 + wM.length + [(32 : Int32)].length + (dgP h).length + [(32 : Int32)].length + (dgP w).length) := congrArg (fun t : am_T => tkF 1000 B B.length t.2.1) T2
  have T3 : nx B B.length (nx B B.length (nx B B.length (paT B B.length))) = (0 + 0 + wM.length + [(32 : Int32)].length + (dgP h).length + [(32 : Int32)].length + (dgP w).length + 0, 0 + 0 + wM.length + [(32 : Int32)].length + (dgP h).length + [(32 : Int32)].length + (dgP w).length + 0 + 1, 3, 0) := x3.trans y1
  have x4 : nx B B.length (nx B B.length (nx B B.length (nx B B.length (paT B B.length)))) = tkF 1000 B B.length (0 + 0 + wM.length + [(32 : Int32)].length + (dgP h).length + [(32 : Int32)].length + (dgP w).length + 0 + 1) := congrArg (fun t : am_T => tkF 1000 B B.length t.2.1) T3
  have hH : paH B B.length = h := congrArg (fun t : am_T => t.2.2.2) T1
  have hW : paW B B.length = w := congrArg (fun t : am_T => t.2.2.2) T2
  have hM : mtE B B.length (paT B B.length) = none := by
    unfold mtE
    rw [T3, T2, T1, T0]
    rw [if_pos ⟨rfl, rfl, w4⟩, if_pos (by show ckN 1 6 (_, _, 2, h) = 0; unfold ckN; rw [if_pos rfl, if_pos hh]), if_pos (by show ckN 1 6 (_, _, 2, w) = 0; unfold ckN; rw [if_pos rfl, if_pos hw]), if_pos ⟨rfl, y4⟩]
  have hlen : h + ps.length < B.length := by
    have l1 : ∀ Y u r, u ≤ (rwsTl ev w Y u r).length - Y.length ∧ Y.length ≤ (rwsTl ev w Y u r).length := by
      intro Y u
      induction u with
      | zero => intro r; exact ⟨Nat.zero_le _, Nat.le_refl _⟩
      | succ u ih =>
        intro r
        obtain ⟨i1, i2⟩ := ih (r + 1)
        have l3 : ∀ Z u j, Z.length ≤ (rwTl (ev r) w Z u j).length := by
          intro Z u
          induction u with
          | zero => intro j; exact Nat.le_refl _
          | succ u ih2 =>
            intro j
            have := ih2 (j + 1)
            show _ ≤ (dgI (ev r j) ++ ([if j = w - 1 then 59 else 44] ++ rwTl (ev r) w Z u (j + 1))).length
            rw [List.length_append, List.length_append]
            omega
        have := l3 (rwsTl ev w Y u (r + 1)) w 0
        show u + 1 ≤ (wRo ++ ([32] ++ rwTl (ev r) w (rwsTl ev w Y u (r + 1)) w 0)).length - Y.length ∧ Y.length ≤ (wRo ++ ([32] ++ rwTl (ev r) w (rwsTl ev w Y u (r + 1)) w 0)).length
        rw [List.length_append, List.length_append, show wRo.length = 3 from rfl]
        omega
    have l2 : ∀ ps : List Nat, ps.length ≤ (psT ps).length := by
      intro ps
      induction ps with
      | nil => exact Nat.le_refl _
      | cons p ps ih =>
        show ps.length + 1 ≤ (wPr ++ ([32] ++ (dgP p ++ ([59] ++ psT ps)))).length
        rw [List.length_append, List.length_append, List.length_append, List.length_append, show wPr.length = 5 from rfl]
        omega
    have a1 := l1 (psT ps) h 0
    have a2 := l2 ps
    have := dr_len h0 (Nat.zero_le _)
    rw [this, List.nil_append, List.length_append, List.length_append, List.length_append, List.length_append, List.length_append, List.length_append, show wM.length = 6 from rfl]
    omega
  obtain ⟨P2, h2⟩ := pr_rows (B := B) (h := h) (w := w) (by omega) hev h6 hn hp h 0 B.length _ (by omega) hlen y2 y3
  refine ⟨P2, ?_, hH, hW⟩
  unfold paE
  rw [hM, hH, hW, x4]
  have ef : (fun _ _ => 0 : am_Gr) = fRw ev w 0 := by
    funext a b
    unfold fRw
    rw [if_neg (by omega)]
  show prE B B.length h w B.length _ _ 0 (fun _ => 0) 0 = _
  rw [ef]
  exact h2
end ROW
