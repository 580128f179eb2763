/-! ===== the desk as it is made ===== -/
def lb_I : List (Nat × Nat × Int32) := [(113, 3, (-1)), (113, 2, (-1)), (116, 1, 1), (116, 0, 0), (114, 1, 1), (114, 0, 1), (112, 3, (-1)), (112, 2, (-1)), (112, 1, (-1)), (112, 0, (-1)), (110, 1, 1), (110, 0, 1), (103, 3, (-1)), (103, 2, (-1)), (106, 1, 1), (106, 0, 0), (104, 1, 1), (104, 0, 1), (102, 3, (-1)), (102, 2, (-1)), (102, 1, (-1)), (102, 0, (-1)), (100, 1, 1), (100, 0, 1), (93, 3, (-1)), (93, 2, (-1)), (96, 1, 1), (96, 0, 0), (94, 1, 1), (94, 0, 1), (92, 3, (-1)), (92, 2, (-1)), (92, 1, (-1)), (92, 0, (-1)), (90, 1, 1), (90, 0, 1), (83, 3, (-1)), (83, 2, (-1)), (86, 1, 1), (86, 0, 0), (84, 1, 1), (84, 0, 1), (82, 3, (-1)), (82, 2, (-1)), (82, 1, (-1)), (82, 0, (-1)), (80, 1, 1), (80, 0, 1), (73, 3, (-1)), (73, 2, (-1)), (76, 1, 1), (76, 0, 0), (74, 1, 1), (74, 0, 1), (72, 3, (-1)), (72, 2, (-1)), (72, 1, (-1)), (72, 0, (-1)), (70, 1, 1), (70, 0, 1), (63, 3, (-1)), (63, 2, (-1)), (66, 1, 1), (66, 0, 0), (64, 1, 1), (64, 0, 1), (62, 3, (-1)), (62, 2, (-1)), (62, 1, (-1)), (62, 0, (-1)), (60, 1, 1), (60, 0, 1), (53, 3, (-1)), (53, 2, (-1)), (56, 1, 1), (56, 0, 0), (54, 1, 1), (54, 0, 1), (52, 3, (-1)), (52, 2, (-1)), (52, 1, (-1)), (52, 0, (-1)), (50, 1, 1), (50, 0, 1), (43, 3, (-1)), (43, 2, (-1)), (46, 1, 1), (46, 0, 0), (44, 1, 1), (44, 0, 1), (42, 3, (-1)), (42, 2, (-1)), (42, 1, (-1)), (42, 0, (-1)), (40, 1, 1), (40, 0, 1), (36, 3, (-1)), (36, 2, (-1)), (36, 1, (-1)), (36, 0, (-1)), (30, 3, (-1)), (30, 2, (-1)), (33, 1, 1), (33, 0, 0), (31, 1, 1), (31, 0, 1), (29, 3, (-1)), (29, 2, (-1)), (29, 1, (-1)), (29, 0, (-1)), (27, 1, 1), (27, 0, 1), (21, 1, 1), (21, 0, 1), (19, 1, 1), (19, 0, 1), (17, 1, 1), (17, 0, 1), (13, 2, (-1)), (7, 3, (-1)), (7, 2, (-1)), (10, 1, 1), (10, 0, 0), (8, 1, 1), (8, 0, 1), (6, 3, (-1)), (6, 2, (-1)), (6, 1, (-1)), (6, 0, (-1)), (4, 1, 1), (4, 0, 1)]
def lb_P : List (Nat × Nat × Nat) := [(0, 11, 119), (0, 10, 109), (109, 6, 118), (109, 2, 113), (113, 1, 116), (116, 2, 117), (113, 0, 114), (114, 2, 115), (109, 1, 112), (109, 0, 110), (110, 2, 111), (0, 9, 99), (99, 6, 108), (99, 2, 103), (103, 1, 106), (106, 2, 107), (103, 0, 104), (104, 2, 105), (99, 1, 102), (99, 0, 100), (100, 2, 101), (0, 8, 37), (38, 5, 89), (89, 6, 98), (89, 2, 93), (93, 1, 96), (96, 2, 97), (93, 0, 94), (94, 2, 95), (89, 1, 92), (89, 0, 90), (90, 2, 91), (38, 4, 79), (79, 6, 88), (79, 2, 83), (83, 1, 86), (86, 2, 87), (83, 0, 84), (84, 2, 85), (79, 1, 82), (79, 0, 80), (80, 2, 81), (38, 3, 69), (69, 6, 78), (69, 2, 73), (73, 1, 76), (76, 2, 77), (73, 0, 74), (74, 2, 75), (69, 1, 72), (69, 0, 70), (70, 2, 71), (38, 2, 59), (59, 6, 68), (59, 2, 63), (63, 1, 66), (66, 2, 67), (63, 0, 64), (64, 2, 65), (59, 1, 62), (59, 0, 60), (60, 2, 61), (38, 1, 49), (49, 6, 58), (49, 2, 53), (53, 1, 56), (56, 2, 57), (53, 0, 54), (54, 2, 55), (49, 1, 52), (49, 0, 50), (50, 2, 51), (38, 0, 39), (39, 6, 48), (39, 2, 43), (43, 1, 46), (46, 2, 47), (43, 0, 44), (44, 2, 45), (39, 1, 42), (39, 0, 40), (40, 2, 41), (37, 2, 38), (0, 7, 36), (0, 6, 26), (26, 6, 35), (26, 2, 30), (30, 1, 33), (33, 2, 34), (30, 0, 31), (31, 2, 32), (26, 1, 29), (26, 0, 27), (27, 2, 28), (0, 5, 24), (24, 1, 25), (24, 0, 16), (0, 4, 16), (16, 3, 23), (16, 2, 21), (21, 2, 22), (16, 1, 19), (19, 2, 20), (16, 0, 17), (17, 2, 18), (0, 3, 14), (14, 1, 15), (0, 2, 13), (13, 4, 3), (13, 3, 1), (0, 1, 3), (3, 6, 12), (3, 2, 7), (7, 1, 10), (10, 2, 11), (7, 0, 8), (8, 2, 9), (3, 1, 6), (3, 0, 4), (4, 2, 5), (0, 0, 1), (1, 1, 2)]
def lb_z : am_G := (giI (fun _ => 0) 0 lb_I, giL [], 0)
def lb_s (xs : Nat → Int32) (N : Int32) : am_G := (giI xs N lb_I, giL [], 0)
theorem giI_any {xs : Nat → Int32} {N : Int32} {a b : Nat} (h : a < 3000) (I : List (Nat × Nat × Int32)) : giI xs N I a b = giI (fun _ => 0) 0 I a b := by
  induction I with
  | nil =>
    show (if a = 3000 then xs b else if a = 3001 then N else 0) = (if a = 3000 then (0 : Int32) else if a = 3001 then 0 else 0)
    rw [if_neg (by omega), if_neg (by omega), if_neg (by omega), if_neg (by omega)]
  | cons q I ih =>
    show am_up (giI xs N I) q.1 q.2.1 q.2.2 a b = am_up (giI (fun _ => 0) 0 I) q.1 q.2.1 q.2.2 a b
    unfold am_up
    rw [ih]
theorem giI_hi {xs : Nat → Int32} {N : Int32} {a b : Nat} {I : List (Nat × Nat × Int32)} (h : ∀ q ∈ I, q.1 ≠ a) : giI xs N I a b = giI xs N [] a b := by
  induction I with
  | nil => rfl
  | cons q I ih =>
    show am_up (giI xs N I) q.1 q.2.1 q.2.2 a b = _
    unfold am_up
    rw [if_neg (show ¬ a = q.1 from fun e => h q List.mem_cons_self e.symm)]
    exact ih fun q hq => h q (List.mem_cons_of_mem _ hq)
theorem iI_lt : ∀ q ∈ lb_I, q.1 < 120 := by decide +kernel
theorem giP_A {F : Nat → Nat → Option Nat} {a b x : Nat} : ∀ P : List (Nat × Nat × Nat), (∀ q ∈ P, F q.1 q.2.1 = some q.2.2) → giP P a b = some x → F a b = some x := by
  intro P
  induction P with
  | nil => intro _ hx; cases hx
  | cons q P ih =>
    intro h hx
    have hx2 : (if a = q.1 then (if b = q.2.1 then some q.2.2 else giP P a b) else giP P a b) = some x := hx
    have ih2 := ih fun q hq => h q (List.mem_cons_of_mem _ hq)
    by_cases ha : a = q.1
    · rw [if_pos ha] at hx2
      by_cases hb : b = q.2.1
      · rw [if_pos hb] at hx2
        rw [ha, hb, ← hx2]
        exact h q List.mem_cons_self
      · rw [if_neg hb] at hx2
        exact ih2 hx2
    · rw [if_neg ha] at hx2
      exact ih2 hx2
theorem giP_B {q : Nat × Nat × Nat} : ∀ P : List (Nat × Nat × Nat), q ∈ P → giP P q.1 q.2.1 ≠ none := by
  intro P
  induction P with
  | nil => intro hq; cases hq
  | cons p P ih =>
    intro hq
    show (if q.1 = p.1 then (if q.2.1 = p.2.1 then some p.2.2 else giP P q.1 q.2.1) else giP P q.1 q.2.1) ≠ none
    rcases List.mem_cons.mp hq with h | h
    · subst h
      rw [if_pos rfl, if_pos rfl]
      exact fun e => by cases e
    · have ih2 := ih h
      by_cases ha : q.1 = p.1
      · rw [if_pos ha]
        by_cases hb : q.2.1 = p.2.1
        · rw [if_pos hb]
          exact fun e => by cases e
        · rw [if_neg hb]
          exact ih2
      · rw [if_neg ha]
        exact ih2
theorem lb_c1 : ∀ q ∈ lb_P, am_P0 q.1 q.2.1 = some q.2.2 := by decide +kernel
theorem lb_c2 : ∀ a, a < 120 → ∀ q ∈ am_PT.getD a [], ∃ z ∈ lb_P, z.1 = a ∧ z.2.1 = q.1 := by decide +kernel
theorem lb_c4 : am_PT.length ≤ 120 := by decide +kernel
theorem lb_key {a b y : Nat} (h : am_P0 a b = some y) : ∃ z ∈ lb_P, z.1 = a ∧ z.2.1 = b := by
  unfold am_P0 at h
  obtain ⟨q, hq, -⟩ := Option.map_eq_some_iff.mp h
  have hm := List.mem_of_find?_eq_some hq
  have hp := List.find?_some hq
  rcases Nat.lt_or_ge a 120 with ha | ha
  · obtain ⟨z, hz, z1, z2⟩ := lb_c2 a ha q hm
    exact ⟨z, hz, z1, z2.trans (Nat.eq_of_beq_eq_true hp)⟩
  · rw [List.getD_eq_getElem?_getD, List.getElem?_eq_none (Nat.le_trans lb_c4 ha)] at hm
    cases hm
theorem giP_eq : giP lb_P = am_P0 := by
  funext a b
  cases h : am_P0 a b with
  | none =>
    cases h2 : giP lb_P a b with
    | none => rfl
    | some x =>
      have h3 := giP_A lb_P lb_c1 h2
      rw [h] at h3
      cases h3
  | some y =>
    obtain ⟨z, hz, h4, h5⟩ := lb_key h
    subst h4
    subst h5
    cases h2 : giP lb_P z.1 z.2.1 with
    | none => exact absurd h2 (giP_B lb_P hz)
    | some x =>
      have h3 := giP_A lb_P lb_c1 h2
      rw [h] at h3
      exact h3.symm
/-- no own places yet -/
def ρz : am_Y := ([], am_P0)
theorem ρz_l : yl ρz = 120 := rfl
theorem ρz_ok : yOk ρz := by
  intro a b x h
  have h0 : am_P0 a b = some x := h
  obtain ⟨z, hz, h4, h5⟩ := lb_key h0
  have h1 := lb_c1 z hz
  rw [h4, h5, h0] at h1
  cases h1
  have key : ∀ q ∈ lb_P, q.2.2 < 120 := by decide +kernel
  exact key z hz
theorem mG_ml {xs : Nat → Int32} {N : Int32} : mG xs N 120 lb_I [] lb_P = ml (lb_s xs N) ρz := by
  have e : Sh.take 120 = Sh ++ ρz.1 := by
    rw [List.take_of_length_le (by rw [Sh_len]; exact Nat.le_refl _)]
    exact (List.append_nil _).symm
  have e2 : am_Pl ρz = am_P0 := by
    funext a b
    show (if a < 120 then am_P0 a b else am_P0 a b) = am_P0 a b
    split <;> rfl
  unfold mG ml lb_s
  rw [e, giP_eq, e2]
theorem s0_g {xs : Nat → Int32} {N : Int32} : (lb_s xs N).1 = giI xs N lb_I := by
  unfold lb_s
  dsimp only
theorem s0_xs {xs : Nat → Int32} {N : Int32} : (lb_s xs N).1 3000 = xs := by
  funext b
  rw [s0_g, giI_hi (I := lb_I) (a := 3000) (fun q hq => by have := iI_lt q hq; omega)]
  show (if (3000 : Nat) = 3000 then xs b else if (3000 : Nat) = 3001 then N else 0) = xs b
  rw [if_pos rfl]
theorem s0_n {xs : Nat → Int32} {N : Int32} : (lb_s xs N).1 3001 0 = N := by
  rw [s0_g, giI_hi (I := lb_I) (a := 3001) (fun q hq => by have := iI_lt q hq; omega)]
  show (if (3001 : Nat) = 3000 then xs 0 else if (3001 : Nat) = 3001 then N else 0) = N
  rw [if_neg (by decide), if_pos rfl]
theorem s0_sm {xs : Nat → Int32} {N : Int32} : smP (fun a _ => 3000 ≤ a) lb_z (lb_s xs N) := ⟨fun a b h => ⟨giI_any (Nat.not_le.mp h) lb_I, rfl⟩, rfl⟩
/-- the desk of the start -/
def lb_J : Nat → Int32 := fun j => if j < 2 then 0 else if j < 8 then -1 else 0
def lb_D : am_Sn := (1, 1, fun _ _ => 0, fun _ _ => 0, 0, fun _ _ => 0, 0, lb_J)
def lb_k : Dk := (lb_D, 0, fun _ => lb_D, none, none, 0, [], [], 0, -1)
theorem sz_M {k h w : Nat} (hh : lb_z.1 k 0 = nI h) (hw : lb_z.1 k 1 = nI w) (h6 : h ≤ 6) (w6 : w ≤ 6) : vM lb_z k h w (fun _ _ => 0) := ⟨⟨hh, h6⟩, ⟨hw, w6⟩, fun i j _ _ => rfl⟩
theorem sz_ints : ∀ j, j < 4 → lb_z.1 29 j = -1 := by decide +kernel
theorem sz_ints2 : ∀ j, j < 6 → lb_z.1 35 j = 0 := by decide +kernel
theorem sz_S : cS lb_z 26 lb_D := by
  refine ⟨sz_M (by decide +kernel) (by decide +kernel) (by decide) (by decide), sz_M (by decide +kernel) (by decide +kernel) (by decide) (by decide), sz_M (by decide +kernel) (by decide +kernel) (by decide) (by decide), ⟨?_, by decide⟩, ?_, ?_, ?_, ?_, ?_, ?_⟩
  · show lb_z.1 26 3 = nI 0
    decide +kernel
  · show lb_z.1 26 4 = 0
    decide +kernel
  · show lb_z.1 26 5 = 0
    decide +kernel
  · show lb_z.1 30 2 = -1
    decide +kernel
  · show lb_z.1 30 3 = -1
    decide +kernel
  · intro j hj
    show lb_z.1 29 j = lb_J (4 + j)
    rw [sz_ints j hj]
    match j, hj with
    | 0, _ => rfl
    | 1, _ => rfl
    | 2, _ => rfl
    | 3, _ => rfl
    | n + 4, h => omega
  · intro j hj
    show lb_z.1 35 j = lb_J (8 + j)
    rw [sz_ints2 j hj]
    unfold lb_J
    rw [if_neg (by omega), if_neg (by omega)]
theorem TC_z : TC lb_z lb_k := by
  refine ⟨sz_S, ⟨0, by decide, ?_, ?_, by decide, fun i h => absurd h (Nat.not_lt_zero _)⟩, ⟨?_, ?_⟩, ⟨rfl, ?_, by decide, fun i x e => ?_⟩, ⟨?_, by decide, fun i x e => ?_⟩, ?_, ?_⟩
  · show lb_z.1 37 1 = nI 0
    decide +kernel
  · show lb_z.1 37 0 = nI 0
    decide +kernel
  · show lb_z.1 119 0 = 0
    decide +kernel
  · show lb_z.1 119 1 = 0
    decide +kernel
  · show lb_z.1 1 0 = nI 0
    decide +kernel
  · simp [lb_k] at e
  · show lb_z.1 14 0 = nI 0
    decide +kernel
  · simp [lb_k] at e
  · show lb_z.1 13 1 = 0
    decide +kernel
  · show lb_z.1 13 2 = -1
    decide +kernel
theorem TC_0 {xs : Nat → Int32} {N : Int32} : TC (lb_s xs N) lb_k := TC_z.fr s0_sm (fun a b h1 (h2 : 3000 ≤ a) => by omega)
theorem gk_0 : gOk 0 [] [] [] := ⟨by decide, fun q h => absurd h List.not_mem_nil, fun q h => absurd h List.not_mem_nil, fun q h => absurd h List.not_mem_nil⟩
theorem gk_1 : gOk 1 [] [] [] := gOk.s gk_0 (sh := (0, 10)) rfl
theorem lb_ok : gOk 120 lb_I [] lb_P := ⟨by decide, iI_lt, fun q h => absurd h List.not_mem_nil, by decide +kernel⟩
/-- a desk made out of nothing -/
theorem nd_begin {c : am_C} {d k pc i0 i1 a b mid n : Nat} {ls : List (Option Value)} {xs : Nat → Int32} {N : Int32} {Q : am_Res → Prop} (h0 : c.2 pc = some (.new i0, 3, 10, 0)) (h1 : c.2 (pc + 3) = some (.dup, 1, a, b)) (h2 : c.2 (pc + 3 + 1) = some (.invokespecial i1, 3, mid, n)) (h3 : c_D_init.1 = am_sig mid) (h4 : n = 0) (hls : okO 0 ls) (hl1 : okO 1 ls) (hd : 5 ≤ d) (h : am_R am_TX d k c (pc + 3 + 1 + 3) ls [.ref 0] (ml (lb_s xs N) ρz) Q) : am_R am_TX d (1 + (119 + k)) c pc ls [] (mG xs N 0 [] [] []) Q := by
  subst h4
  refine G_new (k := 119 + k) (ci := 10) h0 (by decide) rfl gk_0 (gV_of hls okL_n) ?_
  refine R_dup h1 rfl ?_
  refine G_init (as := []) (st := [.ref 0]) h2 h3 iv_D_init (ini_D gk_1) (by omega) rfl rfl rfl rfl rfl rfl (Nat.le_of_ble_eq_true rfl) gk_1 lb_ok (by decide) (gV_of hl1 (okL_r (by decide) okL_n)) ?_
  show am_R am_TX d k c (pc + 3 + 1 + 3) ls [.ref 0] (mG xs N 120 lb_I [] lb_P) Q
  rw [mG_ml]
  exact h
