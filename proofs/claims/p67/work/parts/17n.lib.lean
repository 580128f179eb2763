/-! ===== truth values, what stays the same ===== -/
def zP (p : Prop) [Decidable p] : Int32 := if p then 1 else 0
theorem zP_t {p : Prop} [Decidable p] (h : p) : zP p = 1 := if_pos h
theorem zP_f {p : Prop} [Decidable p] (h : ¬ p) : zP p = 0 := if_neg h
theorem zP_c {p q : Prop} [Decidable p] [Decidable q] (h : p ↔ q) : zP p = zP q := by
  by_cases hq : q
  · rw [zP_t hq, zP_t (h.mpr hq)]
  · rw [zP_f hq, zP_f (fun x => hq (h.mp x))]
theorem nr_zP {p : Prop} [Decidable p] : narrow .boolean (.int (zP p)) = .int (zP p) := by
  by_cases h : p
  · rw [zP_t h]; rfl
  · rw [zP_f h]; rfl
theorem ft_zP {p : Prop} [Decidable p] : fits .boolean (.int (zP p)) = true := by
  by_cases h : p
  · rw [zP_t h]; rfl
  · rw [zP_f h]; rfl
section AMZ
variable {Tx : am_Tx} {d k : Nat} {c : am_C} {pc a b : Nat} {ls : List (Option Value)} {st : List Value} {μ : am_M} {Q : am_Res → Prop}
theorem R_zif_eq {p : Prop} {dp : Decidable p} {off : Int} {tgt : Nat} (hc : c.2 pc = some (.ifCond .eq off, 3, a, b)) (ht : (pc : Int) + off = (tgt : Int)) (kt : ¬ p → am_R Tx d k c tgt ls st μ Q) (kf : p → am_R Tx d k c (pc + 3) ls st μ Q) : am_R Tx d k c pc ls (.int (zP p) :: st) μ Q :=
  R_if_eq hc ht (fun z => kt (fun h => by rw [zP_t h] at z; exact absurd z (by decide))) (fun z => if h : p then kf h else absurd (zP_f h) z)
theorem R_zif_ne {p : Prop} {dp : Decidable p} {off : Int} {tgt : Nat} (hc : c.2 pc = some (.ifCond .ne off, 3, a, b)) (ht : (pc : Int) + off = (tgt : Int)) (kt : p → am_R Tx d k c tgt ls st μ Q) (kf : ¬ p → am_R Tx d k c (pc + 3) ls st μ Q) : am_R Tx d k c pc ls (.int (zP p) :: st) μ Q :=
  R_if_ne hc ht (fun z => if h : p then kt h else absurd (zP_f h) z) (fun z => kf (fun h => by rw [zP_t h] at z; exact absurd z (by decide)))
end AMZ
/-- outside p nothing has changed -/
def smP (p : Nat → Nat → Prop) (σ σ1 : am_G) : Prop := (∀ a b, ¬ p a b → σ1.1 a b = σ.1 a b ∧ σ1.2.1 a b = σ.2.1 a b) ∧ σ1.2.2 = σ.2.2
theorem smP.refl {p : Nat → Nat → Prop} {σ : am_G} : smP p σ σ := ⟨fun _ _ _ => ⟨rfl, rfl⟩, rfl⟩
theorem smP.trans {p : Nat → Nat → Prop} {σ σ1 σ2 : am_G} (h1 : smP p σ σ1) (h2 : smP p σ1 σ2) : smP p σ σ2 :=
  ⟨fun a b h => ⟨(h2.1 a b h).1.trans (h1.1 a b h).1, (h2.1 a b h).2.trans (h1.1 a b h).2⟩, h2.2.trans h1.2⟩
theorem smP.mono {p q : Nat → Nat → Prop} {σ σ1 : am_G} (h : smP p σ σ1) (hpq : ∀ a b, p a b → q a b) : smP q σ σ1 := ⟨fun a b hq => h.1 a b (fun x => hq (hpq a b x)), h.2⟩
theorem smP.symm {p : Nat → Nat → Prop} {σ σ1 : am_G} (h : smP p σ σ1) : smP p σ1 σ := ⟨fun a b hq => ⟨(h.1 a b hq).1.symm, (h.1 a b hq).2.symm⟩, h.2.symm⟩
theorem smP.i {p : Nat → Nat → Prop} {σ σ1 : am_G} (h : smP p σ σ1) {a b : Nat} (hp : ¬ p a b) : σ1.1 a b = σ.1 a b := (h.1 a b hp).1
theorem smP.l {p : Nat → Nat → Prop} {σ σ1 : am_G} (h : smP p σ σ1) {a b : Nat} (hp : ¬ p a b) : σ1.2.1 a b = σ.2.1 a b := (h.1 a b hp).2
theorem smP.vM {p : Nat → Nat → Prop} {σ σ1 : am_G} (h : smP p σ σ1) {k hh w : Nat} {f : Nat → Nat → Int64} (hv : vM σ k hh w f) (h0 : ∀ b, ¬ p k b) (h1 : ∀ b, ¬ p (k + 1) b) : vM σ1 k hh w f :=
  ⟨⟨(h.i (h0 0)).trans hv.1.1, hv.1.2⟩, ⟨(h.i (h0 1)).trans hv.2.1.1, hv.2.1.2⟩, fun i j hi hj => (h.l (h1 _)).trans (hv.2.2 i j hi hj)⟩
/-- the places from lo on, below hi -/
def plc (lo hi : Nat) (a _b : Nat) : Prop := lo ≤ a ∧ a < hi
theorem plc_n {lo hi a b : Nat} (h : a < lo ∨ hi ≤ a) : ¬ plc lo hi a b := by
  unfold plc; omega
theorem plc_m {lo hi lo2 hi2 : Nat} (h : lo2 ≤ lo ∧ hi ≤ hi2) : ∀ a b, plc lo hi a b → plc lo2 hi2 a b := by
  unfold plc; intro a b; omega
theorem smP_sI {p : Nat → Nat → Prop} {σ : am_G} {k j : Nat} {x : Int32} (h : p k j) : smP p σ (sI σ k j x) := by
  refine ⟨fun a b hn => ⟨?_, rfl⟩, rfl⟩
  show (if a = k then if b = j then x else σ.1 a b else σ.1 a b) = _
  by_cases ha : a = k
  · subst ha
    rw [if_pos rfl]
    by_cases hb : b = j
    · subst hb; exact absurd h hn
    · rw [if_neg hb]
  · rw [if_neg ha]
theorem smP_sL {p : Nat → Nat → Prop} {σ : am_G} {k j : Nat} {x : Int64} (h : p k j) : smP p σ (sL σ k j x) := by
  refine ⟨fun a b hn => ⟨rfl, ?_⟩, rfl⟩
  show (if a = k then if b = j then x else σ.2.1 a b else σ.2.1 a b) = _
  by_cases ha : a = k
  · subst ha
    rw [if_pos rfl]
    by_cases hb : b = j
    · subst hb; exact absurd h hn
    · rw [if_neg hb]
  · rw [if_neg ha]
theorem smP_uL {p : Nat → Nat → Prop} {σ : am_G} {k i j : Nat} {x : Int64} (h : ∀ b, p (k + 1) b) : smP p σ (uL σ k i j x) := by
  unfold uL
  by_cases hij : i < 6 ∧ j < 6
  · rw [if_pos hij]; exact smP_sL (h _)
  · rw [if_neg hij]; exact smP.refl
theorem smP_setM {p : Nat → Nat → Prop} {σ : am_G} {k h w : Nat} {f : Nat → Nat → Int64} (h0 : ∀ b, p k b) (h1 : ∀ b, p (k + 1) b) : smP p σ (setM σ k h w f) := by
  refine ⟨fun a b hn => ⟨?_, ?_⟩, rfl⟩
  · by_cases ha : a = k
    · subst ha; exact absurd (h0 b) hn
    · show (if a = k then _ else _) = _
      rw [if_neg ha]
  · by_cases ha : a = k + 1
    · subst ha; exact absurd (h1 b) hn
    · show (if a = k + 1 then _ else _) = _
      rw [if_neg ha]
theorem nI_shl1 {n : Nat} (h : n ≤ 30) : (1 : Int32) <<< (nI n &&& 31) = nI (2 ^ n) := by
  have key : ∀ n, n ≤ 30 → (1 : Int32) <<< (nI n &&& 31) = nI (2 ^ n) := by decide +kernel
  exact key n h
theorem R_shl1N {Tx : am_Tx} {d k : Nat} {c : am_C} {pc a b : Nat} {ls : List (Option Value)} {st : List Value} {μ : am_M} {Q : am_Res → Prop} {y : Nat} (hc : c.2 pc = some (.ishl, 1, a, b)) (hy : y ≤ 30) (h : am_R Tx d k c (pc + 1) ls (.int (nI (2 ^ y)) :: st) μ Q) : am_R Tx d k c pc ls (.int (nI y) :: .int 1 :: st) μ Q :=
  R_ishl hc (by rw [nI_shl1 hy]; exact h)
theorem nI_m1 {x : Nat} (h : x < 2 ^ 31) : ¬ nI x = -1 := fun e => by
  have h1 := nI_toInt h
  rw [e] at h1
  have h2 : (-1 : Int32).toInt = -1 := rfl
  omega
theorem R_gIX {Tx : am_Tx} {d k : Nat} {c : am_C} {pc idx ci j kp : Nat} {x : Int32} {ls : List (Option Value)} {st : List Value} {σ : am_G} {Q : am_Res → Prop} (hc : c.2 pc = some (.getfield idx, 3, ci, j)) (hS : Sh[kp]? = some (0, ci)) (hf : fdI ci j) (hv : σ.1 kp j = x) (h : am_R Tx d k c (pc + 3) ls (.int x :: st) (mm σ) Q) : am_R Tx d k c pc ls (.ref kp :: st) (mm σ) Q :=
  R_gI hc hS hf (by rw [hv]; exact h)
theorem sI_s {σ : am_G} {k j : Nat} {x : Int32} : (sI σ k j x).1 k j = x := by
  show am_up σ.1 k j x k j = x
  unfold am_up; rw [if_pos rfl, if_pos rfl]
theorem sI_o {σ : am_G} {k j a b : Nat} {x : Int32} (h : a ≠ k ∨ b ≠ j) : (sI σ k j x).1 a b = σ.1 a b := by
  show am_up σ.1 k j x a b = _
  unfold am_up
  by_cases ha : a = k
  · rw [if_pos ha, if_neg (by omega)]
  · rw [if_neg ha]
theorem sL_s {σ : am_G} {k j : Nat} {x : Int64} : (sL σ k j x).2.1 k j = x := by
  show am_up σ.2.1 k j x k j = x
  unfold am_up; rw [if_pos rfl, if_pos rfl]
theorem sL_o {σ : am_G} {k j a b : Nat} {x : Int64} (h : a ≠ k ∨ b ≠ j) : (sL σ k j x).2.1 a b = σ.2.1 a b := by
  show am_up σ.2.1 k j x a b = _
  unfold am_up
  by_cases ha : a = k
  · rw [if_pos ha, if_neg (by omega)]
  · rw [if_neg ha]
