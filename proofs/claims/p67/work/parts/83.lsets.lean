/-! ===== sets of rows, by the law ===== -/
theorem wi_p2 {S k h : Nat} (hh : h ≤ 6) (hS : S < 2 ^ h) (hk : k < h) : wi S k < 2 ^ h := by
  have key : ∀ h : Nat, h ≤ 6 → ∀ S : Nat, S < 2 ^ h → ∀ k : Nat, k < h → wi S k < 2 ^ h := by decide +kernel
  exact key h hh S hS k hk
theorem wi_in {S k : Nat} (h : S.testBit k = true) : wi S k = S := if_pos h
theorem nb_hi : ∀ h : Nat, h ≤ 6 → ∀ s : Nat, s < 64 → (2 ^ h ≤ s → nb s h < pc s) := by decide +kernel
theorem sdf_tb : ∀ a : Nat, a < 64 → ∀ b : Nat, b < 64 → ∀ j : Nat, j < 6 → ((sdf a b).testBit j = true ↔ a.testBit j = true ∧ ¬ b.testBit j = true) := by decide +kernel
theorem sdf_lt : ∀ a : Nat, a < 64 → ∀ b : Nat, b < 64 → sdf a b < 64 := by decide +kernel
theorem tb_eq {a b : Nat} (ha : a < 64) (hb : b < 64) (h : ∀ j, j < 6 → (a.testBit j = true ↔ b.testBit j = true)) : a = b :=
  Nat.le_antisymm (sub_le (tb_sub a ha b hb (fun x hx => (h x hx).mp))) (sub_le (tb_sub b hb a ha (fun x hx => (h x hx).mpr)))
section SET
variable {f : am_Gr} {m h w : Nat}
theorem fr_0 : frB f m h w 0 = true := by
  have h1 := @rkO_le f m 0 (2 ^ w - 1) h w
  have h2 : ∀ n, nb 0 n = 0 := fun n => by induction n with | zero => rfl | succ n ih => simp [nb, ih]
  rw [h2] at h1
  show decide (rkO f m 0 (2 ^ w - 1) h w = pc 0) = true
  rw [decide_eq_true_iff]
  have : pc 0 = 0 := rfl
  omega
theorem fr_hi (hh : h ≤ 6) {s : Nat} (hs : s < 64) (h2 : 2 ^ h ≤ s) : frB f m h w s = false := by
  have h1 := @rkO_le f m s (2 ^ w - 1) h w
  have h3 := nb_hi h hh s hs h2
  show decide (rkO f m s (2 ^ w - 1) h w = pc s) = false
  rw [decide_eq_false_iff_not]
  omega
theorem cb_hi (hh : h ≤ 6) {q : Nat} : ∀ n, 2 ^ h + n ≤ 64 → cbN (frB f m h w) q (2 ^ h + n) = cbN (frB f m h w) q (2 ^ h)
  | 0, _ => rfl
  | n + 1, hn => by
    have ih := cb_hi hh (q := q) n (by omega)
    show (if frB f m h w (2 ^ h + n) = true ∧ pc (2 ^ h + n) = q then _ else _) = _
    rw [if_neg (fun z => by rw [fr_hi hh (by omega) (by omega)] at z; exact absurd z.1 (by decide))]
    exact ih
theorem cb_64 (hh : h ≤ 6) {q : Nat} : cbN (frB f m h w) q 64 = cbN (frB f m h w) q (2 ^ h) := by
  have h2 : 2 ^ h ≤ 64 := Nat.pow_le_pow_right (by decide) hh
  have := cb_hi (f := f) (m := m) (w := w) hh (q := q) (64 - 2 ^ h) (by omega)
  rwa [show 2 ^ h + (64 - 2 ^ h) = 64 by omega] at this
theorem ci_hi {A : Nat → Bool} {s : Nat} (hs : s < 2 ^ h) : ∀ n, ciN A s (h + n) = ciN A s h
  | 0 => rfl
  | n + 1 => by
    show (ciN A s (h + n) && (!s.testBit (h + n) || A (wo s (h + n)))) = _
    have : s.testBit (h + n) = false := by
      cases c : s.testBit (h + n) with
      | false => rfl
      | true => exact absurd (tb_w hs c) (by omega)
    rw [this, ci_hi hs n]
    simp
theorem ci_6 (hh : h ≤ 6) {A : Nat → Bool} {s : Nat} (hs : s < 2 ^ h) : ciB A 6 s = (!A s && ciN A s h) := by
  have := ci_hi (A := A) hs (6 - h)
  rw [show h + (6 - h) = 6 by omega] at this
  unfold ciB
  rw [this]
theorem ci_0 : ciB (frB f m h w) 6 0 = false := by
  unfold ciB
  rw [fr_0]
  rfl
theorem cc_s {s : Nat} : ccN (frB f m h w) 6 (s + 1) = if ciB (frB f m h w) 6 s = true then ccN (frB f m h w) 6 s + 1 else ccN (frB f m h w) 6 s := by
  show (if s ≠ 0 ∧ ciB (frB f m h w) 6 s = true then _ else _) = _
  by_cases c : ciB (frB f m h w) 6 s = true
  · rw [if_pos c, if_pos ⟨fun e => by subst e; rw [ci_0] at c; exact absurd c (by decide), c⟩]
  · rw [if_neg c, if_neg (fun z => c z.2)]
theorem cb_le {A : Nat → Bool} {q : Nat} : ∀ n, cbN A q n ≤ n
  | 0 => Nat.le_refl 0
  | n + 1 => by
    have := @cb_le A q n
    simp only [cbN]
    split <;> omega
theorem cc_le : ∀ n, ccN (frB f m h w) 6 n ≤ n
  | 0 => Nat.le_refl 0
  | n + 1 => by
    have := cc_le n
    rw [cc_s]
    split <;> omega
/-- a circuit with r in it -/
abbrev ciR (f : am_Gr) (m h w r s : Nat) : Prop := s.testBit r = true ∧ ciB (frB f m h w) 6 s = true
/-- the first circuit with r in it among the first a sets -/
def fsC (f : am_Gr) (m h w r a : Nat) (x : Int32) : Prop := (x = -1 ∧ ∀ s, s < a → ¬ ciR f m h w r s) ∨ ∃ s, s < a ∧ x = nI s ∧ ciR f m h w r s ∧ ∀ s', s' < s → ¬ ciR f m h w r s'
theorem fsC_0 {r : Nat} : fsC f m h w r 0 (-1) := Or.inl ⟨rfl, fun s hs => absurd hs (Nat.not_lt_zero s)⟩
theorem fsC_f {r a : Nat} {x : Int32} (hx : fsC f m h w r a x) (hn : x = -1 → ¬ ciR f m h w r a) : fsC f m h w r (a + 1) x := by
  rcases hx with ⟨e, h1⟩ | ⟨s, h1, h2⟩
  · refine Or.inl ⟨e, fun s hs => ?_⟩
    by_cases c : s = a
    · subst c; exact hn e
    · exact h1 s (by omega)
  · exact Or.inr ⟨s, by omega, h2⟩
theorem fsC_t {r a : Nat} {x : Int32} (hx : fsC f m h w r a x) (ha : a < 64) (h0 : x < 0) (hp : ciR f m h w r a) : fsC f m h w r (a + 1) (nI a) := by
  rcases hx with ⟨e, h1⟩ | ⟨s, h1, h2, -⟩
  · exact Or.inr ⟨a, by omega, rfl, hp, h1⟩
  · rw [h2] at h0
    exact absurd h0 (nI_nn (by omega))
theorem lc_n {r : Nat} : ∀ u s, (∀ s', s ≤ s' → s' < s + u → ¬ ciR f m h w r s') → lcF (frB f m h w) 6 r u s = -1
  | 0, _, _ => rfl
  | u + 1, s, hn => by
    simp only [lcF]
    rw [if_neg (fun z => hn s (Nat.le_refl s) (by omega) z)]
    exact lc_n u (s + 1) (fun p h1 h2 => hn p (by omega) (by omega))
theorem lc_s {r s0 : Nat} (hp : ciR f m h w r s0) : ∀ u s, s ≤ s0 → s0 < s + u → (∀ s', s ≤ s' → s' < s0 → ¬ ciR f m h w r s') → lcF (frB f m h w) 6 r u s = nI s0
  | 0, s, h1, h2, _ => by omega
  | u + 1, s, h1, h2, hn => by
    simp only [lcF]
    by_cases e : s = s0
    · subst e
      rw [if_pos ⟨hp.1, hp.2⟩]
    · rw [if_neg (fun z => hn s (Nat.le_refl s) (by omega) z)]
      exact lc_s hp u (s + 1) (by omega) (by omega) (fun p' h3 h4 => hn p' (by omega) h4)
theorem fsC_e {r : Nat} {x : Int32} (hx : fsC f m h w r (2 ^ h) x) : lcF (frB f m h w) 6 r (2 ^ h - 1) 1 = x := by
  have hp : 1 ≤ 2 ^ h := p2_pos
  rcases hx with ⟨rfl, h1⟩ | ⟨s, h1, rfl, h2, h3⟩
  · exact lc_n _ 1 (fun s' _ h2 => h1 s' (by omega))
  · have : s ≠ 0 := fun e => by
      subst e
      exact absurd h2.1 (by simp)
    exact lc_s h2 _ 1 (by omega) (by omega) (fun s' _ h4 => h3 s' h4)
/-! closure, extensions -/
theorem sp_lt2 {S : Nat} : ∀ r, spN f m h w S r < 2 ^ r
  | 0 => by show 0 < 1; decide
  | r + 1 => by
    have ih := sp_lt2 (S := S) r
    simp only [spN]
    have h2 : (2 : Nat) ^ (r + 1) = 2 ^ r + 2 ^ r := by rw [Nat.pow_succ]; omega
    split
    · unfold wi; split <;> omega
    · omega
theorem sp_tb {S : Nat} : ∀ n, n ≤ 6 → ∀ j, j < n → ((spN f m h w S n).testBit j = true ↔ rkO f m (wi S j) (2 ^ w - 1) h w = rkO f m S (2 ^ w - 1) h w)
  | 0, _, j, hj => absurd hj (Nat.not_lt_zero j)
  | n + 1, hn, j, hj => by
    have ih := sp_tb (S := S) n (by omega) j
    have h64 : spN f m h w S n < 64 := spN_lt n (by omega)
    have hlt : spN f m h w S n < 2 ^ n := sp_lt2 n
    simp only [spN]
    by_cases z : rkO f m (wi S n) (2 ^ w - 1) h w = rkO f m S (2 ^ w - 1) h w
    · rw [if_pos z, tb_wi h64 (by omega) (by omega)]
      by_cases y : j = n
      · subst y; exact ⟨fun _ => z, fun _ => Or.inr rfl⟩
      · rw [← ih (by omega)]
        exact ⟨fun x => x.resolve_right y, Or.inl⟩
    · rw [if_neg z]
      by_cases y : j = n
      · subst y; exact ⟨fun x => absurd x (tb_hi hlt), fun x => absurd x z⟩
      · exact ih (by omega)
/-- what the law adds to a free set -/
def mrN (f : am_Gr) (m h w S : Nat) : Nat → Nat
  | 0 => 0
  | r + 1 => if ¬ S.testBit r = true ∧ frB f m h w (wi S r) = true then wi (mrN f m h w S r) r else mrN f m h w S r
theorem mr_lt2 {S : Nat} : ∀ r, mrN f m h w S r < 2 ^ r
  | 0 => by show 0 < 1; decide
  | r + 1 => by
    have ih := mr_lt2 (S := S) r
    simp only [mrN]
    have h2 : (2 : Nat) ^ (r + 1) = 2 ^ r + 2 ^ r := by rw [Nat.pow_succ]; omega
    split
    · unfold wi; split <;> omega
    · omega
theorem mr_tb {S : Nat} : ∀ n, n ≤ 6 → ∀ j, j < n → ((mrN f m h w S n).testBit j = true ↔ ¬ S.testBit j = true ∧ frB f m h w (wi S j) = true)
  | 0, _, j, hj => absurd hj (Nat.not_lt_zero j)
  | n + 1, hn, j, hj => by
    have ih := mr_tb (S := S) n (by omega) j
    have hlt : mrN f m h w S n < 2 ^ n := mr_lt2 n
    have h64 : mrN f m h w S n < 64 := p2_64 hlt (by omega)
    simp only [mrN]
    by_cases z : ¬ S.testBit n = true ∧ frB f m h w (wi S n) = true
    · rw [if_pos z, tb_wi h64 (by omega) (by omega)]
      by_cases y : j = n
      · subst y; exact ⟨fun _ => z, fun _ => Or.inr rfl⟩
      · rw [← ih (by omega)]
        exact ⟨fun x => x.resolve_right y, Or.inl⟩
    · rw [if_neg z]
      by_cases y : j = n
      · subst y; exact ⟨fun x => absurd x (tb_hi hlt), fun x => absurd x z⟩
      · exact ih (by omega)
theorem rk_wi (hd : zdom m) (hm : m ≤ 97) (hf : fSm f h w) (hh : h ≤ 6) (hw : w ≤ 6) {S j : Nat} (hS : S < 2 ^ h) (hj : j < h) : rkO f m S (2 ^ w - 1) h w ≤ rkO f m (wi S j) (2 ^ w - 1) h w ∧ rkO f m (wi S j) (2 ^ w - 1) h w ≤ rkO f m S (2 ^ w - 1) h w + 1 := by
  have hS6 := p2_64 hS hh
  have r1 := rkO_rk (T := 2 ^ w - 1) hd hm hf hh hw hS6 (lwP2 (Nat.le_refl w))
  have r2 := rkO_rk (T := 2 ^ w - 1) hd hm hf hh hw (wi_lt hS6 (show j < 6 by omega)) (lwP2 (Nat.le_refl w))
  refine ⟨r1.mono r2 (fun x hx => ⟨hx.1, (tb_wi hS6 (by omega) (by have := hx.1; omega)).mpr (Or.inl hx.2)⟩) (fun x hx => hx), ?_⟩
  refine r1.step (r := j) r2 (fun x hx => ?_)
  rcases (tb_wi hS6 (by omega) (by have := hx.1; omega)).mp hx.2 with z | z
  · exact Or.inl ⟨hx.1, z⟩
  · exact Or.inr z
theorem ext_eq (hd : zdom m) (hm : m ≤ 97) (hf : fSm f h w) (hh : h ≤ 6) (hw : w ≤ 6) {S : Nat} (hS : S < 2 ^ h) (hfr : frB f m h w S = true) : sdf (2 ^ h - 1) (spN f m h w S h) = mrN f m h w S h := by
  have hS6 := p2_64 hS hh
  have a6 : 2 ^ h - 1 < 64 := p2_64 (lwP2 (Nat.le_refl h)) hh
  have b6 : spN f m h w S h < 64 := spN_lt h hh
  have hr : rkO f m S (2 ^ w - 1) h w = pc S := of_decide_eq_true hfr
  refine tb_eq (sdf_lt _ a6 _ b6) (p2_64 (mr_lt2 h) hh) (fun j hj => ?_)
  rw [sdf_tb _ a6 _ b6 j hj, tb_lw hh hj]
  by_cases hjh : j < h
  · rw [sp_tb h hh j hjh, mr_tb h hh j hjh]
    obtain ⟨k1, k2⟩ := rk_wi hd hm hf hh hw hS hjh
    have e : frB f m h w (wi S j) = true ↔ rkO f m (wi S j) (2 ^ w - 1) h w = pc (wi S j) := decide_eq_true_iff
    rw [e]
    by_cases c : S.testBit j = true
    · rw [wi_in c]
      exact ⟨fun z => absurd rfl z.2, fun z => absurd c z.1⟩
    · have p := pc_wi hS6 (show j < 6 by omega) c
      refine ⟨fun z => ⟨c, ?_⟩, fun z => ⟨hjh, ?_⟩⟩ <;> omega
  · exact ⟨fun z => absurd z.1 hjh, fun z => absurd (tb_w (mr_lt2 h) z) hjh⟩
theorem sub_cl (hh : h ≤ 6) {S : Nat} (hS : S < 2 ^ h) : sdf S (spN f m h w S h) = 0 := by
  have hS6 := p2_64 hS hh
  have b6 : spN f m h w S h < 64 := spN_lt h hh
  refine tb_eq (sdf_lt _ hS6 _ b6) (by decide) (fun j hj => ?_)
  rw [sdf_tb _ hS6 _ b6 j hj]
  refine ⟨fun z => ?_, fun z => absurd z (by simp)⟩
  exact absurd ((sp_tb h hh j (tb_w hS z.1)).mpr (by rw [wi_in z.1])) z.2
end SET
