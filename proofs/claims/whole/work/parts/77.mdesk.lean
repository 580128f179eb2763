/-! ===== the model's desk: its numbers tell the same desk as the class's ===== -/
/-- the longs of the model tell a desk -/
def nL (L : Nat → Int64) (h w : Nat) (f v : am_Gr) (rh : Nat) (rl : am_Gr) (pn : Nat) (I : Nat → Int32) : Prop :=
  (L 0 = (nI h).toInt64 ∧ L 1 = (nI w).toInt64 ∧ ∀ i j, i < 6 → j < 6 → L (14 + 6 * i + j) = f i j) ∧ (L 2 = (nI pn).toInt64 ∧ ∀ j, j < pn → L (50 + j) = (I (8 + j)).toInt64) ∧ ((I 4 = -1 ∧ L 3 = 0) ∨ (I 4 ≠ -1 ∧ L 3 = 1 ∧ ∀ j, j < 4 → L (4 + j) = (I (4 + j)).toInt64)) ∧ ((L 8).toInt32 = I 0 ∧ (L 9).toInt32 = I 1) ∧ ((I 2 = -1 ∧ L 10 = 0) ∨ (I 2 ≠ -1 ∧ L 10 = 1 ∧ L 11 = (I 2).toInt64 ∧ L 12 = (I 3).toInt64)) ∧ L 13 = (nI rh).toInt64 ∧ (∀ j, j < h → L (56 + j) = v 0 j) ∧ ∀ k j, k < rh → j < h → L (62 + 6 * k + j) = rl k j
/-- what holds of every desk -/
def okV (h w : Nat) (f v : am_Gr) (rh : Nat) (rl : am_Gr) (pn : Nat) (I : Nat → Int32) : Prop :=
  ((1 ≤ h ∧ h ≤ 6) ∧ 1 ≤ w ∧ w ≤ 6) ∧ fSm f h w ∧ (∀ i j, i < 6 → j < 6 → (h ≤ i ∨ w ≤ j) → f i j = 0) ∧ (pn ≤ 6 ∧ ∃ P, prP pn I P) ∧ ((∀ j, j < 4 → I (4 + j) = -1) ∨ ∃ g, g < pn ∧ I 4 = nI g) ∧ ((I 2 = -1 ∧ I 3 = -1) ∨ ∃ S T, I 2 = nI S ∧ I 3 = nI T ∧ S < 2 ^ h ∧ T < 2 ^ w ∧ pc S = pc T) ∧ rh ≤ 6 ∧ (∀ j, j < h → v 0 j = (v 0 j).toInt32.toInt64) ∧ ∀ k, k < rh → ∃ j, j < h ∧ rl k j ≠ 0
def nV (σ : am_G) (h w : Nat) (f v : am_Gr) (rh : Nat) (rl : am_Gr) (pn : Nat) (I : Nat → Int32) : Prop :=
  nL (σ.2.1 121) h w f v rh rl pn I ∧ okV h w f v rh rl pn I ∧ σ.2.2 = 121 ∧ σ.1 120 4 = 0
theorem nL_cg {L L' : Nat → Int64} {h w rh pn : Nat} {f v rl : am_Gr} {I : Nat → Int32} (hk : okV h w f v rh rl pn I) (hL : nL L h w f v rh rl pn I) (e : ∀ k, k < 98 → L' k = L k) : nL L' h w f v rh rl pn I := by
  obtain ⟨⟨⟨h1, h6⟩, w1, w6⟩, -, -, ⟨p6, -⟩, -, -, r6, -⟩ := hk
  obtain ⟨⟨a1, a2, a3⟩, ⟨b1, b2⟩, c1, ⟨d1, d2⟩, e1, f1, g1, i1⟩ := hL
  refine ⟨⟨(e 0 (by omega)).trans a1, (e 1 (by omega)).trans a2, fun i j hi hj => (e _ (by omega)).trans (a3 i j hi hj)⟩, ⟨(e 2 (by omega)).trans b1, fun j hj => (e _ (by omega)).trans (b2 j hj)⟩, ?_, ⟨by rw [e 8 (by omega)]; exact d1, by rw [e 9 (by omega)]; exact d2⟩, ?_, (e 13 (by omega)).trans f1, fun j hj => (e _ (by omega)).trans (g1 j hj), fun k j hk hj => (e _ (by omega)).trans (i1 k j hk hj)⟩
  · rcases c1 with ⟨x, y⟩ | ⟨x, y, z⟩
    · exact Or.inl ⟨x, (e 3 (by omega)).trans y⟩
    · exact Or.inr ⟨x, (e 3 (by omega)).trans y, fun j hj => (e _ (by omega)).trans (z j hj)⟩
  · rcases e1 with ⟨x, y⟩ | ⟨x, y, z, t⟩
    · exact Or.inl ⟨x, (e 10 (by omega)).trans y⟩
    · exact Or.inr ⟨x, (e 10 (by omega)).trans y, (e 11 (by omega)).trans z, (e 12 (by omega)).trans t⟩
theorem nV.fr {P : Nat → Nat → Prop} {σ σ1 : am_G} (q : smP P σ σ1) {h w rh pn : Nat} {f v rl : am_Gr} {I : Nat → Int32} (hn : nV σ h w f v rh rl pn I) (h1 : ∀ b, ¬ P 121 b) (h4 : ¬ P 120 4) : nV σ1 h w f v rh rl pn I :=
  ⟨nL_cg hn.2.1 hn.1 (fun k _ => (q.1 121 k (h1 k)).2), hn.2.1, q.2.trans hn.2.2.1, ((q.1 120 4 h4).1).trans hn.2.2.2⟩
theorem nV.toV {σ : am_G} {h w rh pn : Nat} {f v rl : am_Gr} {I : Nat → Int32} (hn : nV σ h w f v rh rl pn I) : mV σ h w f := by
  obtain ⟨⟨⟨a1, a2, a3⟩, -⟩, ⟨hk, -⟩, e, e4⟩ := hn
  refine ⟨hk, Or.inl e, Or.inl ⟨e4, ?_⟩⟩
  rw [e]
  exact ⟨a1, a2, a3⟩
theorem nV.toT {σ : am_G} {h w rh pn : Nat} {f v rl : am_Gr} {I : Nat → Int32} (hn : nV σ h w f v rh rl pn I) : mV (sI σ 120 4 1) w h (fun i j => f j i) := by
  obtain ⟨⟨⟨a1, a2, a3⟩, -⟩, ⟨hk, -⟩, e, e4⟩ := hn
  refine ⟨⟨hk.2, hk.1⟩, Or.inl e, Or.inr ⟨sI_s, ?_⟩⟩
  show mC (sI σ 120 4 1) σ.2.2 h w f
  rw [e]
  exact ⟨a1, a2, a3⟩
/-- what the model's answers touch -/
def pQ (a b : Nat) : Prop := (a = 120 ∧ (b = 0 ∨ b = 6 ∨ b = 7 ∨ b = 9)) ∨ a = 123 ∨ a = 124 ∨ a = 125
theorem pQ_W : ∀ a b, pW a b → pQ a b := fun a b h => by unfold pW at h; unfold pQ; omega
theorem pQ_K : ∀ a b, pK a b → pQ a b := fun a b h => by unfold pK at h; unfold pQ; omega
theorem pQ_L : ∀ a b, pL a b → pQ a b := fun a b h => by unfold pL pW pK at h; unfold pQ; omega
theorem isRow_1 {σ : am_G} {h w : Nat} {f : am_Gr} {n : Nat} (hv : mV σ h w f) (hn : n < h) : am_Call am_TX 2 0 c_M_isRow [.ref 120, .int (nI n)] (mm σ) (am_Ok (some (.int 1)) (fun σ1 => σ1 = σ)) := by
  have z := sp_isRow (x := nI n) hv
  have hh := hv.1.1.2
  rw [zP_t ((in_row (by omega)).mpr ⟨n, hn, rfl⟩)] at z; exact z
theorem isRow_0 {σ : am_G} {h w : Nat} {f : am_Gr} {x : Int32} (hv : mV σ h w f) (hb : ¬ (0 ≤ x ∧ x < nI h)) : am_Call am_TX 2 0 c_M_isRow [.ref 120, .int x] (mm σ) (am_Ok (some (.int 0)) (fun σ1 => σ1 = σ)) := by
  have z := sp_isRow (x := x) hv
  rw [zP_f hb] at z; exact z
theorem isColumn_1 {σ : am_G} {h w : Nat} {f : am_Gr} {n : Nat} (hv : mV σ h w f) (hn : n < w) : am_Call am_TX 2 0 c_M_isColumn [.ref 120, .int (nI n)] (mm σ) (am_Ok (some (.int 1)) (fun σ1 => σ1 = σ)) := by
  have z := sp_isColumn (x := nI n) hv
  have hh := hv.1.2.2
  rw [zP_t ((in_row (by omega)).mpr ⟨n, hn, rfl⟩)] at z; exact z
theorem isColumn_0 {σ : am_G} {h w : Nat} {f : am_Gr} {x : Int32} (hv : mV σ h w f) (hb : ¬ (0 ≤ x ∧ x < nI w)) : am_Call am_TX 2 0 c_M_isColumn [.ref 120, .int x] (mm σ) (am_Ok (some (.int 0)) (fun σ1 => σ1 = σ)) := by
  have z := sp_isColumn (x := x) hv
  rw [zP_f hb] at z; exact z
theorem areRows_1 {σ : am_G} {h w : Nat} {f : am_Gr} {x : Int32} (hv : mV σ h w f) (hb : x &&& (nI (2 ^ h - 1) ^^^ (-1)) = 0) : am_Call am_TX 3 0 c_M_areRows [.ref 120, .int x] (mm σ) (am_Ok (some (.int 1)) (fun σ1 => σ1 = σ)) := by
  have z := sp_areRows (x := x) hv
  rw [zP_t hb] at z; exact z
theorem areRows_0 {σ : am_G} {h w : Nat} {f : am_Gr} {x : Int32} (hv : mV σ h w f) (hb : ¬ x &&& (nI (2 ^ h - 1) ^^^ (-1)) = 0) : am_Call am_TX 3 0 c_M_areRows [.ref 120, .int x] (mm σ) (am_Ok (some (.int 0)) (fun σ1 => σ1 = σ)) := by
  have z := sp_areRows (x := x) hv
  rw [zP_f hb] at z; exact z
theorem areColumns_1 {σ : am_G} {h w : Nat} {f : am_Gr} {x : Int32} (hv : mV σ h w f) (hb : x &&& (nI (2 ^ w - 1) ^^^ (-1)) = 0) : am_Call am_TX 3 0 c_M_areColumns [.ref 120, .int x] (mm σ) (am_Ok (some (.int 1)) (fun σ1 => σ1 = σ)) := by
  have z := sp_areColumns (x := x) hv
  rw [zP_t hb] at z; exact z
theorem areColumns_0 {σ : am_G} {h w : Nat} {f : am_Gr} {x : Int32} (hv : mV σ h w f) (hb : ¬ x &&& (nI (2 ^ w - 1) ^^^ (-1)) = 0) : am_Call am_TX 3 0 c_M_areColumns [.ref 120, .int x] (mm σ) (am_Ok (some (.int 0)) (fun σ1 => σ1 = σ)) := by
  have z := sp_areColumns (x := x) hv
  rw [zP_f hb] at z; exact z
theorem isMod_1 {σ : am_G} {m : Nat} (hmd : m ∈ mdL) : am_Call am_TX 1 0 c_M_isModulus [.int (nI m)] (mm σ) (am_Ok (some (.int 1)) (fun σ1 => σ1 = σ)) :=
  sp_isModulus (b := true) ⟨fun _ => ⟨m, hmd, rfl⟩, fun _ => rfl⟩
theorem isMod_0 {σ : am_G} {x : Int32} (hb : ∀ n, n ∈ mdL → x ≠ nI n) : am_Call am_TX 1 0 c_M_isModulus [.int x] (mm σ) (am_Ok (some (.int 0)) (fun σ1 => σ1 = σ)) :=
  sp_isModulus (b := false) ⟨fun z => absurd z (by decide), fun ⟨n, a, e⟩ => absurd e (hb n a)⟩
def mdB (x : Int32) : Bool := mdL.any (fun n => x == nI n)
theorem mdB_iff {x : Int32} : mdB x = true ↔ ∃ n, n ∈ mdL ∧ x = nI n := by
  unfold mdB
  rw [List.any_eq_true]
  refine ⟨fun ⟨n, a, e⟩ => ⟨n, a, ?_⟩, fun ⟨n, a, e⟩ => ⟨n, a, ?_⟩⟩
  · exact eq_of_beq e
  · rw [e]; exact beq_self_eq_true _
theorem isMod_u {σ : am_G} {x : Int32} : am_Call am_TX 1 0 c_M_isModulus [.int x] (mm σ) (am_Ok (some (.int (zP (mdB x = true)))) (fun σ1 => σ1 = σ)) :=
  sp_isModulus mdB_iff
theorem in_c {x a b : Int32} : (a.toInt64 ≤ x.toInt64 ∧ x.toInt64 ≤ b.toInt64) ↔ (a ≤ x ∧ x ≤ b) := by
  rw [l_le, l_le, Int32.toInt_toInt64, Int32.toInt_toInt64, Int32.toInt_toInt64, Int32.le_iff_toInt_le, Int32.le_iff_toInt_le]
theorem in_1 {σ : am_G} {x a b : Int32} {lo hi : Int64} (h : a ≤ x ∧ x ≤ b) (e1 : a.toInt64 = lo) (e2 : b.toInt64 = hi) : am_Call am_TX 0 0 c_M_in [.long x.toInt64, .long lo, .long hi] (mm σ) (am_Ok (some (.int 1)) (fun σ1 => σ1 = σ)) := by
  subst e1; subst e2
  have z := sp_in (σ := σ) (v := x.toInt64) (lo := a.toInt64) (hi := b.toInt64)
  rw [zP_t (in_c.mpr h)] at z; exact z
theorem in_0 {σ : am_G} {x a b : Int32} {lo hi : Int64} (h : ¬ (a ≤ x ∧ x ≤ b)) (e1 : a.toInt64 = lo) (e2 : b.toInt64 = hi) : am_Call am_TX 0 0 c_M_in [.long x.toInt64, .long lo, .long hi] (mm σ) (am_Ok (some (.int 0)) (fun σ1 => σ1 = σ)) := by
  subst e1; subst e2
  have z := sp_in (σ := σ) (v := x.toInt64) (lo := a.toInt64) (hi := b.toInt64)
  rw [zP_f (fun y => h (in_c.mp y))] at z; exact z
theorem pass2_0u {σ : am_G} {P : Prop} {_d : Decidable P} : am_Call am_TX 1 0 c_M_passes2 [.ref 120, .int 0, .int (zP P)] (mm σ) (am_Ok (some (.int 0)) (fun σ1 => σ1 = sI σ 120 0 1)) := by
  have z := sp_passes2 (σ := σ) (P0 := False) (P1 := P) (_d0 := instDecidableFalse) (_d1 := _d)
  rw [zP_f (fun x : False ∧ P => x.1), if_neg (fun x : False => x)] at z; exact z
theorem pass3_0u {σ : am_G} {P P2 : Prop} {_d : Decidable P} {_d2 : Decidable P2} : am_Call am_TX 0 0 c_M_passes3 [.ref 120, .int 0, .int (zP P), .int (zP P2)] (mm σ) (am_Ok (some (.int 0)) (fun σ1 => σ1 = sI σ 120 0 1)) := by
  have z := sp_passes3 (σ := σ) (P0 := False) (P1 := P) (P2 := P2) (_d0 := instDecidableFalse) (_d1 := _d) (_d2 := _d2)
  rw [zP_f (fun x : False ∧ P ∧ P2 => x.1)] at z
  unfold thI at z
  rw [if_neg (fun x : False => x)] at z; exact z
theorem pass2_11 {σ : am_G} : am_Call am_TX 1 0 c_M_passes2 [.ref 120, .int 1, .int 1] (mm σ) (am_Ok (some (.int 1)) (fun σ1 => σ1 = sI σ 120 0 0)) := by
  have z := sp_passes2 (σ := σ) (P0 := True) (P1 := True) (_d0 := instDecidableTrue) (_d1 := instDecidableTrue)
  rw [zP_t (show True ∧ True from ⟨trivial, trivial⟩)] at z; exact z
theorem pass2_10 {σ : am_G} : am_Call am_TX 1 0 c_M_passes2 [.ref 120, .int 1, .int 0] (mm σ) (am_Ok (some (.int 0)) (fun σ1 => σ1 = sI σ 120 0 2)) := by
  have z := sp_passes2 (σ := σ) (P0 := True) (P1 := False) (_d0 := instDecidableTrue) (_d1 := instDecidableFalse)
  rw [zP_f (fun x : True ∧ False => x.2)] at z; exact z
theorem pass2_01 {σ : am_G} : am_Call am_TX 1 0 c_M_passes2 [.ref 120, .int 0, .int 1] (mm σ) (am_Ok (some (.int 0)) (fun σ1 => σ1 = sI σ 120 0 1)) := by
  have z := sp_passes2 (σ := σ) (P0 := False) (P1 := True) (_d0 := instDecidableFalse) (_d1 := instDecidableTrue)
  rw [zP_f (fun x : False ∧ True => x.1)] at z; exact z
theorem pass2_00 {σ : am_G} : am_Call am_TX 1 0 c_M_passes2 [.ref 120, .int 0, .int 0] (mm σ) (am_Ok (some (.int 0)) (fun σ1 => σ1 = sI σ 120 0 1)) := by
  have z := sp_passes2 (σ := σ) (P0 := False) (P1 := False) (_d0 := instDecidableFalse) (_d1 := instDecidableFalse)
  rw [zP_f (fun x : False ∧ False => x.1)] at z; exact z
theorem pass3_000 {σ : am_G} : am_Call am_TX 0 0 c_M_passes3 [.ref 120, .int 0, .int 0, .int 0] (mm σ) (am_Ok (some (.int 0)) (fun σ1 => σ1 = sI σ 120 0 1)) := by
  have z := sp_passes3 (σ := σ) (P0 := False) (P1 := False) (P2 := False) (_d0 := instDecidableFalse) (_d1 := instDecidableFalse) (_d2 := instDecidableFalse)
  rw [zP_f (fun x : False ∧ False ∧ False => x.1)] at z; exact z
theorem pass3_001 {σ : am_G} : am_Call am_TX 0 0 c_M_passes3 [.ref 120, .int 0, .int 0, .int 1] (mm σ) (am_Ok (some (.int 0)) (fun σ1 => σ1 = sI σ 120 0 1)) := by
  have z := sp_passes3 (σ := σ) (P0 := False) (P1 := False) (P2 := True) (_d0 := instDecidableFalse) (_d1 := instDecidableFalse) (_d2 := instDecidableTrue)
  rw [zP_f (fun x : False ∧ False ∧ True => x.1)] at z; exact z
theorem pass3_010 {σ : am_G} : am_Call am_TX 0 0 c_M_passes3 [.ref 120, .int 0, .int 1, .int 0] (mm σ) (am_Ok (some (.int 0)) (fun σ1 => σ1 = sI σ 120 0 1)) := by
  have z := sp_passes3 (σ := σ) (P0 := False) (P1 := True) (P2 := False) (_d0 := instDecidableFalse) (_d1 := instDecidableTrue) (_d2 := instDecidableFalse)
  rw [zP_f (fun x : False ∧ True ∧ False => x.1)] at z; exact z
theorem pass3_011 {σ : am_G} : am_Call am_TX 0 0 c_M_passes3 [.ref 120, .int 0, .int 1, .int 1] (mm σ) (am_Ok (some (.int 0)) (fun σ1 => σ1 = sI σ 120 0 1)) := by
  have z := sp_passes3 (σ := σ) (P0 := False) (P1 := True) (P2 := True) (_d0 := instDecidableFalse) (_d1 := instDecidableTrue) (_d2 := instDecidableTrue)
  rw [zP_f (fun x : False ∧ True ∧ True => x.1)] at z; exact z
theorem pass3_100 {σ : am_G} : am_Call am_TX 0 0 c_M_passes3 [.ref 120, .int 1, .int 0, .int 0] (mm σ) (am_Ok (some (.int 0)) (fun σ1 => σ1 = sI σ 120 0 2)) := by
  have z := sp_passes3 (σ := σ) (P0 := True) (P1 := False) (P2 := False) (_d0 := instDecidableTrue) (_d1 := instDecidableFalse) (_d2 := instDecidableFalse)
  rw [zP_f (fun x : True ∧ False ∧ False => x.2.1)] at z; exact z
theorem pass3_101 {σ : am_G} : am_Call am_TX 0 0 c_M_passes3 [.ref 120, .int 1, .int 0, .int 1] (mm σ) (am_Ok (some (.int 0)) (fun σ1 => σ1 = sI σ 120 0 2)) := by
  have z := sp_passes3 (σ := σ) (P0 := True) (P1 := False) (P2 := True) (_d0 := instDecidableTrue) (_d1 := instDecidableFalse) (_d2 := instDecidableTrue)
  rw [zP_f (fun x : True ∧ False ∧ True => x.2.1)] at z; exact z
theorem pass3_110 {σ : am_G} : am_Call am_TX 0 0 c_M_passes3 [.ref 120, .int 1, .int 1, .int 0] (mm σ) (am_Ok (some (.int 0)) (fun σ1 => σ1 = sI σ 120 0 3)) := by
  have z := sp_passes3 (σ := σ) (P0 := True) (P1 := True) (P2 := False) (_d0 := instDecidableTrue) (_d1 := instDecidableTrue) (_d2 := instDecidableFalse)
  rw [zP_f (fun x : True ∧ True ∧ False => x.2.2)] at z; exact z
theorem pass3_111 {σ : am_G} : am_Call am_TX 0 0 c_M_passes3 [.ref 120, .int 1, .int 1, .int 1] (mm σ) (am_Ok (some (.int 1)) (fun σ1 => σ1 = sI σ 120 0 0)) := by
  have z := sp_passes3 (σ := σ) (P0 := True) (P1 := True) (P2 := True) (_d0 := instDecidableTrue) (_d1 := instDecidableTrue) (_d2 := instDecidableTrue)
  rw [zP_t (show True ∧ True ∧ True from ⟨trivial, trivial, trivial⟩)] at z; exact z
theorem mget_n {σ : am_G} {h w rh pn : Nat} {f v rl : am_Gr} {I : Nat → Int32} (hn : nV σ h w f v rh rl pn I) {j : Nat} {x : Int64} (hj : j < 98) (e : σ.2.1 121 j = x) : am_Call am_TX 0 0 c_M_get [.ref 120, .int (nI j)] (mm σ) (am_Ok (some (.int x.toInt32)) (fun σ1 => σ1 = σ)) := by
  subst e
  exact sp_get hn.2.2.1 (Or.inl rfl) hj
theorem mget_x {σ : am_G} {h w rh pn : Nat} {f v rl : am_Gr} {I : Nat → Int32} (hn : nV σ h w f v rh rl pn I) {j : Nat} {x : Int32} (hj : j < 98) (e : σ.2.1 121 j = x.toInt64) : am_Call am_TX 0 0 c_M_get [.ref 120, .int (nI j)] (mm σ) (am_Ok (some (.int x)) (fun σ1 => σ1 = σ)) := by
  have z := mget_n hn hj e
  rw [i3264] at z; exact z
theorem mget_y {σ : am_G} {h w rh pn : Nat} {f v rl : am_Gr} {I : Nat → Int32} (hn : nV σ h w f v rh rl pn I) {j : Nat} {x : Int32} (hj : j < 98) (e : (σ.2.1 121 j).toInt32 = x) : am_Call am_TX 0 0 c_M_get [.ref 120, .int (nI j)] (mm σ) (am_Ok (some (.int x)) (fun σ1 => σ1 = σ)) := by
  subst e
  exact mget_n hn hj rfl
theorem mget_10 {σ : am_G} {h w rh pn : Nat} {f v rl : am_Gr} {I : Nat → Int32} (hn : nV σ h w f v rh rl pn I) : am_Call am_TX 0 0 c_M_get [.ref 120, .int 10] (mm σ) (am_Ok (some (.int (zP (¬ I 2 = -1)))) (fun σ1 => σ1 = σ)) := by
  obtain ⟨⟨-, -, -, -, e1, -⟩, -⟩ := id hn
  rcases e1 with ⟨x, y⟩ | ⟨x, y, -⟩
  · rw [zP_f (fun z => z x)]; exact mget_y hn (j := 10) (by omega) (by rw [y]; rfl)
  · rw [zP_t x]; exact mget_y hn (j := 10) (by omega) (by rw [y]; rfl)
theorem mget_3 {σ : am_G} {h w rh pn : Nat} {f v rl : am_Gr} {I : Nat → Int32} (hn : nV σ h w f v rh rl pn I) : am_Call am_TX 0 0 c_M_get [.ref 120, .int 3] (mm σ) (am_Ok (some (.int (zP (¬ I 4 = -1)))) (fun σ1 => σ1 = σ)) := by
  obtain ⟨⟨-, -, e1, -⟩, -⟩ := id hn
  rcases e1 with ⟨x, y⟩ | ⟨x, y, -⟩
  · rw [zP_f (fun z => z x)]; exact mget_y hn (j := 3) (by omega) (by rw [y]; rfl)
  · rw [zP_t x]; exact mget_y hn (j := 3) (by omega) (by rw [y]; rfl)
set_option maxRecDepth 100000 in
set_option maxHeartbeats 4000000 in
theorem arePart_1 {σ : am_G} {h w rh pn : Nat} {f v rl : am_Gr} {I : Nat → Int32} {S T : Nat} (hn : nV σ h w f v rh rl pn I) (hS : S < 2 ^ h) (hT : T < 2 ^ w) (hc : pc S = pc T) : am_Call am_TX 4 0 c_M_arePart [.ref 120, .int (nI S), .int (nI T)] (mm σ) (am_Ok (some (.int 1)) (fun σ1 => σ1 = σ)) := by
  have hv := hn.toV
  have hs := hn.2.1.2.1
  have hh1 := hv.1.1.1
  have hh6 := hv.1.1.2
  have hw1 := hv.1.2.1
  have hw6 := hv.1.2.2
  have hp6 := hn.2.1.2.2.2.1.1
  have hr6 := hn.2.1.2.2.2.2.2.2.1
  have hs7 := lw_lt hh6
  have ws7 := lw_lt hw6
  have hS6 := p2_64 hS hh6
  have hT6 := p2_64 hT hw6
  have hpS := @pc_le S
  have hpT := @pc_le T
  refine ⟨mf_M_arePart, Nat.le_of_ble_eq_true rfl, ?_⟩
  refine R_aload_n rfl rfl ?_
  refine R_iload_n rfl rfl ?_
  refine R_cV (as := [.int (nI S)]) rfl rfl iv_M_areRows (areRows_1 hv (msk_ok hh6 hS)) (by omega) rfl rfl rfl (by decide) rfl rfl (Nat.le_of_ble_eq_true rfl) (fun _ q => ?_)
  obtain rfl := q.symm
  refine R_if_eq rfl rfl (fun z => absurd z (by decide)) (fun _ => ?_)
  refine R_aload_n rfl rfl ?_
  refine R_iload_n rfl rfl ?_
  refine R_cV (as := [.int (nI T)]) rfl rfl iv_M_areColumns (areColumns_1 hv (msk_ok hw6 hT)) (by omega) rfl rfl rfl (by decide) rfl rfl (Nat.le_of_ble_eq_true rfl) (fun _ q => ?_)
  obtain rfl := q.symm
  refine R_if_eq rfl rfl (fun z => absurd z (by decide)) (fun _ => ?_)
  refine R_iload_n rfl rfl ?_
  refine R_cS (as := [.int (nI S)]) rfl rfl iv_M_bits (sp_bits (s := S) (by first | assumption | exact lw_lt (by omega) | exact wi_lt (by first | assumption | omega) (by omega) | exact wo_lt (by first | assumption | omega) (by omega) | omega)) (by omega) rfl rfl rfl rfl (Nat.le_of_ble_eq_true rfl) (fun _ q => ?_)
  obtain rfl := q.symm
  refine R_iload_n rfl rfl ?_
  refine R_cS (as := [.int (nI T)]) rfl rfl iv_M_bits (sp_bits (s := T) (by first | assumption | exact lw_lt (by omega) | exact wi_lt (by first | assumption | omega) (by omega) | exact wo_lt (by first | assumption | omega) (by omega) | omega)) (by omega) rfl rfl rfl rfl (Nat.le_of_ble_eq_true rfl) (fun _ q => ?_)
  obtain rfl := q.symm
  refine R_nicmp_ne (x := (pc S)) (y := (pc T)) rfl rfl (by omega) (by omega) (fun z => by omega) (fun g1 => ?_)
  refine R_iconst (v := 1) rfl rfl ?_
  refine R_goto rfl rfl ?_
  exact T_zreturn rfl rfl rfl (am_oki rfl rfl)
set_option maxRecDepth 100000 in
set_option maxHeartbeats 4000000 in
theorem arePart_z {σ : am_G} {h w rh pn : Nat} {f v rl : am_Gr} {I : Nat → Int32} {S T : Nat} (hn : nV σ h w f v rh rl pn I) (hS : S < 2 ^ h) (hT : T < 2 ^ w) (hc : ¬ pc S = pc T) : am_Call am_TX 4 0 c_M_arePart [.ref 120, .int (nI S), .int (nI T)] (mm σ) (am_Ok (some (.int 0)) (fun σ1 => σ1 = σ)) := by
  have hv := hn.toV
  have hs := hn.2.1.2.1
  have hh1 := hv.1.1.1
  have hh6 := hv.1.1.2
  have hw1 := hv.1.2.1
  have hw6 := hv.1.2.2
  have hp6 := hn.2.1.2.2.2.1.1
  have hr6 := hn.2.1.2.2.2.2.2.2.1
  have hs7 := lw_lt hh6
  have ws7 := lw_lt hw6
  have hS6 := p2_64 hS hh6
  have hT6 := p2_64 hT hw6
  have hpS := @pc_le S
  have hpT := @pc_le T
  refine ⟨mf_M_arePart, Nat.le_of_ble_eq_true rfl, ?_⟩
  refine R_aload_n rfl rfl ?_
  refine R_iload_n rfl rfl ?_
  refine R_cV (as := [.int (nI S)]) rfl rfl iv_M_areRows (areRows_1 hv (msk_ok hh6 hS)) (by omega) rfl rfl rfl (by decide) rfl rfl (Nat.le_of_ble_eq_true rfl) (fun _ q => ?_)
  obtain rfl := q.symm
  refine R_if_eq rfl rfl (fun z => absurd z (by decide)) (fun _ => ?_)
  refine R_aload_n rfl rfl ?_
  refine R_iload_n rfl rfl ?_
  refine R_cV (as := [.int (nI T)]) rfl rfl iv_M_areColumns (areColumns_1 hv (msk_ok hw6 hT)) (by omega) rfl rfl rfl (by decide) rfl rfl (Nat.le_of_ble_eq_true rfl) (fun _ q => ?_)
  obtain rfl := q.symm
  refine R_if_eq rfl rfl (fun z => absurd z (by decide)) (fun _ => ?_)
  refine R_iload_n rfl rfl ?_
  refine R_cS (as := [.int (nI S)]) rfl rfl iv_M_bits (sp_bits (s := S) (by first | assumption | exact lw_lt (by omega) | exact wi_lt (by first | assumption | omega) (by omega) | exact wo_lt (by first | assumption | omega) (by omega) | omega)) (by omega) rfl rfl rfl rfl (Nat.le_of_ble_eq_true rfl) (fun _ q => ?_)
  obtain rfl := q.symm
  refine R_iload_n rfl rfl ?_
  refine R_cS (as := [.int (nI T)]) rfl rfl iv_M_bits (sp_bits (s := T) (by first | assumption | exact lw_lt (by omega) | exact wi_lt (by first | assumption | omega) (by omega) | exact wo_lt (by first | assumption | omega) (by omega) | omega)) (by omega) rfl rfl rfl rfl (Nat.le_of_ble_eq_true rfl) (fun _ q => ?_)
  obtain rfl := q.symm
  refine R_nicmp_ne (x := (pc S)) (y := (pc T)) rfl rfl (by omega) (by omega) (fun g1 => ?_) (fun z => by omega)
  refine R_iconst (v := 0) rfl rfl ?_
  exact T_zreturn rfl rfl rfl (am_oki rfl rfl)
set_option maxRecDepth 100000 in
set_option maxHeartbeats 4000000 in
theorem arePart_x {σ : am_G} {h w rh pn : Nat} {f v rl : am_Gr} {I : Nat → Int32} {x T_ : Int32} (hn : nV σ h w f v rh rl pn I) (hb : ¬ x &&& (nI (2 ^ h - 1) ^^^ (-1)) = 0) : am_Call am_TX 4 0 c_M_arePart [.ref 120, .int x, .int T_] (mm σ) (am_Ok (some (.int 0)) (fun σ1 => σ1 = σ)) := by
  have hv := hn.toV
  have hs := hn.2.1.2.1
  have hh1 := hv.1.1.1
  have hh6 := hv.1.1.2
  have hw1 := hv.1.2.1
  have hw6 := hv.1.2.2
  have hp6 := hn.2.1.2.2.2.1.1
  have hr6 := hn.2.1.2.2.2.2.2.2.1
  have hs7 := lw_lt hh6
  have ws7 := lw_lt hw6
  refine ⟨mf_M_arePart, Nat.le_of_ble_eq_true rfl, ?_⟩
  refine R_aload_n rfl rfl ?_
  refine R_iload_n rfl rfl ?_
  refine R_cV (as := [.int x]) rfl rfl iv_M_areRows (areRows_0 hv hb) (by omega) rfl rfl rfl (by decide) rfl rfl (Nat.le_of_ble_eq_true rfl) (fun _ q => ?_)
  obtain rfl := q.symm
  refine R_if_eq rfl rfl (fun _ => ?_) (fun z => absurd z (by decide))
  refine R_iconst (v := 0) rfl rfl ?_
  exact T_zreturn rfl rfl rfl (am_oki rfl rfl)
set_option maxRecDepth 100000 in
set_option maxHeartbeats 4000000 in
theorem arePart_y {σ : am_G} {h w rh pn : Nat} {f v rl : am_Gr} {I : Nat → Int32} {S x : Int32} (hn : nV σ h w f v rh rl pn I) (hs_ : S &&& (nI (2 ^ h - 1) ^^^ (-1)) = 0) (hb : ¬ x &&& (nI (2 ^ w - 1) ^^^ (-1)) = 0) : am_Call am_TX 4 0 c_M_arePart [.ref 120, .int S, .int x] (mm σ) (am_Ok (some (.int 0)) (fun σ1 => σ1 = σ)) := by
  have hv := hn.toV
  have hs := hn.2.1.2.1
  have hh1 := hv.1.1.1
  have hh6 := hv.1.1.2
  have hw1 := hv.1.2.1
  have hw6 := hv.1.2.2
  have hp6 := hn.2.1.2.2.2.1.1
  have hr6 := hn.2.1.2.2.2.2.2.2.1
  have hs7 := lw_lt hh6
  have ws7 := lw_lt hw6
  refine ⟨mf_M_arePart, Nat.le_of_ble_eq_true rfl, ?_⟩
  refine R_aload_n rfl rfl ?_
  refine R_iload_n rfl rfl ?_
  refine R_cV (as := [.int S]) rfl rfl iv_M_areRows (areRows_1 hv hs_) (by omega) rfl rfl rfl (by decide) rfl rfl (Nat.le_of_ble_eq_true rfl) (fun _ q => ?_)
  obtain rfl := q.symm
  refine R_if_eq rfl rfl (fun z => absurd z (by decide)) (fun _ => ?_)
  refine R_aload_n rfl rfl ?_
  refine R_iload_n rfl rfl ?_
  refine R_cV (as := [.int x]) rfl rfl iv_M_areColumns (areColumns_0 hv hb) (by omega) rfl rfl rfl (by decide) rfl rfl (Nat.le_of_ble_eq_true rfl) (fun _ q => ?_)
  obtain rfl := q.symm
  refine R_if_eq rfl rfl (fun _ => ?_) (fun z => absurd z (by decide))
  refine R_iconst (v := 0) rfl rfl ?_
  exact T_zreturn rfl rfl rfl (am_oki rfl rfl)
set_option maxRecDepth 100000 in
set_option maxHeartbeats 4000000 in
theorem isPlace_1 {σ : am_G} {h w rh pn : Nat} {f v rl : am_Gr} {I : Nat → Int32} {k : Nat} (hn : nV σ h w f v rh rl pn I) (hk : k < pn) : am_Call am_TX 1 0 c_M_isPlace [.ref 120, .int (nI k)] (mm σ) (am_Ok (some (.int 1)) (fun σ1 => σ1 = σ)) := by
  have hv := hn.toV
  have hs := hn.2.1.2.1
  have hh1 := hv.1.1.1
  have hh6 := hv.1.1.2
  have hw1 := hv.1.2.1
  have hw6 := hv.1.2.2
  have hp6 := hn.2.1.2.2.2.1.1
  have hr6 := hn.2.1.2.2.2.2.2.2.1
  have hs7 := lw_lt hh6
  have ws7 := lw_lt hw6
  refine ⟨mf_M_isPlace, Nat.le_of_ble_eq_true rfl, ?_⟩
  refine R_iload_n rfl rfl ?_
  refine R_i2l rfl ?_
  refine R_lconst (v := 0) rfl rfl ?_
  refine R_aload_n rfl rfl ?_
  refine R_iconst (v := 2) rfl rfl ?_
  refine R_cV (as := [.int 2]) rfl rfl iv_M_get (mget_x hn (j := 2) (by omega) hn.1.2.1.1) (by omega) rfl rfl rfl (by decide) rfl rfl (Nat.le_of_ble_eq_true rfl) (fun _ q => ?_)
  obtain rfl := q.symm
  refine R_iconst (v := 1) rfl rfl ?_
  refine R_isub rfl ?_
  refine R_i2l rfl ?_
  refine R_cS (as := [.long ((nI k).toInt64), .long 0, .long (((nI pn) - 1).toInt64)]) rfl rfl iv_M_in ((by have z := sp_in (σ := σ) (v := (nI k).toInt64) (lo := 0) (hi := (nI pn - 1).toInt64); rw [zP_t ((in_lt (by omega)).mpr ((in_row (by omega)).mpr ⟨k, hk, rfl⟩))] at z; exact z)) (by omega) rfl rfl rfl rfl (Nat.le_of_ble_eq_true rfl) (fun _ q => ?_)
  obtain rfl := q.symm
  exact T_zreturn rfl rfl rfl (am_oki rfl rfl)
set_option maxRecDepth 100000 in
set_option maxHeartbeats 4000000 in
theorem isPlace_0 {σ : am_G} {h w rh pn : Nat} {f v rl : am_Gr} {I : Nat → Int32} {x : Int32} (hn : nV σ h w f v rh rl pn I) (hb : ¬ (0 ≤ x ∧ x < nI pn)) : am_Call am_TX 1 0 c_M_isPlace [.ref 120, .int x] (mm σ) (am_Ok (some (.int 0)) (fun σ1 => σ1 = σ)) := by
  have hv := hn.toV
  have hs := hn.2.1.2.1
  have hh1 := hv.1.1.1
  have hh6 := hv.1.1.2
  have hw1 := hv.1.2.1
  have hw6 := hv.1.2.2
  have hp6 := hn.2.1.2.2.2.1.1
  have hr6 := hn.2.1.2.2.2.2.2.2.1
  have hs7 := lw_lt hh6
  have ws7 := lw_lt hw6
  refine ⟨mf_M_isPlace, Nat.le_of_ble_eq_true rfl, ?_⟩
  refine R_iload_n rfl rfl ?_
  refine R_i2l rfl ?_
  refine R_lconst (v := 0) rfl rfl ?_
  refine R_aload_n rfl rfl ?_
  refine R_iconst (v := 2) rfl rfl ?_
  refine R_cV (as := [.int 2]) rfl rfl iv_M_get (mget_x hn (j := 2) (by omega) hn.1.2.1.1) (by omega) rfl rfl rfl (by decide) rfl rfl (Nat.le_of_ble_eq_true rfl) (fun _ q => ?_)
  obtain rfl := q.symm
  refine R_iconst (v := 1) rfl rfl ?_
  refine R_isub rfl ?_
  refine R_i2l rfl ?_
  refine R_cS (as := [.long x.toInt64, .long 0, .long (((nI pn) - 1).toInt64)]) rfl rfl iv_M_in ((by have z := sp_in (σ := σ) (v := x.toInt64) (lo := 0) (hi := (nI pn - 1).toInt64); rw [zP_f (fun y => hb ((in_lt (by omega)).mp y))] at z; exact z)) (by omega) rfl rfl rfl rfl (Nat.le_of_ble_eq_true rfl) (fun _ q => ?_)
  obtain rfl := q.symm
  exact T_zreturn rfl rfl rfl (am_oki rfl rfl)
set_option maxRecDepth 100000 in
set_option maxHeartbeats 4000000 in
theorem isRel_1 {σ : am_G} {h w rh pn : Nat} {f v rl : am_Gr} {I : Nat → Int32} {k : Nat} (hn : nV σ h w f v rh rl pn I) (hk : k < rh) : am_Call am_TX 1 0 c_M_isRelation [.ref 120, .int (nI k)] (mm σ) (am_Ok (some (.int 1)) (fun σ1 => σ1 = σ)) := by
  have hv := hn.toV
  have hs := hn.2.1.2.1
  have hh1 := hv.1.1.1
  have hh6 := hv.1.1.2
  have hw1 := hv.1.2.1
  have hw6 := hv.1.2.2
  have hp6 := hn.2.1.2.2.2.1.1
  have hr6 := hn.2.1.2.2.2.2.2.2.1
  have hs7 := lw_lt hh6
  have ws7 := lw_lt hw6
  refine ⟨mf_M_isRelation, Nat.le_of_ble_eq_true rfl, ?_⟩
  refine R_iload_n rfl rfl ?_
  refine R_i2l rfl ?_
  refine R_lconst (v := 0) rfl rfl ?_
  refine R_aload_n rfl rfl ?_
  refine R_bipush (v := 13) rfl (by decide) ?_
  refine R_cV (as := [.int 13]) rfl rfl iv_M_get (mget_x hn (j := 13) (by omega) hn.1.2.2.2.2.2.1) (by omega) rfl rfl rfl (by decide) rfl rfl (Nat.le_of_ble_eq_true rfl) (fun _ q => ?_)
  obtain rfl := q.symm
  refine R_iconst (v := 1) rfl rfl ?_
  refine R_isub rfl ?_
  refine R_i2l rfl ?_
  refine R_cS (as := [.long ((nI k).toInt64), .long 0, .long (((nI rh) - 1).toInt64)]) rfl rfl iv_M_in ((by have z := sp_in (σ := σ) (v := (nI k).toInt64) (lo := 0) (hi := (nI rh - 1).toInt64); rw [zP_t ((in_lt (by omega)).mpr ((in_row (by omega)).mpr ⟨k, hk, rfl⟩))] at z; exact z)) (by omega) rfl rfl rfl rfl (Nat.le_of_ble_eq_true rfl) (fun _ q => ?_)
  obtain rfl := q.symm
  exact T_zreturn rfl rfl rfl (am_oki rfl rfl)
set_option maxRecDepth 100000 in
set_option maxHeartbeats 4000000 in
theorem isRel_0 {σ : am_G} {h w rh pn : Nat} {f v rl : am_Gr} {I : Nat → Int32} {x : Int32} (hn : nV σ h w f v rh rl pn I) (hb : ¬ (0 ≤ x ∧ x < nI rh)) : am_Call am_TX 1 0 c_M_isRelation [.ref 120, .int x] (mm σ) (am_Ok (some (.int 0)) (fun σ1 => σ1 = σ)) := by
  have hv := hn.toV
  have hs := hn.2.1.2.1
  have hh1 := hv.1.1.1
  have hh6 := hv.1.1.2
  have hw1 := hv.1.2.1
  have hw6 := hv.1.2.2
  have hp6 := hn.2.1.2.2.2.1.1
  have hr6 := hn.2.1.2.2.2.2.2.2.1
  have hs7 := lw_lt hh6
  have ws7 := lw_lt hw6
  refine ⟨mf_M_isRelation, Nat.le_of_ble_eq_true rfl, ?_⟩
  refine R_iload_n rfl rfl ?_
  refine R_i2l rfl ?_
  refine R_lconst (v := 0) rfl rfl ?_
  refine R_aload_n rfl rfl ?_
  refine R_bipush (v := 13) rfl (by decide) ?_
  refine R_cV (as := [.int 13]) rfl rfl iv_M_get (mget_x hn (j := 13) (by omega) hn.1.2.2.2.2.2.1) (by omega) rfl rfl rfl (by decide) rfl rfl (Nat.le_of_ble_eq_true rfl) (fun _ q => ?_)
  obtain rfl := q.symm
  refine R_iconst (v := 1) rfl rfl ?_
  refine R_isub rfl ?_
  refine R_i2l rfl ?_
  refine R_cS (as := [.long x.toInt64, .long 0, .long (((nI rh) - 1).toInt64)]) rfl rfl iv_M_in ((by have z := sp_in (σ := σ) (v := x.toInt64) (lo := 0) (hi := (nI rh - 1).toInt64); rw [zP_f (fun y => hb ((in_lt (by omega)).mp y))] at z; exact z)) (by omega) rfl rfl rfl rfl (Nat.le_of_ble_eq_true rfl) (fun _ q => ?_)
  obtain rfl := q.symm
  exact T_zreturn rfl rfl rfl (am_oki rfl rfl)
