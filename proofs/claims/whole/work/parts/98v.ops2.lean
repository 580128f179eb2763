/-! ===== the tie of the other calls ===== -/
theorem am_ThP.mono {E : String} {P P2 : am_G → Prop} (h : ∀ σ, P σ → P2 σ) : ∀ r, am_ThP E P r → am_ThP E P2 r := fun _ ⟨σ, h1, h2⟩ => ⟨σ, h1, h σ h2⟩
theorem ix_lt2 {x : Int32} {h : Nat} (hx : 0 ≤ x ∧ x < nI h) : ∃ r, r < h ∧ x = nI r := by
  obtain ⟨r, hr, rfl⟩ := nI_of (Int32.not_lt.mpr hx.1)
  refine ⟨r, ?_, rfl⟩
  rcases Nat.lt_or_ge r h with q | q
  · exact q
  · exact absurd hx.2 (nI_nlt q hr)
theorem sL_out {σ : am_G} {x : Int64} : (sL σ 132 0 x).2.1 132 0 = x := by
  show am_up σ.2.1 132 0 x 132 0 = x
  simp [am_up]
theorem pQ_0 : pQ 120 0 := Or.inl ⟨rfl, Or.inl rfl⟩
/-- one call of the law that throws nothing: the class's, then the model's -/
def OpD (cD cM : am_C) (σ : am_G) : Prop :=
  ∃ b : Int32, am_Call am_TX 9 0 cD [.ref 0] (mm σ) (am_Ok (some (.int b)) (fun σ1 => smP pLw σ σ1 ∧ ∃ d2 : Dk, TC σ1 d2 ∧ am_Call am_TX 18 0 cM [.ref 120] (mm σ1) (am_Ok (some (.int b)) (fun σ2 => smP pMo σ1 σ2 ∧ TM σ2 d2))))
/-- truncate: no answer -/
def OpT (a : Int32) (σ : am_G) : Prop :=
  ∃ k : Int32, am_Call am_TX 9 1 c_L_truncate [.ref 0, .int a] (mm σ) (am_Ok (some (.int k)) (fun σ1 => smP pLw σ σ1 ∧ ∃ d2 : Dk, TC σ1 d2 ∧ am_Call am_TX 18 0 c_M_truncate [.ref 120, .int a] (mm σ1) (am_Ok none (fun σ2 => smP pMo σ1 σ2 ∧ TM σ2 d2 ∧ σ2.1 120 0 = k))))
section OPC2
variable {β : Type} {V : β → Value} {g : β → Int64} {b : β} {cL cM cD : am_C} {aL aM : List Value} {σ : am_G} {k y : Int32} {d1 d2 : Nat}
theorem ansI2 {d : Dk} (T : TC σ d) (M : TM σ d) (hL : am_Call am_TX 9 0 cL aL (mm σ) (am_Ok (some (.int 0)) (fun σ2 => ∃ σ1, smP (plc 17 26) σ σ1 ∧ σ2 = sL σ1 132 0 (g b))))
    (hM : ∀ σ1, TM σ1 d → am_Call am_TX d2 0 cM aM (mm σ1) (am_Ok (some (V b)) (fun σ2 => smP pQ σ1 σ2 ∧ σ2.1 120 0 = 0))) (hd : d2 ≤ 18) : OpC V g cL aL cM aM σ := by
  refine ⟨0, (hL.room (Nat.le_refl _) (Nat.zero_le _)).mono (am_Ok.mono ?_)⟩
  rintro _ ⟨σ1, q, rfl⟩
  have q2 : smP pLw σ (sL σ1 132 0 (g b)) := sL_lw (lw_of (by decide) q)
  have M2 := M.lw q2
  refine ⟨q2, b, d, (T.q q).out, fun _ => ?_, ((hM _ M2).room hd (Nat.le_refl _)).mono (am_Ok.mono fun σ2 h => ⟨h.1.mono pQ_mo, M2.q h.1, h.2⟩)⟩
  show am_up σ1.2.1 132 0 (g b) 132 0 = g b
  simp [am_up]
theorem ansX2 {d : Dk} (T : TC σ d) (M : TM σ d) (hL : am_Call am_TX 9 1 cL aL (mm σ) (am_Ok (some (.int k)) (fun σ1 => smP (plc 17 26) σ σ1)))
    (hM : ∀ σ1, TM σ1 d → am_Call am_TX d2 0 cM aM (mm σ1) (am_Ok (some (V b)) (fun σ2 => smP pQ σ1 σ2 ∧ σ2.1 120 0 = k))) (hk : k ≠ 0) (hd : d2 ≤ 18) : OpC V g cL aL cM aM σ := by
  refine ⟨k, hL.mono (am_Ok.mono ?_)⟩
  intro σ1 q
  have q2 : smP pLw σ σ1 := lw_of (by decide) q
  have M2 := M.lw q2
  exact ⟨q2, b, d, T.q q, fun h => absurd h hk, ((hM _ M2).room hd (Nat.le_refl _)).mono (am_Ok.mono fun σ2 h => ⟨h.1.mono pQ_mo, M2.q h.1, h.2⟩)⟩
theorem dirA {d : Dk} (T : TC σ d) (M : TM σ d) (hL : am_Call am_TX d1 0 cD [.ref 0] (mm σ) (am_Ok (some (.int y)) (fun σ1 => smP (plc 17 26) σ σ1)))
    (hM : ∀ σ1, TM σ1 d → am_Call am_TX d2 0 cM [.ref 120] (mm σ1) (am_Ok (some (.int y)) (fun σ2 => smP pQ σ1 σ2 ∧ σ2.1 120 0 = 0))) (h1 : d1 ≤ 9) (hd : d2 ≤ 18) : OpD cD cM σ := by
  refine ⟨y, (hL.room h1 (Nat.zero_le _)).mono (am_Ok.mono ?_)⟩
  intro σ1 q
  have q2 : smP pLw σ σ1 := lw_of (by decide) q
  have M2 := M.lw q2
  exact ⟨q2, d, T.q q, ((hM _ M2).room hd (Nat.le_refl _)).mono (am_Ok.mono fun σ2 h => ⟨h.1.mono pQ_mo, M2.q h.1⟩)⟩
theorem dirC {D D2 : am_Sn} {n n2 : Nat} {Hs H2 : Nat → am_Sn} {k0 k1 : Option am_Sn} {nb : Nat} {B O : List Int32} {ec ep : Int32} (T : TC σ ⟨D, n, Hs, k0, k1, nb, B, O, ec, ep⟩) (M : TM σ ⟨D, n, Hs, k0, k1, nb, B, O, ec, ep⟩)
    (hL : am_Call am_TX d1 0 cD [.ref 0] (mm σ) (am_Ok (some (.int y)) (fun σ1 => smP (plc 17 99) σ σ1 ∧ cS σ1 26 D2 ∧ cH σ1 n2 H2)))
    (hM : ∀ σ1, nVD σ1 D → mH σ1 n Hs → am_Call am_TX d2 0 cM [.ref 120] (mm σ1) (am_Ok (some (.int y)) (fun σ2 => smP pC σ1 σ2 ∧ σ2.1 120 0 = 0 ∧ nVD σ2 D2 ∧ mH σ2 n2 H2))) (h1 : d1 ≤ 9) (hd : d2 ≤ 18) : OpD cD cM σ := by
  refine ⟨y, (hL.room h1 (Nat.zero_le _)).mono (am_Ok.mono ?_)⟩
  rintro σ1 ⟨q, qD, qH⟩
  have q2 : smP pLw σ σ1 := lw_of (by decide) q
  have M2 := M.lw q2
  exact ⟨q2, ⟨D2, n2, H2, k0, k1, nb, B, O, ec, ep⟩, T.c q qD qH, ((hM _ M2.1 M2.2.1).room hd (Nat.le_refl _)).mono (am_Ok.mono fun σ2 h => ⟨h.1.mono pC_mo, M2.c h.1 h.2.2.1 h.2.2.2⟩)⟩
theorem dirO {D : am_Sn} {n : Nat} {Hs : Nat → am_Sn} {k0 k1 : Option am_Sn} {nb : Nat} {B O O2 : List Int32} {ec ep : Int32} {P : Nat → Nat → Prop} (hP : ∀ a b, P a b → (a = 120 ∧ (b < 12 ∧ b ≠ 4 ∨ b = 27)) ∨ a = 123 ∨ a = 124 ∨ a = 125 ∨ a = 131) (T : TC σ ⟨D, n, Hs, k0, k1, nb, B, O, ec, ep⟩) (M : TM σ ⟨D, n, Hs, k0, k1, nb, B, O, ec, ep⟩)
    (hL : am_Call am_TX d1 0 cD [.ref 0] (mm σ) (am_Ok (some (.int y)) (fun σ1 => smP (plc 14 26) σ σ1 ∧ oC σ1 O2)))
    (hM : ∀ σ1, nVD σ1 D → am_Call am_TX d2 0 cM [.ref 120] (mm σ1) (am_Ok (some (.int y)) (fun σ2 => smP P σ1 σ2 ∧ σ2.1 120 0 = 0 ∧ oM σ2 O2))) (h1 : d1 ≤ 9) (hd : d2 ≤ 18) : OpD cD cM σ := by
  refine ⟨y, (hL.room h1 (Nat.zero_le _)).mono (am_Ok.mono ?_)⟩
  rintro σ1 ⟨q, qO⟩
  have q2 : smP pLw σ σ1 := lw_of (by decide) q
  have M2 := M.lw q2
  exact ⟨q2, ⟨D, n, Hs, k0, k1, nb, B, O2, ec, ep⟩, T.o q qO, ((hM _ M2.1).room hd (Nat.le_refl _)).mono (am_Ok.mono fun σ2 h => ⟨h.1.mono (fun a b z => by have := hP a b z; unfold pMo; omega), M2.o h.1 hP h.2.2⟩)⟩
end OPC2
section OPS2
variable {σ : am_G} {d : Dk}
theorem op_append (T : TC σ d) (M : TM σ d) (a1 a2 a3 a4 a5 : Int32) : OpC Value.int Int32.toInt64 c_L_append [.ref 0, .int a1, .int a2, .int a3, .int a4, .int a5, .ref 132] c_M_append [.ref 120, .int a1, .int a2, .int a3, .int a4, .int a5] σ := by
  obtain ⟨D, n, Hs, k0, k1, nb, B, O, ec, ep⟩ := d
  have hI : iC σ nb B := T.2.2.2.1
  by_cases c : nb + 20 ≤ 400
  · refine ⟨0, ((lok_append ((sp_D_append hI c).room (by decide) (by decide))).room (Nat.le_refl _) (Nat.zero_le _)).mono (am_Ok.mono ?_)⟩
    rintro _ ⟨σ1, ⟨q, qI⟩, rfl⟩
    have q2 : smP pLw σ (sL σ1 132 0 (nI (nb + 20)).toInt64) := sL_lw (q.mono fun a b h => Or.inl (by rcases h with z | z <;> omega))
    have M2 := M.lw q2
    refine ⟨q2, nI (nb + 20), ⟨D, n, Hs, k0, k1, nb + 20, B ++ apL a1 a2 a3 a4 a5, O, ec, ep⟩, (T.i q qI).out, fun _ => ?_, ((sp_M_append (show iM _ nb B from M2.2.2.2.1) c).room (by decide) (Nat.le_refl _)).mono (am_Ok.mono fun σ2 h => ⟨h.1.mono (fun a b z => by unfold pMo; omega), M2.i h.1 (fun a b z => z) h.2.2, h.2.1⟩)⟩
    show am_up σ1.2.1 132 0 (nI (nb + 20)).toInt64 132 0 = (nI (nb + 20)).toInt64
    simp [am_up]
  · exact ansX2 T M (lth_append_1 (((sp_D_append_x hI c).mono (am_ThP.mono fun σ1 h => by rw [h]; exact smP.refl)).room (by decide) (by decide))) (fun σ1 M1 => (sp_M_append_x (show iM _ nb B from M1.2.2.2.1) c).mono (am_Ok.mono fun σ2 h => by rw [h]; exact ⟨smP_sI pQ_0, sI_s⟩)) (by decide) (by decide)
theorem op_truncate (T : TC σ d) (M : TM σ d) (a1 : Int32) : OpT a1 σ := by
  obtain ⟨D, n, Hs, k0, k1, nb, B, O, ec, ep⟩ := d
  have hI : iC σ nb B := T.2.2.2.1
  by_cases c : 0 ≤ a1 ∧ a1 ≤ nI nb
  · obtain ⟨r, hr, rfl⟩ := ix_le (by have := hI.2.2.1; omega) c
    refine ⟨0, ((lok_truncate ((sp_D_truncate hI hr).room (by decide) (by decide))).room (Nat.le_refl _) (Nat.zero_le _)).mono (am_Ok.mono ?_)⟩
    rintro σ1 ⟨q, qI⟩
    have q2 : smP pLw σ σ1 := q.mono fun a b h => Or.inl (by rcases h with z | z <;> omega)
    have M2 := M.lw q2
    exact ⟨q2, ⟨D, n, Hs, k0, k1, r, B.take r, O, ec, ep⟩, T.i q qI, ((sp_M_truncate (show iM _ nb B from M2.2.2.2.1) hr).room (by decide) (Nat.le_refl _)).mono (am_Ok.mono fun σ2 h => ⟨h.1.mono (fun a b z => by unfold pMo; omega), M2.i h.1 (fun a b z => Or.inl z) h.2.2, h.2.1⟩)⟩
  · refine ⟨1, (lth_truncate_1 ((sp_D_truncate_x hI c).room (by decide) (by decide))).mono (am_Ok.mono ?_)⟩
    intro σ1 e
    subst e
    exact ⟨smP.refl, _, T, ((sp_M_truncate_x (show iM _ nb B from M.2.2.2.1) c).room (by decide) (Nat.le_refl _)).mono (am_Ok.mono fun σ2 h => by rw [h]; exact ⟨(smP_sI pQ_0).mono pQ_mo, M.q (smP_sI pQ_0), sI_s⟩)⟩
theorem op_outputByte (T : TC σ d) (M : TM σ d) (a1 : Int32) : OpC Value.int Int32.toInt64 c_L_outputByte [.ref 0, .int a1, .ref 132] c_M_outputByte [.ref 120, .int a1] σ := by
  obtain ⟨D, n, Hs, k0, k1, nb, B, O, ec, ep⟩ := d
  have hO : oC σ O := T.2.2.2.2.1
  by_cases c : 0 ≤ a1 ∧ a1 < nI O.length
  · obtain ⟨r, hr, rfl⟩ := ix_lt2 c
    exact ansI2 T M (lok_outputByte (((sp_D_outputByte hO hr).mono (am_Ok.mono fun σ1 h => by rw [h]; exact smP.refl)).room (by decide) (by decide))) (fun σ1 M1 => (sp_M_outputByte (show oM _ O from M1.2.2.2.2.1) hr).mono (am_Ok.mono fun σ2 h => by rw [h]; exact ⟨smP_sI pQ_0, sI_s⟩)) (by decide)
  · exact ansX2 T M (lth_outputByte_1 (((sp_D_outputByte_x hO c).mono (am_ThP.mono fun σ1 h => by rw [h]; exact smP.refl)).room (by decide) (by decide))) (fun σ1 M1 => (sp_M_outputByte_x (show oM _ O from M1.2.2.2.2.1) c).mono (am_Ok.mono fun σ2 h => by rw [h]; exact ⟨smP_sI pQ_0, sI_s⟩)) (by decide) (by decide)
theorem TC.k0 {σ1 : am_G} (q : smP (pKe 0) σ σ1) {D D2 : am_Sn} {n : Nat} {Hs : Nat → am_Sn} {k0 k1 : Option am_Sn} {nb : Nat} {B O : List Int32} {ec ep : Int32} (h : TC σ ⟨D, n, Hs, k0, k1, nb, B, O, ec, ep⟩) (hD : cS σ1 99 D2) (hf : σ1.1 119 0 = 1) : TC σ1 ⟨D, n, Hs, some D2, k1, nb, B, O, ec, ep⟩ := by
  obtain ⟨h1, h2, ⟨h3, h4⟩, h5, h6, h7, h8⟩ := h
  exact ⟨h1.fr q (fun a b _ _ z => by unfold pKe at z; omega), h2.fr q (fun a b _ _ z => by unfold pKe at z; omega), ⟨⟨hf, hD⟩, h4.fr q (fun z => by unfold pKe at z; omega) (fun a b _ _ z => by unfold pKe at z; omega)⟩, h5.fr q (fun b => ⟨fun z => by unfold pKe at z; omega, fun z => by unfold pKe at z; omega⟩), h6.fr q (fun b => ⟨fun z => by unfold pKe at z; omega, fun z => by unfold pKe at z; omega⟩), (q.i (fun z => by unfold pKe at z; omega)).trans h7, (q.i (fun z => by unfold pKe at z; omega)).trans h8⟩
theorem TC.k1 {σ1 : am_G} (q : smP (pKe 1) σ σ1) {D D2 : am_Sn} {n : Nat} {Hs : Nat → am_Sn} {k0 k1 : Option am_Sn} {nb : Nat} {B O : List Int32} {ec ep : Int32} (h : TC σ ⟨D, n, Hs, k0, k1, nb, B, O, ec, ep⟩) (hD : cS σ1 109 D2) (hf : σ1.1 119 1 = 1) : TC σ1 ⟨D, n, Hs, k0, some D2, nb, B, O, ec, ep⟩ := by
  obtain ⟨h1, h2, ⟨h3, h4⟩, h5, h6, h7, h8⟩ := h
  exact ⟨h1.fr q (fun a b _ _ z => by unfold pKe at z; omega), h2.fr q (fun a b _ _ z => by unfold pKe at z; omega), ⟨h3.fr q (fun z => by unfold pKe at z; omega) (fun a b _ _ z => by unfold pKe at z; omega), ⟨hf, hD⟩⟩, h5.fr q (fun b => ⟨fun z => by unfold pKe at z; omega, fun z => by unfold pKe at z; omega⟩), h6.fr q (fun b => ⟨fun z => by unfold pKe at z; omega, fun z => by unfold pKe at z; omega⟩), (q.i (fun z => by unfold pKe at z; omega)).trans h7, (q.i (fun z => by unfold pKe at z; omega)).trans h8⟩
theorem TM.k0 {σ1 : am_G} (q : smP (pKm 0) σ σ1) {D D2 : am_Sn} {n : Nat} {Hs : Nat → am_Sn} {k0 k1 : Option am_Sn} {nb : Nat} {B O : List Int32} {ec ep : Int32} (h : TM σ ⟨D, n, Hs, k0, k1, nb, B, O, ec, ep⟩) (hD : slM σ1 0 D2) : TM σ1 ⟨D, n, Hs, some D2, k1, nb, B, O, ec, ep⟩ := by
  obtain ⟨h1, h2, ⟨h3, h4⟩, h5, h6, h7, h8⟩ := h
  exact ⟨h1.fr q (fun b z => by unfold pKm pQ at z; omega) (fun z => by unfold pKm pQ at z; omega), h2.fr q (fun z => by unfold pKm pQ at z; omega) (fun b z => by unfold pKm pQ at z; omega), ⟨hD, h4.fr q (fun z => by unfold pKm pQ at z; omega) (fun _ _ z => by unfold pKm pQ at z; omega)⟩, h5.fr q ⟨fun z => by unfold pKm pQ at z; omega, fun b z => by unfold pKm pQ at z; omega⟩, h6.fr q ⟨fun z => by unfold pKm pQ at z; omega, fun b z => by unfold pKm pQ at z; omega⟩, (q.i (fun z => by unfold pKm pQ at z; omega)).trans h7, (q.i (fun z => by unfold pKm pQ at z; omega)).trans h8⟩
theorem TM.k1 {σ1 : am_G} (q : smP (pKm 1) σ σ1) {D D2 : am_Sn} {n : Nat} {Hs : Nat → am_Sn} {k0 k1 : Option am_Sn} {nb : Nat} {B O : List Int32} {ec ep : Int32} (h : TM σ ⟨D, n, Hs, k0, k1, nb, B, O, ec, ep⟩) (hD : slM σ1 1 D2) : TM σ1 ⟨D, n, Hs, k0, some D2, nb, B, O, ec, ep⟩ := by
  obtain ⟨h1, h2, ⟨h3, h4⟩, h5, h6, h7, h8⟩ := h
  exact ⟨h1.fr q (fun b z => by unfold pKm pQ at z; omega) (fun z => by unfold pKm pQ at z; omega), h2.fr q (fun z => by unfold pKm pQ at z; omega) (fun b z => by unfold pKm pQ at z; omega), ⟨h3.fr q (fun z => by unfold pKm pQ at z; omega) (fun _ _ z => by unfold pKm pQ at z; omega), hD⟩, h5.fr q ⟨fun z => by unfold pKm pQ at z; omega, fun b z => by unfold pKm pQ at z; omega⟩, h6.fr q ⟨fun z => by unfold pKm pQ at z; omega, fun b z => by unfold pKm pQ at z; omega⟩, (q.i (fun z => by unfold pKm pQ at z; omega)).trans h7, (q.i (fun z => by unfold pKm pQ at z; omega)).trans h8⟩
theorem pKe_lw {i : Nat} (hi : i < 2) : ∀ a b, pKe i a b → pLw a b := fun a b z => by unfold pKe at z; exact Or.inl (by omega)
theorem pKm_mo {i : Nat} : ∀ a b, pKm i a b → pMo a b := fun a b z => by unfold pKm pQ at z; unfold pMo; omega
theorem op_keep (T : TC σ d) (M : TM σ d) (a1 : Int32) : OpC Value.int Int32.toInt64 c_L_keep [.ref 0, .int a1, .ref 132] c_M_keep [.ref 120, .int a1] σ := by
  obtain ⟨⟨h, w, f, v, rh, rl, pn, I⟩, n, Hs, k0, k1, nb, B, O, ec, ep⟩ := d
  have hv : vS σ 26 h w f v rh rl pn I := T.1
  by_cases c : 0 ≤ a1 ∧ a1 < 2
  · obtain ⟨r, hr, rfl⟩ := ix_lt2 (h := 2) c
    rcases (show r = 0 ∨ r = 1 by omega) with rfl | rfl
    · refine ⟨0, ((lok_keep ((show am_Call am_TX 6 0 c_D_keep [.ref 0, .int (nI 0)] (mm σ) _ from sp_D_keep_0 hv).room (by decide) (by decide))).room (Nat.le_refl _) (Nat.zero_le _)).mono (am_Ok.mono ?_)⟩
      rintro _ ⟨σ1, ⟨q, qD, q1⟩, rfl⟩
      have q2 := sL_lw (x := (nI (rkO f 0 (2 ^ h - 1) (2 ^ w - 1) h w)).toInt64) (q.mono (pKe_lw (by decide)))
      have M2 := M.lw q2
      refine ⟨q2, nI (rkO f 0 (2 ^ h - 1) (2 ^ w - 1) h w), ⟨(h, w, f, v, rh, rl, pn, I), n, Hs, some (h, w, f, v, rh, rl, pn, I), k1, nb, B, O, ec, ep⟩, (T.k0 q qD q1).out, fun _ => ?_, ((sp_M_keep (show nV _ h w f v rh rl pn I from M2.1) (r := 0) (by decide)).room (by decide) (Nat.le_refl _)).mono (am_Ok.mono fun σ2 h => ⟨h.1.mono pKm_mo, M2.k0 h.1 h.2.2, h.2.1⟩)⟩
      exact sL_out
    · refine ⟨0, ((lok_keep ((show am_Call am_TX 6 0 c_D_keep [.ref 0, .int (nI 1)] (mm σ) _ from sp_D_keep_1 hv).room (by decide) (by decide))).room (Nat.le_refl _) (Nat.zero_le _)).mono (am_Ok.mono ?_)⟩
      rintro _ ⟨σ1, ⟨q, qD, q1⟩, rfl⟩
      have q2 := sL_lw (x := (nI (rkO f 0 (2 ^ h - 1) (2 ^ w - 1) h w)).toInt64) (q.mono (pKe_lw (by decide)))
      have M2 := M.lw q2
      refine ⟨q2, nI (rkO f 0 (2 ^ h - 1) (2 ^ w - 1) h w), ⟨(h, w, f, v, rh, rl, pn, I), n, Hs, k0, some (h, w, f, v, rh, rl, pn, I), nb, B, O, ec, ep⟩, (T.k1 q qD q1).out, fun _ => ?_, ((sp_M_keep (show nV _ h w f v rh rl pn I from M2.1) (r := 1) (by decide)).room (by decide) (Nat.le_refl _)).mono (am_Ok.mono fun σ2 h => ⟨h.1.mono pKm_mo, M2.k1 h.1 h.2.2, h.2.1⟩)⟩
      exact sL_out
  · exact ansX T M (lth_keep_1 (sp_D_keep_x0 hv c)) (fun σ1 (hn : nV σ1 h w f v rh rl pn I) => sp_M_keep_x0 hn c) (by decide) (by decide)
theorem op_restore (T : TC σ d) (M : TM σ d) (a1 : Int32) : OpC Value.int Int32.toInt64 c_L_restore [.ref 0, .int a1, .ref 132] c_M_restore [.ref 120, .int a1] σ := by
  obtain ⟨⟨h, w, f, v, rh, rl, pn, I⟩, n, Hs, k0, k1, nb, B, O, ec, ep⟩ := d
  have hv : vS σ 26 h w f v rh rl pn I := T.1
  have hH : cH σ n Hs := T.2.1
  by_cases c : 0 ≤ a1 ∧ a1 < 2
  · obtain ⟨r, hr, rfl⟩ := ix_lt2 (h := 2) c
    rcases (show r = 0 ∨ r = 1 by omega) with rfl | rfl
    · cases k0 with
      | none => exact ansX2 T M (lth_restore_2 (show am_Call am_TX 8 1 c_D_restore [.ref 0, .int (nI 0)] (mm σ) _ from sp_D_restore_0_x hv T.2.2.1.1)) (fun σ1 M1 => sp_M_restore_x (show nV _ h w f v rh rl pn I from M1.1) (r := 0) (by decide) M1.2.2.1.1) (by decide) (by decide)
      | some D2 =>
        obtain ⟨h2, w2, f2, v2, rh2, rl2, pn2, I2⟩ := D2
        exact chgI T M (lok_restore (show am_Call am_TX 8 0 c_D_restore [.ref 0, .int (nI 0)] (mm σ) _ from sp_D_restore_0 hv hH T.2.2.1.1.2 T.2.2.1.1.1)) (fun σ1 (hn : nV σ1 h w f v rh rl pn I) hH M1 => sp_M_restore (D2 := (h2, w2, f2, v2, rh2, rl2, pn2, I2)) hn hH (r := 0) (by decide) M1.2.2.1.1) (by decide)
    · cases k1 with
      | none => exact ansX2 T M (lth_restore_2 (show am_Call am_TX 8 1 c_D_restore [.ref 0, .int (nI 1)] (mm σ) _ from sp_D_restore_1_x hv T.2.2.1.2)) (fun σ1 M1 => sp_M_restore_x (show nV _ h w f v rh rl pn I from M1.1) (r := 1) (by decide) M1.2.2.1.2) (by decide) (by decide)
      | some D2 =>
        obtain ⟨h2, w2, f2, v2, rh2, rl2, pn2, I2⟩ := D2
        exact chgI T M (lok_restore (show am_Call am_TX 8 0 c_D_restore [.ref 0, .int (nI 1)] (mm σ) _ from sp_D_restore_1 hv hH T.2.2.1.2.2 T.2.2.1.2.1)) (fun σ1 (hn : nV σ1 h w f v rh rl pn I) hH M1 => sp_M_restore (D2 := (h2, w2, f2, v2, rh2, rl2, pn2, I2)) hn hH (r := 1) (by decide) M1.2.2.1.2) (by decide)
  · exact ansX T M (lth_restore_1 (sp_D_restore_x0 hv c)) (fun σ1 (hn : nV σ1 h w f v rh rl pn I) => sp_M_restore_x0 hn c) (by decide) (by decide)
theorem op_undo (T : TC σ d) (M : TM σ d) : OpC Value.int Int32.toInt64 c_L_undo [.ref 0, .ref 132] c_M_undo [.ref 120] σ := by
  obtain ⟨⟨h, w, f, v, rh, rl, pn, I⟩, n, Hs, k0, k1, nb, B, O, ec, ep⟩ := d
  cases n with
  | zero =>
    obtain ⟨t, -, -, h0, -⟩ : cH σ 0 Hs := T.2.1
    exact ansX2 T M (lth_undo_1 (((sp_D_undo_x h0).mono (am_ThP.mono fun σ1 h => by rw [h]; exact smP.refl)).room (by decide) (by decide))) (fun σ1 M1 => sp_M_undo_x (show nV _ h w f v rh rl pn I from M1.1) M1.2.1) (by decide) (by decide)
  | succ n => exact chgI T M (lok_undo (((sp_D_undo (show cH σ (n + 1) Hs from T.2.1)).mono (am_Ok.mono fun σ1 h => ⟨h.1.mono (fun a b z => ⟨by omega, by omega⟩), h.2⟩)).room (by decide) (by decide))) (fun σ1 (hn : nV σ1 h w f v rh rl pn I) hH _ => sp_M_undo hn hH) (by decide)
theorem op_errorCode (T : TC σ d) (M : TM σ d) : OpD c_D_errorCode c_M_errorCode σ := by
  obtain ⟨D, n, Hs, k0, k1, nb, B, O, ec, ep⟩ := d
  have e : σ.1 13 1 = ec := T.2.2.2.2.2.1
  subst e
  exact dirA T M (sp_D_errorCode.mono (am_Ok.mono fun σ1 h => by rw [h]; exact smP.refl)) (fun σ1 M1 => by
    have e2 : σ1.1 120 18 = σ.1 13 1 := M1.2.2.2.2.2.1
    rw [← e2]
    exact sp_M_errorCode.mono (am_Ok.mono fun σ2 h => by rw [h]; exact ⟨smP_sI pQ_0, sI_s⟩)) (by decide) (by decide)
theorem op_errorPosition (T : TC σ d) (M : TM σ d) : OpD c_D_errorPosition c_M_errorPosition σ := by
  obtain ⟨D, n, Hs, k0, k1, nb, B, O, ec, ep⟩ := d
  have e : σ.1 13 2 = ep := T.2.2.2.2.2.2
  subst e
  exact dirA T M (sp_D_errorPosition.mono (am_Ok.mono fun σ1 h => by rw [h]; exact smP.refl)) (fun σ1 M1 => by
    have e2 : σ1.1 120 19 = σ.1 13 2 := M1.2.2.2.2.2.2
    rw [← e2]
    exact sp_M_errorPosition.mono (am_Ok.mono fun σ2 h => by rw [h]; exact ⟨smP_sI pQ_0, sI_s⟩)) (by decide) (by decide)
theorem op_undoCount (T : TC σ d) (M : TM σ d) : OpD c_D_undoCount c_M_undoCount σ := by
  obtain ⟨D, n, Hs, k0, k1, nb, B, O, ec, ep⟩ := d
  obtain ⟨t, -, -, h0, -⟩ : cH σ n Hs := T.2.1
  exact dirA T M ((sp_D_undoCount h0).mono (am_Ok.mono fun σ1 h => by rw [h]; exact smP.refl)) (fun σ1 M1 => by
    have e2 : σ1.1 120 25 = nI n := M1.2.1.1
    rw [← e2]
    exact sp_M_undoCount.mono (am_Ok.mono fun σ2 h => by rw [h]; exact ⟨smP_sI pQ_0, sI_s⟩)) (by decide) (by decide)
theorem op_unlucky (T : TC σ d) (M : TM σ d) : OpD c_D_unlucky c_M_unlucky σ := by
  obtain ⟨⟨h, w, f, v, rh, rl, pn, I⟩, n, Hs, k0, k1, nb, B, O, ec, ep⟩ := d
  have hv : vS σ 26 h w f v rh rl pn I := T.1
  obtain ⟨-, -, -, ⟨p6, P, hP⟩, -⟩ : okV h w f v rh rl pn I := M.1.2.1
  exact dirA T M (sp_D_unlucky hv hP) (fun σ1 M1 => sp_M_unlucky (show nV _ h w f v rh rl pn I from M1.1) hP) (by decide) (by decide)
theorem op_flaw (T : TC σ d) (M : TM σ d) : OpD c_D_flaw c_M_flaw σ := by
  obtain ⟨⟨h, w, f, v, rh, rl, pn, I⟩, n, Hs, k0, k1, nb, B, O, ec, ep⟩ := d
  have hv : vS σ 26 h w f v rh rl pn I := T.1
  obtain ⟨⟨⟨h1, h6⟩, w1, w6⟩, -, -, -, -, okc, r6, -, okr⟩ : okV h w f v rh rl pn I := M.1.2.1
  rcases okc with ⟨e2, e3⟩ | ⟨S, C, e2, e3, hS, hC, hc⟩
  · exact dirA T M (sp_D_flaw_1 hv e2) (fun σ1 M1 => sp_M_flaw_1 (show nV _ h w f v rh rl pn I from M1.1) e2) (by decide) (by decide)
  · exact dirA T M (sp_D_flaw hv e2 e3 (p2_64 hS h6) (p2_64 hC w6) h1 okr) (fun σ1 M1 => sp_M_flaw (show nV _ h w f v rh rl pn I from M1.1) e2 e3 hS hC hc) (by decide) (by decide)
theorem op_transpose (T : TC σ d) (M : TM σ d) : OpD c_D_transpose c_M_transpose σ := by
  obtain ⟨⟨h, w, f, v, rh, rl, pn, I⟩, n, Hs, k0, k1, nb, B, O, ec, ep⟩ := d
  exact dirC T M (sp_D_transpose (show vS σ 26 h w f v rh rl pn I from T.1) T.2.1) (fun σ1 (hn : nV σ1 h w f v rh rl pn I) hH => sp_M_transpose hn hH) (by decide) (by decide)
theorem op_clearCertificate (T : TC σ d) (M : TM σ d) : OpD c_D_clearCertificate c_M_clearCertificate σ := by
  obtain ⟨⟨h, w, f, v, rh, rl, pn, I⟩, n, Hs, k0, k1, nb, B, O, ec, ep⟩ := d
  exact dirC T M (sp_D_clearCertificate (show vS σ 26 h w f v rh rl pn I from T.1) T.2.1) (fun σ1 (hn : nV σ1 h w f v rh rl pn I) hH => sp_M_clearCertificate hn hH) (by decide) (by decide)
theorem op_certify (T : TC σ d) (M : TM σ d) : OpD c_D_certify c_M_certify σ := by
  obtain ⟨⟨h, w, f, v, rh, rl, pn, I⟩, n, Hs, k0, k1, nb, B, O, ec, ep⟩ := d
  exact dirC T M (sp_D_certify (show vS σ 26 h w f v rh rl pn I from T.1) T.2.1) (fun σ1 (hn : nV σ1 h w f v rh rl pn I) hH => sp_M_certify hn hH) (by decide) (by decide)
theorem op_repair (T : TC σ d) (M : TM σ d) : OpD c_D_repair c_M_repair σ := by
  obtain ⟨⟨h, w, f, v, rh, rl, pn, I⟩, n, Hs, k0, k1, nb, B, O, ec, ep⟩ := d
  obtain ⟨-, -, -, ⟨p6, P, hP⟩, okg, -⟩ : okV h w f v rh rl pn I := M.1.2.1
  have h0 : ∃ s0, (I 4 = -1 ∧ s0 = 0) ∨ ∃ g, g < pn ∧ I 4 = nI g ∧ s0 = g + 1 := by
    rcases okg with z | ⟨g, z1, z2⟩
    · exact ⟨0, Or.inl ⟨z 0 (by decide), rfl⟩⟩
    · exact ⟨g + 1, Or.inr ⟨g, z1, z2, rfl⟩⟩
  obtain ⟨s0, h0⟩ := h0
  exact dirC T M (sp_D_repair (show vS σ 26 h w f v rh rl pn I from T.1) T.2.1 hP h0) (fun σ1 (hn : nV σ1 h w f v rh rl pn I) hH => sp_M_repair hn hH hP h0) (by decide) (by decide)
theorem op_writeMatrix (T : TC σ d) (M : TM σ d) : OpD c_D_writeMatrix c_M_writeMatrix σ := by
  obtain ⟨⟨h, w, f, v, rh, rl, pn, I⟩, n, Hs, k0, k1, nb, B, O, ec, ep⟩ := d
  exact dirO (fun a b z => by unfold pOw at z; omega) T M (sp_D_writeMatrix (show vS σ 26 h w f v rh rl pn I from T.1)) (fun σ1 (hn : nV σ1 h w f v rh rl pn I) => sp_M_writeMatrix hn.toV hn.2.1.2.1) (by decide) (by decide)
theorem op_writeCertificate (T : TC σ d) (M : TM σ d) : OpD c_D_writeCertificate c_M_writeCertificate σ := by
  obtain ⟨⟨h, w, f, v, rh, rl, pn, I⟩, n, Hs, k0, k1, nb, B, O, ec, ep⟩ := d
  have hv : vS σ 26 h w f v rh rl pn I := T.1
  obtain ⟨⟨⟨h1, h6⟩, w1, w6⟩, -, -, -, -, okc, -⟩ : okV h w f v rh rl pn I := M.1.2.1
  rcases okc with ⟨e2, e3⟩ | ⟨S, C, e2, e3, hS, hC, hc⟩
  · exact dirO pOq_o T M (sp_D_writeCertificate_0 hv e2) (fun σ1 (hn : nV σ1 h w f v rh rl pn I) => sp_M_writeCertificate_0 hn e2) (by decide) (by decide)
  · exact dirO pOq_o T M (sp_D_writeCertificate_1 hv e2 e3 (p2_64 hS h6) (p2_64 hC w6)) (fun σ1 (hn : nV σ1 h w f v rh rl pn I) => sp_M_writeCertificate_1 hn e2 e3 (p2_64 hS h6) (p2_64 hC w6)) (by decide) (by decide)
theorem op_load (T : TC σ d) (M : TM σ d) : OpD c_D_load c_M_load σ := by
  obtain ⟨⟨h, w, f, v, rh, rl, pn, I⟩, n, Hs, k0, k1, nb, B, O, ec, ep⟩ := d
  have hv : vS σ 26 h w f v rh rl pn I := T.1
  have hB : iC σ nb B := T.2.2.2.1
  cases hpa : paE B nb with
  | inl e =>
    refine ⟨-4, ((sp_D_load_x hB hpa).room (by decide) (by decide)).mono (am_Ok.mono ?_)⟩
    rintro σ1 ⟨q, qI, q1, q2⟩
    have ql : smP pLw σ σ1 := q.mono fun a b z => Or.inl (by omega)
    have M2 := M.lw ql
    refine ⟨ql, ⟨(h, w, f, v, rh, rl, pn, I), n, Hs, k0, k1, 0, [], O, nI e.1, nI e.2⟩, ?_, ((sp_M_load_x (show nV _ h w f v rh rl pn I from M2.1) (show iM _ nb B from M2.2.2.2.1) hpa).room (by decide) (Nat.le_refl _)).mono (am_Ok.mono fun σ2 z => ⟨z.1.mono (fun a b y => by unfold pLd at y; unfold pMo; omega), ?_⟩)⟩
    · obtain ⟨t1, t2, ⟨t3, t4⟩, t5, t6, t7, t8⟩ := T
      exact ⟨t1.fr q (fun a b _ _ z => by omega), t2.fr q (fun a b _ _ z => by omega), ⟨t3.fr q (by omega) (fun a b _ _ z => by omega), t4.fr q (by omega) (fun a b _ _ z => by omega)⟩, qI, t6.fr q (fun b => ⟨by omega, by omega⟩), q1, q2⟩
    · obtain ⟨z1, -, zI, zc, zp⟩ := z
      obtain ⟨t1, t2, ⟨t3, t4⟩, t5, t6, t7, t8⟩ := M2
      exact ⟨t1.fr z1 (fun b y => by unfold pLd at y; omega) (fun y => by unfold pLd at y; omega), t2.fr z1 (fun y => by unfold pLd at y; omega) (fun b y => by unfold pLd at y; omega), ⟨t3.fr z1 (fun y => by unfold pLd at y; omega) (fun _ _ y => by unfold pLd at y; omega), t4.fr z1 (fun y => by unfold pLd at y; omega) (fun _ _ y => by unfold pLd at y; omega)⟩, zI, t6.fr z1 ⟨fun y => by unfold pLd at y; omega, fun b y => by unfold pLd at y; omega⟩, zc, zp⟩
  | inr e =>
    obtain ⟨f2, rt, P2, pn2⟩ := e
    refine ⟨nI rt, ((sp_D_load hv T.2.1 hB hpa).room (by decide) (by decide)).mono (am_Ok.mono ?_)⟩
    rintro σ1 ⟨q, qI, q1, q2, qH, J, qD, hJ, hJP⟩
    have ql : smP pLw σ σ1 := q.mono fun a b z => Or.inl (by omega)
    have M2 := M.lw ql
    refine ⟨ql, ⟨(paH B nb, paW B nb, f2, (fun _ _ => 0), 0, (fun _ _ => 0), pn2, J), nxZ n, hC (h, w, f, v, rh, rl, pn, I) Hs, k0, k1, 0, [], O, 0, -1⟩, ?_, ((sp_M_load (show nV _ h w f v rh rl pn I from M2.1) M2.2.1 (show iM _ nb B from M2.2.2.2.1) hpa hJ hJP).room (by decide) (Nat.le_refl _)).mono (am_Ok.mono fun σ2 z => ⟨z.1.mono (fun a b y => by unfold pLo pLd at y; unfold pMo; omega), ?_⟩)⟩
    · obtain ⟨t1, t2, ⟨t3, t4⟩, t5, t6, t7, t8⟩ := T
      exact ⟨qD, qH, ⟨t3.fr q (by omega) (fun a b _ _ z => by omega), t4.fr q (by omega) (fun a b _ _ z => by omega)⟩, qI, t6.fr q (fun b => ⟨by omega, by omega⟩), q1, q2⟩
    · obtain ⟨z1, -, zI, zc, zp, zH, zD⟩ := z
      obtain ⟨t1, t2, ⟨t3, t4⟩, t5, t6, t7, t8⟩ := M2
      exact ⟨zD, zH, ⟨t3.fr z1 (fun y => by unfold pLo pLd at y; omega) (fun _ _ y => by unfold pLo pLd at y; omega), t4.fr z1 (fun y => by unfold pLo pLd at y; omega) (fun _ _ y => by unfold pLo pLd at y; omega)⟩, zI, t6.fr z1 ⟨fun y => by unfold pLo pLd at y; omega, fun b y => by unfold pLo pLd at y; omega⟩, zc, zp⟩
end OPS2
