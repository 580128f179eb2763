/-! ===== the law itself ===== -/
def sg_law : am_S := (⟨"RankDeskLaw", "law", "([I)Z"⟩, code, 8, some .boolean, none)
def f_law (q : Nat) : Option am_I := (cond (Nat.ble q 123) (cond (Nat.ble q 65) (cond (Nat.ble q 34) (cond (Nat.ble q 14) (cond (Nat.ble q 7) (cond (Nat.ble q 3) (cond (Nat.ble q 0) (cond (Nat.beq q 0) (some (.new 25, 3, 10, 0)) none) (cond (Nat.beq q 3) (some (.dup, 1, 0, 0)) none)) (cond (Nat.ble q 4) (cond (Nat.beq q 4) (some (.invokespecial 125, 3, 0, 0)) none) (cond (Nat.beq q 7) (some (.astore_n 1, 1, 0, 0)) none))) (cond (Nat.ble q 9) (cond (Nat.ble q 8) (cond (Nat.beq q 8) (some (.aload_n 1, 1, 0, 0)) none) (cond (Nat.beq q 9) (some (.aload_n 0, 1, 0, 0)) none)) (cond (Nat.ble q 10) (cond (Nat.beq q 10) (some (.iconst 1, 1, 0, 0)) none) (cond (Nat.ble q 11) (cond (Nat.beq q 11) (some (.invokestatic 237, 3, 40, 3)) none) (cond (Nat.beq q 14) (some (.ifCond .eq (33), 3, 47, 0)) none))))) (cond (Nat.ble q 25) (cond (Nat.ble q 20) (cond (Nat.ble q 17) (cond (Nat.beq q 17) (some (.invokestatic 240, 3, 148, 0)) none) (cond (Nat.beq q 20) (some (.ifCond .eq (27), 3, 47, 0)) none)) (cond (Nat.ble q 23) (cond (Nat.beq q 23) (some (.aload_n 1, 1, 0, 0)) none) (cond (Nat.ble q 24) (cond (Nat.beq q 24) (some (.iconst 2, 1, 0, 0)) none) (cond (Nat.beq q 25) (some (.aload_n 0, 1, 0, 0)) none)))) (cond (Nat.ble q 28) (cond (Nat.ble q 26) (cond (Nat.beq q 26) (some (.bipush 100, 2, 0, 0)) none) (cond (Nat.beq q 28) (some (.bipush 96, 2, 0, 0)) none)) (cond (Nat.ble q 30) (cond (Nat.beq q 30) (some (.invokestatic 44, 3, 37, 3)) none) (cond (Nat.ble q 33) (cond (Nat.beq q 33) (some (.iadd, 1, 0, 0)) none) (cond (Nat.beq q 34) (some (.invokestatic 244, 3, 202, 2)) none)))))) (cond (Nat.ble q 51) (cond (Nat.ble q 44) (cond (Nat.ble q 40) (cond (Nat.ble q 37) (cond (Nat.beq q 37) (some (.ifCond .eq (10), 3, 47, 0)) none) (cond (Nat.beq q 40) (some (.aload_n 1, 1, 0, 0)) none)) (cond (Nat.ble q 41) (cond (Nat.beq q 41) (some (.invokestatic 248, 3, 170, 1)) none) (cond (Nat.beq q 44) (some (.ifCond .ne (5), 3, 49, 0)) none))) (cond (Nat.ble q 48) (cond (Nat.ble q 47) (cond (Nat.beq q 47) (some (.iconst 0, 1, 0, 0)) none) (cond (Nat.beq q 48) (some (.ireturn, 1, 0, 0)) none)) (cond (Nat.ble q 49) (cond (Nat.beq q 49) (some (.iconst 1, 1, 0, 0)) none) (cond (Nat.ble q 50) (cond (Nat.beq q 50) (some (.aload_n 1, 1, 0, 0)) none) (cond (Nat.beq q 51) (some (.iconst 0, 1, 0, 0)) none))))) (cond (Nat.ble q 58) (cond (Nat.ble q 55) (cond (Nat.ble q 52) (cond (Nat.beq q 52) (some (.invokevirtual 100, 3, 13, 1)) none) (cond (Nat.beq q 55) (some (.ishl, 1, 0, 0)) none)) (cond (Nat.ble q 56) (cond (Nat.beq q 56) (some (.iconst 1, 1, 0, 0)) none) (cond (Nat.ble q 57) (cond (Nat.beq q 57) (some (.isub, 1, 0, 0)) none) (cond (Nat.beq q 58) (some (.istore_n 2, 1, 0, 0)) none)))) (cond (Nat.ble q 60) (cond (Nat.ble q 59) (cond (Nat.beq q 59) (some (.iconst 1, 1, 0, 0)) none) (cond (Nat.beq q 60) (some (.aload_n 1, 1, 0, 0)) none)) (cond (Nat.ble q 61) (cond (Nat.beq q 61) (some (.iconst 1, 1, 0, 0)) none) (cond (Nat.ble q 62) (cond (Nat.beq q 62) (some (.invokevirtual 100, 3, 13, 1)) none) (cond (Nat.beq q 65) (some (.ishl, 1, 0, 0)) none))))))) (cond (Nat.ble q 94) (cond (Nat.ble q 78) (cond (Nat.ble q 69) (cond (Nat.ble q 67) (cond (Nat.ble q 66) (cond (Nat.beq q 66) (some (.iconst 1, 1, 0, 0)) none) (cond (Nat.beq q 67) (some (.isub, 1, 0, 0)) none)) (cond (Nat.ble q 68) (cond (Nat.beq q 68) (some (.istore_n 3, 1, 0, 0)) none) (cond (Nat.beq q 69) (some (.iconst 0, 1, 0, 0)) none))) (cond (Nat.ble q 72) (cond (Nat.ble q 70) (cond (Nat.beq q 70) (some (.istore 4, 2, 0, 0)) none) (cond (Nat.beq q 72) (some (.iload 4, 2, 0, 0)) none)) (cond (Nat.ble q 74) (cond (Nat.beq q 74) (some (.iconst 4, 1, 0, 0)) none) (cond (Nat.ble q 75) (cond (Nat.beq q 75) (some (.if_icmp .ge (131), 3, 206, 0)) none) (cond (Nat.beq q 78) (some (.aload_n 0, 1, 0, 0)) none))))) (cond (Nat.ble q 85) (cond (Nat.ble q 81) (cond (Nat.ble q 79) (cond (Nat.beq q 79) (some (.bipush 101, 2, 0, 0)) none) (cond (Nat.beq q 81) (some (.iconst 3, 1, 0, 0)) none)) (cond (Nat.ble q 82) (cond (Nat.beq q 82) (some (.iload 4, 2, 0, 0)) none) (cond (Nat.ble q 84) (cond (Nat.beq q 84) (some (.imul, 1, 0, 0)) none) (cond (Nat.beq q 85) (some (.iadd, 1, 0, 0)) none)))) (cond (Nat.ble q 89) (cond (Nat.ble q 86) (cond (Nat.beq q 86) (some (.invokestatic 252, 3, 38, 2)) none) (cond (Nat.beq q 89) (some (.istore 5, 2, 0, 0)) none)) (cond (Nat.ble q 91) (cond (Nat.beq q 91) (some (.aload_n 0, 1, 0, 0)) none) (cond (Nat.ble q 92) (cond (Nat.beq q 92) (some (.bipush 120, 2, 0, 0)) none) (cond (Nat.beq q 94) (some (.iload 4, 2, 0, 0)) none)))))) (cond (Nat.ble q 108) (cond (Nat.ble q 99) (cond (Nat.ble q 97) (cond (Nat.ble q 96) (cond (Nat.beq q 96) (some (.iadd, 1, 0, 0)) none) (cond (Nat.beq q 97) (some (.iload_n 2, 1, 0, 0)) none)) (cond (Nat.ble q 98) (cond (Nat.beq q 98) (some (.iconst 1, 1, 0, 0)) none) (cond (Nat.beq q 99) (some (.iadd, 1, 0, 0)) none))) (cond (Nat.ble q 103) (cond (Nat.ble q 100) (cond (Nat.beq q 100) (some (.invokestatic 44, 3, 37, 3)) none) (cond (Nat.beq q 103) (some (.istore 6, 2, 0, 0)) none)) (cond (Nat.ble q 105) (cond (Nat.beq q 105) (some (.aload_n 0, 1, 0, 0)) none) (cond (Nat.ble q 106) (cond (Nat.beq q 106) (some (.bipush 124, 2, 0, 0)) none) (cond (Nat.beq q 108) (some (.iload 4, 2, 0, 0)) none))))) (cond (Nat.ble q 114) (cond (Nat.ble q 111) (cond (Nat.ble q 110) (cond (Nat.beq q 110) (some (.iadd, 1, 0, 0)) none) (cond (Nat.beq q 111) (some (.iload_n 3, 1, 0, 0)) none)) (cond (Nat.ble q 112) (cond (Nat.beq q 112) (some (.iconst 1, 1, 0, 0)) none) (cond (Nat.ble q 113) (cond (Nat.beq q 113) (some (.iadd, 1, 0, 0)) none) (cond (Nat.beq q 114) (some (.invokestatic 44, 3, 37, 3)) none)))) (cond (Nat.ble q 119) (cond (Nat.ble q 117) (cond (Nat.beq q 117) (some (.istore 7, 2, 0, 0)) none) (cond (Nat.beq q 119) (some (.aload_n 1, 1, 0, 0)) none)) (cond (Nat.ble q 120) (cond (Nat.beq q 120) (some (.iload 5, 2, 0, 0)) none) (cond (Nat.ble q 122) (cond (Nat.beq q 122) (some (.iload_n 2, 1, 0, 0)) none) (cond (Nat.beq q 123) (some (.iload_n 3, 1, 0, 0)) none)))))))) (cond (Nat.ble q 203) (cond (Nat.ble q 164) (cond (Nat.ble q 143) (cond (Nat.ble q 131) (cond (Nat.ble q 127) (cond (Nat.ble q 124) (cond (Nat.beq q 124) (some (.invokestatic 255, 3, 168, 4)) none) (cond (Nat.beq q 127) (some (.ifCond .eq (36), 3, 163, 0)) none)) (cond (Nat.ble q 130) (cond (Nat.beq q 130) (some (.aload_n 1, 1, 0, 0)) none) (cond (Nat.beq q 131) (some (.iload 5, 2, 0, 0)) none))) (cond (Nat.ble q 135) (cond (Nat.ble q 133) (cond (Nat.beq q 133) (some (.iload 6, 2, 0, 0)) none) (cond (Nat.beq q 135) (some (.iload 7, 2, 0, 0)) none)) (cond (Nat.ble q 137) (cond (Nat.beq q 137) (some (.invokestatic 255, 3, 168, 4)) none) (cond (Nat.ble q 140) (cond (Nat.beq q 140) (some (.ifCond .eq (23), 3, 163, 0)) none) (cond (Nat.beq q 143) (some (.aload_n 1, 1, 0, 0)) none))))) (cond (Nat.ble q 153) (cond (Nat.ble q 146) (cond (Nat.ble q 144) (cond (Nat.beq q 144) (some (.iload 5, 2, 0, 0)) none) (cond (Nat.beq q 146) (some (.invokestatic 259, 3, 177, 2)) none)) (cond (Nat.ble q 149) (cond (Nat.beq q 149) (some (.ifCond .eq (14), 3, 163, 0)) none) (cond (Nat.ble q 152) (cond (Nat.beq q 152) (some (.aload_n 1, 1, 0, 0)) none) (cond (Nat.beq q 153) (some (.iload 5, 2, 0, 0)) none)))) (cond (Nat.ble q 157) (cond (Nat.ble q 155) (cond (Nat.beq q 155) (some (.iload 6, 2, 0, 0)) none) (cond (Nat.beq q 157) (some (.invokestatic 262, 3, 187, 3)) none)) (cond (Nat.ble q 160) (cond (Nat.beq q 160) (some (.ifCond .ne (5), 3, 165, 0)) none) (cond (Nat.ble q 163) (cond (Nat.beq q 163) (some (.iconst 0, 1, 0, 0)) none) (cond (Nat.beq q 164) (some (.ireturn, 1, 0, 0)) none)))))) (cond (Nat.ble q 183) (cond (Nat.ble q 172) (cond (Nat.ble q 167) (cond (Nat.ble q 165) (cond (Nat.beq q 165) (some (.iload 6, 2, 0, 0)) none) (cond (Nat.beq q 167) (some (.invokestatic 178, 3, 29, 1)) none)) (cond (Nat.ble q 170) (cond (Nat.beq q 170) (some (.iload 7, 2, 0, 0)) none) (cond (Nat.beq q 172) (some (.invokestatic 178, 3, 29, 1)) none))) (cond (Nat.ble q 178) (cond (Nat.ble q 175) (cond (Nat.beq q 175) (some (.if_icmp .ne (25), 3, 200, 0)) none) (cond (Nat.beq q 178) (some (.aload_n 1, 1, 0, 0)) none)) (cond (Nat.ble q 179) (cond (Nat.beq q 179) (some (.iload 6, 2, 0, 0)) none) (cond (Nat.ble q 181) (cond (Nat.beq q 181) (some (.iload 7, 2, 0, 0)) none) (cond (Nat.beq q 183) (some (.invokevirtual 181, 3, 22, 2)) none))))) (cond (Nat.ble q 194) (cond (Nat.ble q 187) (cond (Nat.ble q 186) (cond (Nat.beq q 186) (some (.aload_n 1, 1, 0, 0)) none) (cond (Nat.beq q 187) (some (.iload 6, 2, 0, 0)) none)) (cond (Nat.ble q 189) (cond (Nat.beq q 189) (some (.iload 7, 2, 0, 0)) none) (cond (Nat.ble q 191) (cond (Nat.beq q 191) (some (.invokestatic 174, 3, 165, 3)) none) (cond (Nat.beq q 194) (some (.lcmp, 1, 0, 0)) none)))) (cond (Nat.ble q 198) (cond (Nat.ble q 195) (cond (Nat.beq q 195) (some (.ifCond .eq (5), 3, 200, 0)) none) (cond (Nat.beq q 198) (some (.iconst 0, 1, 0, 0)) none)) (cond (Nat.ble q 199) (cond (Nat.beq q 199) (some (.ireturn, 1, 0, 0)) none) (cond (Nat.ble q 200) (cond (Nat.beq q 200) (some (.iinc 4 1, 3, 0, 0)) none) (cond (Nat.beq q 203) (some (.goto (-131), 3, 72, 0)) none))))))) (cond (Nat.ble q 233) (cond (Nat.ble q 221) (cond (Nat.ble q 211) (cond (Nat.ble q 207) (cond (Nat.ble q 206) (cond (Nat.beq q 206) (some (.aload_n 1, 1, 0, 0)) none) (cond (Nat.beq q 207) (some (.iconst 0, 1, 0, 0)) none)) (cond (Nat.ble q 208) (cond (Nat.beq q 208) (some (.invokevirtual 100, 3, 13, 1)) none) (cond (Nat.beq q 211) (some (.aload_n 1, 1, 0, 0)) none))) (cond (Nat.ble q 213) (cond (Nat.ble q 212) (cond (Nat.beq q 212) (some (.iconst 1, 1, 0, 0)) none) (cond (Nat.beq q 213) (some (.invokevirtual 100, 3, 13, 1)) none)) (cond (Nat.ble q 216) (cond (Nat.beq q 216) (some (.invokestatic 30, 3, 57, 2)) none) (cond (Nat.ble q 219) (cond (Nat.beq q 219) (some (.istore 4, 2, 0, 0)) none) (cond (Nat.beq q 221) (some (.aload_n 1, 1, 0, 0)) none))))) (cond (Nat.ble q 227) (cond (Nat.ble q 223) (cond (Nat.ble q 222) (cond (Nat.beq q 222) (some (.iconst 1, 1, 0, 0)) none) (cond (Nat.beq q 223) (some (.iload 4, 2, 0, 0)) none)) (cond (Nat.ble q 225) (cond (Nat.beq q 225) (some (.ishl, 1, 0, 0)) none) (cond (Nat.ble q 226) (cond (Nat.beq q 226) (some (.iconst 1, 1, 0, 0)) none) (cond (Nat.beq q 227) (some (.isub, 1, 0, 0)) none)))) (cond (Nat.ble q 229) (cond (Nat.ble q 228) (cond (Nat.beq q 228) (some (.iconst 1, 1, 0, 0)) none) (cond (Nat.beq q 229) (some (.iload 4, 2, 0, 0)) none)) (cond (Nat.ble q 231) (cond (Nat.beq q 231) (some (.ishl, 1, 0, 0)) none) (cond (Nat.ble q 232) (cond (Nat.beq q 232) (some (.iconst 1, 1, 0, 0)) none) (cond (Nat.beq q 233) (some (.isub, 1, 0, 0)) none)))))) (cond (Nat.ble q 245) (cond (Nat.ble q 239) (cond (Nat.ble q 237) (cond (Nat.ble q 234) (cond (Nat.beq q 234) (some (.invokevirtual 181, 3, 22, 2)) none) (cond (Nat.beq q 237) (some (.aload_n 1, 1, 0, 0)) none)) (cond (Nat.ble q 238) (cond (Nat.beq q 238) (some (.iconst 1, 1, 0, 0)) none) (cond (Nat.beq q 239) (some (.iload 4, 2, 0, 0)) none))) (cond (Nat.ble q 242) (cond (Nat.ble q 241) (cond (Nat.beq q 241) (some (.ishl, 1, 0, 0)) none) (cond (Nat.beq q 242) (some (.iconst 1, 1, 0, 0)) none)) (cond (Nat.ble q 243) (cond (Nat.beq q 243) (some (.isub, 1, 0, 0)) none) (cond (Nat.ble q 244) (cond (Nat.beq q 244) (some (.iconst 1, 1, 0, 0)) none) (cond (Nat.beq q 245) (some (.iload 4, 2, 0, 0)) none))))) (cond (Nat.ble q 253) (cond (Nat.ble q 248) (cond (Nat.ble q 247) (cond (Nat.beq q 247) (some (.ishl, 1, 0, 0)) none) (cond (Nat.beq q 248) (some (.iconst 1, 1, 0, 0)) none)) (cond (Nat.ble q 249) (cond (Nat.beq q 249) (some (.isub, 1, 0, 0)) none) (cond (Nat.ble q 250) (cond (Nat.beq q 250) (some (.invokestatic 174, 3, 165, 3)) none) (cond (Nat.beq q 253) (some (.lcmp, 1, 0, 0)) none)))) (cond (Nat.ble q 257) (cond (Nat.ble q 254) (cond (Nat.beq q 254) (some (.ifCond .ne (7), 3, 261, 0)) none) (cond (Nat.beq q 257) (some (.iconst 1, 1, 0, 0)) none)) (cond (Nat.ble q 258) (cond (Nat.beq q 258) (some (.goto (4), 3, 262, 0)) none) (cond (Nat.ble q 261) (cond (Nat.beq q 261) (some (.iconst 0, 1, 0, 0)) none) (cond (Nat.beq q 262) (some (.ireturn, 1, 0, 0)) none)))))))))
def c_law : am_C := (sg_law, am_code 263 f_law)
set_option maxRecDepth 100000 in
theorem mf_law : am_MF0 c_law := am_MF0_of [64, 65, 35, 66, 67, 35, 68, 493, 494, 34, 495, 995, 996, 34, 997, 481, 482, 34, 483, 1232, 1233, 34, 1234, 1098, 1099, 34, 1100, 334, 335, 336, 35, 337, 334, 335, 336, 35, 337, 485, 486, 34, 487, 481, 482, 34, 483, 481, 482, 34, 483, 1089, 1090, 34, 1091, 1089, 1090, 34, 1091, 1124, 1125, 34, 1126, 1165, 1166, 34, 1167, 1092, 448, 57, 449, 1092, 448, 57, 449, 418, 419, 420, 35, 421, 1079, 1080, 34, 1081, 334, 335, 336, 35, 337, 334, 335, 336, 35, 337, 688, 572, 51, 573, 418, 419, 420, 35, 421, 1079, 1080, 34, 1081] (by decide +kernel) (by rfl)
def lwQ : am_Res → Prop := am_Oy (some (.int 1)) (fun _ _ => True)
theorem fRw_s {ev : Nat → Nat → Int} {h w : Nat} (hev : ∀ r c, -20 ≤ ev r c ∧ ev r c ≤ 20) : fSm (fRw ev w h) h w := by
  intro i j hi hj
  have := hev i j
  unfold fRw
  rw [if_pos ⟨hi, hj⟩, Int64.toInt_ofInt_of_le (by omega) (by omega)]
  omega
/-- the law's state: the desk, the own places, the script -/
def LW (f : am_Gr) (h w pn : Nat) (J : Nat → Int32) (xs : Nat → Int32) (L N : Nat) (σ : am_G) (ρ : am_Y) : Prop := vS σ 26 h w f (fun _ _ => 0) 0 (fun _ _ => 0) pn J ∧ (yOk ρ ∧ yl ρ ≤ N) ∧ σ.1 3000 = xs ∧ σ.1 3001 0 = nI L
section LAW
variable {f : am_Gr} {h w pn L N D : Nat} {J : Nat → Int32} {xs : Nat → Int32} {σ τ : am_G} {ρ : am_Y}
theorem LW.q (hl : LW f h w pn J xs L N σ ρ) (q : smP (plc 17 26) σ τ) : LW f h w pn J xs L N τ ρ := ⟨vS_q q hl.1, hl.2.1, sc_lo q (fun a b h => by unfold plc; omega) hl.2.2.1 hl.2.2.2⟩
theorem LW.e (hl : LW f h w pn J xs L N σ ρ) (hN : N < 999) (q : smP (pSe (yl ρ)) σ τ) : LW f h w pn J xs L (N + 1) τ (nY ρ (1, 6)) := by
  have := hl.2.1.2
  exact ⟨vS_e q y_0 hl.1, ⟨nY_ok hl.2.1.1, by rw [nY_l]; omega⟩, sc_lo q (fun a b h => by unfold pSe plc; omega) hl.2.2.1 hl.2.2.2⟩
theorem LW.sc (hl : LW f h w pn J xs L N σ ρ) (hL : L ≤ 3072) : scP (ml σ ρ) xs L := ⟨hl.2.2.1, hl.2.2.2, hL⟩
def lwL (R C : Nat) (k : Nat) (a5 a6 a7 : Option Value) : List (Option Value) := [some (.ref 3000), some (.ref 0), some (.int (nI (2 ^ R - 1))), some (.int (nI (2 ^ C - 1))), some (.int (nI k)), a5, a6, a7]
theorem lw_end (hf : fSm f h w) (hD : 76 ≤ D) (hl : LW f h w pn J xs L N σ ρ) {k : Nat} {a5 a6 a7 : Option Value} : am_R am_TX D 0 c_law 206 (lwL h w k a5 a6 a7) [] (ml σ ρ) lwQ := by
  have hh := hl.1.1.1.2
  have hw := hl.1.1.2.1.2
  refine R_aload_n rfl rfl ?_
  refine R_iconst (v := 0) rfl rfl ?_
  refine R_qV (as := [.int 0]) rfl rfl iv_D_count (sp_D_count_0 hl.1) (fun _ z => sm_lo z) (by omega) rfl rfl rfl rfl (Nat.le_of_ble_eq_true rfl) (fun τ1 q1 => ?_)
  have h1 := hl.q q1
  refine R_aload_n rfl rfl ?_
  refine R_iconst (v := 1) rfl rfl ?_
  refine R_qV (as := [.int 1]) rfl rfl iv_D_count (sp_D_count_1 h1.1) (fun _ z => sm_lo z) (by omega) rfl rfl rfl rfl (Nat.le_of_ble_eq_true rfl) (fun τ2 q2 => ?_)
  have h2 := h1.q q2
  refine R_pS (as := [.int (nI h), .int (nI w)]) rfl rfl iv_JMath_min pu_min (by omega) rfl rfl rfl rfl (Nat.le_of_ble_eq_true rfl) ?_
  rw [mn_nI (by omega) (by omega)]
  have hn1 : min h w ≤ h := Nat.min_le_left h w
  have hn2 : min h w ≤ w := Nat.min_le_right h w
  generalize min h w = n at *
  refine R_istore rfl (by decide) ?_
  refine R_aload_n rfl rfl ?_
  refine R_iconst (v := 1) rfl rfl ?_
  refine R_iload rfl rfl ?_
  refine R_shl1N (y := n) rfl (by omega) ?_
  refine R_iconst (v := 1) rfl rfl ?_
  refine R_isubN (x := 2 ^ n) (y := 1) rfl p2_pos ?_
  refine R_iconst (v := 1) rfl rfl ?_
  refine R_iload rfl rfl ?_
  refine R_shl1N (y := n) rfl (by omega) ?_
  refine R_iconst (v := 1) rfl rfl ?_
  refine R_isubN (x := 2 ^ n) (y := 1) rfl p2_pos ?_
  refine R_qV (as := [.int (nI (2 ^ n - 1)), .int (nI (2 ^ n - 1))]) rfl rfl iv_D_minor (sp_D_minor h2.1 (lwP2 hn1) (lwP2 hn2) rfl) (fun _ z => sm_lo z) (by omega) rfl rfl rfl rfl (Nat.le_of_ble_eq_true rfl) (fun τ3 q3 => ?_)
  have h3 := h2.q q3
  refine R_aload_n rfl rfl ?_
  refine R_iconst (v := 1) rfl rfl ?_
  refine R_iload rfl rfl ?_
  refine R_shl1N (y := n) rfl (by omega) ?_
  refine R_iconst (v := 1) rfl rfl ?_
  refine R_isubN (x := 2 ^ n) (y := 1) rfl p2_pos ?_
  refine R_iconst (v := 1) rfl rfl ?_
  refine R_iload rfl rfl ?_
  refine R_shl1N (y := n) rfl (by omega) ?_
  refine R_iconst (v := 1) rfl rfl ?_
  refine R_isubN (x := 2 ^ n) (y := 1) rfl p2_pos ?_
  have c6 := @pc_le (2 ^ n - 1)
  refine R_qS (kc := 0) (k := 0) (as := [.ref 0, .int (nI (2 ^ n - 1)), .int (nI (2 ^ n - 1))]) rfl rfl iv_L_minor (pl_minor hf hh hw _ _ _ (lwP2 hn1) (lwP2 hn2) rfl rfl τ3 h3.1) (by omega) rfl rfl rfl rfl (Nat.le_of_ble_eq_true rfl) (fun τ4 q4 => ?_)
  rw [mnF_z hw (lwP2 hn2) (Nat.le_refl _)]
  refine R_l_ne rfl rfl rfl (fun z => absurd rfl z) (fun _ => ?_)
  refine R_iconst (v := 1) rfl rfl ?_
  refine R_goto rfl rfl ?_
  exact T_zreturn rfl rfl rfl ⟨_, _, rfl, trivial⟩
theorem lp_law (hf : fSm f h w) (hL : L ≤ 3072) {D : Nat} (hD : 76 ≤ D) : ∀ u k N σ ρ a5 a6 a7, k + u = 4 → N + u < 900 → LW f h w pn J xs L N σ ρ → am_R am_TX D u c_law 72 (lwL h w k a5 a6 a7) [] (ml σ ρ) lwQ := by
  intro u
  induction u with
  | zero =>
    intro k N σ ρ a5 a6 a7 hk hN hl
    obtain rfl : k = 4 := by omega
    refine R_iload rfl rfl ?_
    refine R_iconst (v := 4) rfl rfl ?_
    refine R_nicmp_ge (x := 4) (y := 4) rfl rfl (by decide) (by decide) (fun _ => ?_) (fun z => absurd (Nat.le_refl 4) z)
    exact lw_end hf hD hl
  | succ u ih =>
    intro k N σ ρ a5 a6 a7 hk hN hl
    have hh := hl.1.1.1.2
    have hw := hl.1.1.2.1.2
    have hs := hl.sc hL
    have hmd := mN_mem xs L (101 + 3 * k)
    have p1 := @p2_pos h
    have p2 := @p2_pos w
    have p3 : 2 ^ h ≤ 64 := Nat.pow_le_pow_right (by decide) hh
    have p4 : 2 ^ w ≤ 64 := Nat.pow_le_pow_right (by decide) hw
    refine R_iload rfl rfl ?_
    refine R_iconst (v := 4) rfl rfl ?_
    refine R_nicmp_ge (x := k) (y := 4) rfl rfl (by omega) (by decide) (fun z => by omega) (fun _ => ?_)
    refine R_aload_n rfl rfl ?_
    refine R_bipush (v := 101) rfl (by decide) ?_
    refine R_iconst (v := 3) rfl rfl ?_
    refine R_iload rfl rfl ?_
    refine R_imulN (x := 3) (y := k) rfl ?_
    refine R_iaddN (x := 101) (y := 3 * k) rfl ?_
    refine R_pS (as := [.ref 3000, .int (nI (101 + 3 * k))]) rfl rfl iv_L_modulus (pl_modulus hs (by omega)) (by omega) rfl rfl rfl rfl (Nat.le_of_ble_eq_true rfl) ?_
    generalize mN xs L (101 + 3 * k) = m at *
    refine R_istore rfl (by decide) ?_
    refine R_aload_n rfl rfl ?_
    refine R_bipush (v := 120) rfl (by decide) ?_
    refine R_iload rfl rfl ?_
    refine R_iaddN (x := 120) (y := k) rfl ?_
    refine R_iload_n rfl rfl ?_
    refine R_iconst (v := 1) rfl rfl ?_
    refine R_iaddN (x := 2 ^ h - 1) (y := 1) rfl ?_
    have l1 := dN_lt (xs := xs) (L := L) (k := 120 + k) (n := 2 ^ h - 1 + 1) (by omega)
    refine R_pS (as := [.ref 3000, .int (nI (120 + k)), .int (nI (2 ^ h - 1 + 1))]) rfl rfl iv_L_draw (pl_draw hs (by omega) (by omega) (by omega)) (by omega) rfl rfl rfl rfl (Nat.le_of_ble_eq_true rfl) ?_
    generalize dN xs L (120 + k) (2 ^ h - 1 + 1) = a at *
    refine R_istore rfl (by decide) ?_
    refine R_aload_n rfl rfl ?_
    refine R_bipush (v := 124) rfl (by decide) ?_
    refine R_iload rfl rfl ?_
    refine R_iaddN (x := 124) (y := k) rfl ?_
    refine R_iload_n rfl rfl ?_
    refine R_iconst (v := 1) rfl rfl ?_
    refine R_iaddN (x := 2 ^ w - 1) (y := 1) rfl ?_
    have l2 := dN_lt (xs := xs) (L := L) (k := 124 + k) (n := 2 ^ w - 1 + 1) (by omega)
    refine R_pS (as := [.ref 3000, .int (nI (124 + k)), .int (nI (2 ^ w - 1 + 1))]) rfl rfl iv_L_draw (pl_draw hs (by omega) (by omega) (by omega)) (by omega) rfl rfl rfl rfl (Nat.le_of_ble_eq_true rfl) ?_
    generalize dN xs L (124 + k) (2 ^ w - 1 + 1) = b at *
    refine R_istore rfl (by decide) ?_
    have ha : a < 2 ^ h := by omega
    have hb : b < 2 ^ w := by omega
    refine R_aload_n rfl rfl ?_
    refine R_iload rfl rfl ?_
    refine R_iload_n rfl rfl ?_
    refine R_iload_n rfl rfl ?_
    rw [show u + 1 = 0 + (u + 1) by omega]
    refine R_qS (kc := 0) (k := u + 1) (as := [.ref 0, .int (nI m), .int (nI (2 ^ h - 1)), .int (nI (2 ^ w - 1))]) rfl rfl iv_L_ranks (pl_ranks hf hmd (lwP2 (Nat.le_refl h)) (lwP2 (Nat.le_refl w)) hl.1) (by omega) rfl rfl rfl rfl (Nat.le_of_ble_eq_true rfl) (fun τ1 q1 => ?_)
    have h1 := hl.q q1
    refine R_if_eq rfl rfl (fun z => absurd z (by decide)) (fun _ => ?_)
    refine R_aload_n rfl rfl ?_
    refine R_iload rfl rfl ?_
    refine R_iload rfl rfl ?_
    refine R_iload rfl rfl ?_
    rw [show u + 1 = 0 + (u + 1) by omega]
    refine R_qS (kc := 0) (k := u + 1) (as := [.ref 0, .int (nI m), .int (nI a), .int (nI b)]) rfl rfl iv_L_ranks (pl_ranks hf hmd ha hb h1.1) (by omega) rfl rfl rfl rfl (Nat.le_of_ble_eq_true rfl) (fun τ2 q2 => ?_)
    have h2 := h1.q q2
    refine R_if_eq rfl rfl (fun z => absurd z (by decide)) (fun _ => ?_)
    refine R_aload_n rfl rfl ?_
    refine R_iload rfl rfl ?_
    rw [show u + 1 = 0 + (u + 1) by omega]
    refine R_qS (kc := 0) (k := u + 1) (as := [.ref 0, .int (nI m)]) rfl rfl iv_L_profiles (pl_profiles hf hmd h2.1) (by omega) rfl rfl rfl rfl (Nat.le_of_ble_eq_true rfl) (fun τ3 q3 => ?_)
    have h3 := h2.q q3
    refine R_if_eq rfl rfl (fun z => absurd z (by decide)) (fun _ => ?_)
    refine R_aload_n rfl rfl ?_
    refine R_iload rfl rfl ?_
    refine R_iload rfl rfl ?_
    rw [show u + 1 = 1 + u by omega]
    have hy := h3.2.1.2
    have h0 := @y_0 ρ
    refine Y_cS (k := u) (as := [.ref 0, .int (nI m), .int (nI a)]) rfl rfl iv_L_sets (pl_sets hf hmd ha h3.2.1.1 (by omega) h3.1) (by omega) rfl rfl rfl rfl (Nat.le_of_ble_eq_true rfl) okL_n (okO_h (by decide) (okO_r (by omega) (okO_i (okO_i (okO_i (okO_i (okO_i (okO_i okO_n)))))))) (fun τ4 ρ4 hq4 => ?_)
    obtain ⟨rfl, q4⟩ := hq4
    have h4 := h3.e (by omega) q4
    refine R_if_ne rfl rfl (fun _ => ?_) (fun z => absurd z (by decide))
    refine R_iload rfl rfl ?_
    rw [show u = 0 + u by omega]
    refine R_pS (as := [.int (nI a)]) rfl rfl iv_JInteger_bitCount (pu_bitCount (by omega)) (by omega) rfl rfl rfl rfl (Nat.le_of_ble_eq_true rfl) ?_
    refine R_iload rfl rfl ?_
    refine R_pS (as := [.int (nI b)]) rfl rfl iv_JInteger_bitCount (pu_bitCount (by omega)) (by omega) rfl rfl rfl rfl (Nat.le_of_ble_eq_true rfl) ?_
    have c1 := @pc_le a
    have c2 := @pc_le b
    have nxt : ∀ τ, LW f h w pn J xs L (N + 1) τ (nY ρ (1, 6)) → am_R am_TX D (0 + u) c_law 200 (lwL h w k (some (.int (nI m))) (some (.int (nI a))) (some (.int (nI b)))) [] (ml τ (nY ρ (1, 6))) lwQ := by
      intro τ hl
      refine R_iincN (x := k) (m := 1) rfl rfl rfl (by decide) ?_
      refine R_goto rfl rfl ?_
      rw [Nat.zero_add]
      exact ih (k + 1) (N + 1) τ _ _ _ _ (by omega) (by omega) hl
    refine R_nicmp_ne (x := pc a) (y := pc b) rfl rfl (by omega) (by omega) (fun _ => nxt τ4 h4) (fun hp => ?_)
    refine R_aload_n rfl rfl ?_
    refine R_iload rfl rfl ?_
    refine R_iload rfl rfl ?_
    refine R_qV (as := [.int (nI a), .int (nI b)]) rfl rfl iv_D_minor (sp_D_minor h4.1 ha hb hp) (fun _ z => sm_lo z) (by omega) rfl rfl rfl rfl (Nat.le_of_ble_eq_true rfl) (fun τ5 q5 => ?_)
    have h5 := h4.q q5
    refine R_aload_n rfl rfl ?_
    refine R_iload rfl rfl ?_
    refine R_iload rfl rfl ?_
    refine R_qS (kc := 0) (k := u) (as := [.ref 0, .int (nI a), .int (nI b)]) rfl rfl iv_L_minor (pl_minor hf hh hw (pc a) a b ha hb rfl hp.symm τ5 h5.1) (by omega) rfl rfl rfl rfl (Nat.le_of_ble_eq_true rfl) (fun τ6 q6 => ?_)
    have h6 := h5.q q6
    rw [mnF_z hw hb (by omega)]
    refine R_l_eq rfl rfl rfl (fun _ => ?_) (fun z => absurd rfl z)
    have g := nxt τ6 h6
    rw [Nat.zero_add] at g
    exact g
end LAW
theorem st_Mx {xs : Nat → Int32} {N : Int32} : (mG xs N 0 [] [] []).2.1 3000 = xs := by
  funext b
  show (if (3000 : Nat) = 3000 then xs b else if (3000 : Nat) = 3001 then N else 0) = xs b
  rw [if_pos rfl]
theorem st_Mn {xs : Nat → Int32} {N : Int32} : (mG xs N 0 [] [] []).2.1 3001 0 = N := by
  show (if (3001 : Nat) = 3000 then xs 0 else if (3001 : Nat) = 3001 then N else 0) = N
  rw [if_neg (by decide), if_pos rfl]
theorem lw_begin {xs : Nat → Int32} {L : Nat} (hL : L ≤ 3072) : am_R am_TX 80 (1 + (119 + (120 + (120 + 4)))) c_law 0 [some (.ref 3000), none, none, none, none, none, none, none] [] (mG xs (nI L) 0 [] [] []) lwQ := by
  refine nd_begin (k := 120 + (120 + 4)) rfl rfl rfl rfl rfl (okO_h (by decide) (okO_0 (okO_0 (okO_0 (okO_0 (okO_0 (okO_0 (okO_0 okO_n)))))))) (okO_h (by decide) (okO_0 (okO_0 (okO_0 (okO_0 (okO_0 (okO_0 (okO_0 okO_n)))))))) (by decide) ?_
  refine R_astore_n rfl (by decide) ?_
  show am_R am_TX 80 (120 + (120 + 4)) c_law 8 [some (.ref 3000), some (.ref 0), none, none, none, none, none, none] [] _ _
  have hT := TC_0 (xs := xs) (N := nI L)
  have hx : (lb_s xs (nI L)).1 3000 = xs ∧ (lb_s xs (nI L)).1 3001 0 = nI L ∧ L ≤ 3072 := ⟨s0_xs, s0_n, hL⟩
  generalize lb_s xs (nI L) = σ0 at *
  have okl : ∀ n, 120 ≤ n → okO n [some (.ref 3000), some (.ref 0), none, none, none, none, none, none] := fun n hn => okO_h (by decide) (okO_r (by omega) (okO_0 (okO_0 (okO_0 (okO_0 (okO_0 (okO_0 okO_n)))))))
  refine R_aload_n rfl rfl ?_
  refine R_aload_n rfl rfl ?_
  refine R_iconst (v := 1) rfl rfl ?_
  refine Y_cS (k := 120 + 4) (as := [.ref 0, .ref 3000, .int (nI 1)]) rfl rfl iv_L_load (pl_load hx hT.1 hT.2.1 hT.2.2.2.1 ρz_ok (by decide)) (by decide) rfl rfl rfl rfl (Nat.le_of_ble_eq_true rfl) okL_n (okl _ (by decide)) (fun σ1 ρ1 hq => ?_)
  obtain ⟨⟨J, P2, pn, v1, j1⟩, k1, k2, k3, k4⟩ := hq
  have h1200 := @y_0 ρ1
  have hf : fSm (fRw (eZ xs L) (1 + dN xs L 1 6) (1 + dN xs L 0 6)) (1 + dN xs L 0 6) (1 + dN xs L 1 6) := fRw_s (fun r c => (eZ_bd xs L c r).1)
  generalize fRw (eZ xs L) (1 + dN xs L 1 6) (1 + dN xs L 0 6) = f at *
  generalize 1 + dN xs L 0 6 = h at *
  generalize 1 + dN xs L 1 6 = w at *
  have h1 : LW f h w pn J xs L 400 σ1 ρ1 := ⟨v1, ⟨k1, k2⟩, k3, k4⟩
  have hh := h1.1.1.1.2
  have hw := h1.1.1.2.1.2
  refine R_if_eq rfl rfl (fun z => absurd z (by decide)) (fun _ => ?_)
  refine R_hS (k := 4) (as := []) rfl rfl iv_L_errors ((pl_errors (xs := xs) (N := nI L)).ct.alone (Q2 := am_Pu (some (.int 1)) (ml σ1 ρ1)) rfl (k3.trans st_Mx.symm) (k4.trans st_Mn.symm) (fun r hr => ⟨1, hr, rfl⟩)) (by decide) rfl rfl rfl rfl (Nat.le_of_ble_eq_true rfl) (fun r hr => ⟨_, _, hr⟩) (fun v hv => absurd hv List.not_mem_nil) (ok_ls (okl _ h1200)) (fun v2 μ2 hq2 => ?_)
  cases hq2
  refine R_if_eq rfl rfl (fun z => absurd z (by decide)) (fun _ => ?_)
  refine R_aload_n rfl rfl ?_
  refine R_iconst (v := 2) rfl rfl ?_
  refine R_aload_n rfl rfl ?_
  refine R_bipush (v := 100) rfl (by decide) ?_
  refine R_bipush (v := 96) rfl (by decide) ?_
  have l1 := dN_lt (xs := xs) (L := L) (k := 100) (n := 96) (by decide)
  refine R_pS (as := [.ref 3000, .int (nI 100), .int (nI 96)]) rfl rfl iv_L_draw (pl_draw (h1.sc hL) (by decide) (by decide) (by decide)) (by decide) rfl rfl rfl rfl (Nat.le_of_ble_eq_true rfl) ?_
  refine R_iaddN (x := 2) (y := dN xs L 100 96) rfl ?_
  refine R_qS (kc := 0) (k := 4) (as := [.ref 0, .int (nI (2 + dN xs L 100 96))]) rfl rfl iv_L_primes (pl_primes ⟨by omega, by omega⟩ j1 h1.1) (by decide) rfl rfl rfl rfl (Nat.le_of_ble_eq_true rfl) (fun τ2 q2 => ?_)
  have h2 := h1.q q2
  refine R_if_eq rfl rfl (fun z => absurd z (by decide)) (fun _ => ?_)
  refine R_aload_n rfl rfl ?_
  refine R_qS (kc := 0) (k := 4) (as := [.ref 0]) rfl rfl iv_L_divisors (pl_divisors hf h2.1) (by decide) rfl rfl rfl rfl (Nat.le_of_ble_eq_true rfl) (fun τ3 q3 => ?_)
  have h3 := h2.q q3
  refine R_if_ne rfl rfl (fun _ => ?_) (fun z => absurd z (by decide))
  refine R_iconst (v := 1) rfl rfl ?_
  refine R_aload_n rfl rfl ?_
  refine R_iconst (v := 0) rfl rfl ?_
  refine R_qV (as := [.int 0]) rfl rfl iv_D_count (sp_D_count_0 h3.1) (fun _ z => sm_lo z) (by decide) rfl rfl rfl rfl (Nat.le_of_ble_eq_true rfl) (fun τ4 q4 => ?_)
  have h4 := h3.q q4
  refine R_shl1N (y := h) rfl (by omega) ?_
  refine R_iconst (v := 1) rfl rfl ?_
  refine R_isubN (x := 2 ^ h) (y := 1) rfl p2_pos ?_
  refine R_istore_n rfl (by decide) ?_
  refine R_iconst (v := 1) rfl rfl ?_
  refine R_aload_n rfl rfl ?_
  refine R_iconst (v := 1) rfl rfl ?_
  refine R_qV (as := [.int 1]) rfl rfl iv_D_count (sp_D_count_1 h4.1) (fun _ z => sm_lo z) (by decide) rfl rfl rfl rfl (Nat.le_of_ble_eq_true rfl) (fun τ5 q5 => ?_)
  have h5 := h4.q q5
  refine R_shl1N (y := w) rfl (by omega) ?_
  refine R_iconst (v := 1) rfl rfl ?_
  refine R_isubN (x := 2 ^ w) (y := 1) rfl p2_pos ?_
  refine R_istore_n rfl (by decide) ?_
  refine R_iconst (v := 0) rfl rfl ?_
  refine R_istore rfl (by decide) ?_
  exact lp_law hf hL (by decide) 4 0 400 τ5 ρ1 none none none rfl (by decide) h5
