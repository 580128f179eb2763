/-! ===== the claim out of the law ===== -/
def st_F : List Cond := flatC (Jvm.Cond.and given_1 narrow_1)
/-- the i-th text's term -/
def st_tm (i : Nat) : Term := .string (am_TX.getD i ("", 0, "", 0)).1 (am_TX.getD i ("", 0, "", 0)).2.1
/-- what is given of a text that is read -/
def st_need (q : Nat × List Int32) : List Cond := [.eq (.field (st_tm q.1) "java/lang/String" "coder" "B") (.int 0), .arrayOf (.field (st_tm q.1) "java/lang/String" "value" "[B") .byte, .eq (.length (.field (st_tm q.1) "java/lang/String" "value" "[B")) (.int (Int32.ofNat q.2.length))] ++ (List.range q.2.length).map (fun j => .eq (.elem (.field (st_tm q.1) "java/lang/String" "value" "[B") (.int (Int32.ofNat j))) (.int (q.2.getD j 0)))
set_option maxRecDepth 100000 in
theorem st_ex : ∀ i, i < 32 → Cond.exactly (st_tm i) "java/lang/String" ∈ st_F := by decide +kernel
def st_ok (q : Nat × List Int32) : Prop := (q.1 < 32 ∧ q.2.length < 100) ∧ ∀ w ∈ st_need q, w ∈ st_F
theorem st_okof {q : Nat × List Int32} (pl : List Nat) (h : q.1 < 32 ∧ q.2.length < 100) (h2 : (st_need q).map some = pl.map (fun i => st_F[i]?)) : st_ok q := by
  refine ⟨h, fun w hw => ?_⟩
  have h3 : some w ∈ (st_need q).map some := List.mem_map.mpr ⟨w, hw, rfl⟩
  rw [h2] at h3
  obtain ⟨i, -, hi⟩ := List.mem_map.mp h3
  exact List.mem_of_getElem? hi
set_option maxRecDepth 100000 in
theorem st_ok0 : st_ok (0, [109, 97, 116, 114, 105, 120, 32]) := st_okof [357, 358, 359, 360, 361, 362, 363, 364, 365, 366] (by decide +kernel) (by decide +kernel)
set_option maxRecDepth 100000 in
theorem st_ok1 : st_ok (1, [32]) := st_okof [368, 369, 370, 371] (by decide +kernel) (by decide +kernel)
set_option maxRecDepth 100000 in
theorem st_ok2 : st_ok (2, [59]) := st_okof [373, 374, 375, 376] (by decide +kernel) (by decide +kernel)
set_option maxRecDepth 100000 in
theorem st_ok3 : st_ok (3, [114, 111, 119, 32]) := st_okof [378, 379, 380, 381, 382, 383, 384] (by decide +kernel) (by decide +kernel)
set_option maxRecDepth 100000 in
theorem st_ok4 : st_ok (4, [44]) := st_okof [386, 387, 388, 389] (by decide +kernel) (by decide +kernel)
set_option maxRecDepth 100000 in
theorem st_ok5 : st_ok (5, []) := st_okof [391, 392, 393] (by decide +kernel) (by decide +kernel)
set_option maxRecDepth 100000 in
theorem st_ok6 : st_ok (6, [112, 114, 105, 109, 101, 32]) := st_okof [395, 396, 397, 398, 399, 400, 401, 402, 403] (by decide +kernel) (by decide +kernel)
set_option maxRecDepth 100000 in
theorem st_ok7 : st_ok (7, [109, 97, 116, 114, 105, 120, 32, 55]) := st_okof [492, 493, 494, 495, 496, 497, 498, 499, 500, 501, 502] (by decide +kernel) (by decide +kernel)
set_option maxRecDepth 100000 in
theorem st_ok8 : st_ok (8, [109, 97, 116, 114, 105, 120, 32, 50, 32, 48]) := st_okof [504, 505, 506, 507, 508, 509, 510, 511, 512, 513, 514, 515, 516] (by decide +kernel) (by decide +kernel)
set_option maxRecDepth 100000 in
theorem st_ok29 : st_ok (29, [114, 111, 119]) := st_okof [443, 444, 445, 446, 447, 448] (by decide +kernel) (by decide +kernel)
set_option maxRecDepth 100000 in
theorem st_ok30 : st_ok (30, [112, 114, 105, 109, 101]) := st_okof [450, 451, 452, 453, 454, 455, 456, 457] (by decide +kernel) (by decide +kernel)
set_option maxRecDepth 100000 in
theorem st_ok31 : st_ok (31, [109, 97, 116, 114, 105, 120]) := st_okof [433, 434, 435, 436, 437, 438, 439, 440, 441] (by decide +kernel) (by decide +kernel)
set_option maxRecDepth 100000 in
theorem st_ok9 : st_ok (9, [109, 97, 116, 114, 105, 120, 32, 49, 32, 49, 59, 109, 97, 116, 114, 105, 120]) := st_okof [518, 519, 520, 521, 522, 523, 524, 525, 526, 527, 528, 529, 530, 531, 532, 533, 534, 535, 536, 537] (by decide +kernel) (by decide +kernel)
set_option maxRecDepth 100000 in
theorem st_ok10 : st_ok (10, [109, 97, 116, 114, 105, 120, 32, 49, 32, 50, 59, 114, 111, 119, 32, 49, 59]) := st_okof [539, 540, 541, 542, 543, 544, 545, 546, 547, 548, 549, 550, 551, 552, 553, 554, 555, 556, 557, 558] (by decide +kernel) (by decide +kernel)
set_option maxRecDepth 100000 in
theorem st_ok11 : st_ok (11, [109, 97, 116, 114, 105, 120, 32, 49, 32, 50, 59, 114, 111, 119, 32, 49, 44, 50, 44]) := st_okof [560, 561, 562, 563, 564, 565, 566, 567, 568, 569, 570, 571, 572, 573, 574, 575, 576, 577, 578, 579, 580, 581] (by decide +kernel) (by decide +kernel)
set_option maxRecDepth 100000 in
theorem st_ok12 : st_ok (12, [109, 97, 116, 114, 105, 120, 32, 49, 32, 49, 59, 114, 111, 119, 32, 50, 49]) := st_okof [583, 584, 585, 586, 587, 588, 589, 590, 591, 592, 593, 594, 595, 596, 597, 598, 599, 600, 601, 602] (by decide +kernel) (by decide +kernel)
set_option maxRecDepth 100000 in
theorem st_ok13 : st_ok (13, [109, 97, 116, 114, 105, 120, 32, 49, 32, 49, 59, 114, 111, 119, 32, 45, 45]) := st_okof [604, 605, 606, 607, 608, 609, 610, 611, 612, 613, 614, 615, 616, 617, 618, 619, 620, 621, 622, 623] (by decide +kernel) (by decide +kernel)
set_option maxRecDepth 100000 in
theorem st_ok14 : st_ok (14, [109, 97, 116, 114, 105, 120, 32, 49, 32, 49, 59, 114, 111, 119, 32, 49, 59, 114, 111, 119]) := st_okof [625, 626, 627, 628, 629, 630, 631, 632, 633, 634, 635, 636, 637, 638, 639, 640, 641, 642, 643, 644, 645, 646, 647] (by decide +kernel) (by decide +kernel)
set_option maxRecDepth 100000 in
theorem st_ok15 : st_ok (15, [109, 97, 116, 114, 105, 120, 32, 49, 32, 49, 59, 112, 114, 105, 109, 101, 32, 57, 56]) := st_okof [649, 650, 651, 652, 653, 654, 655, 656, 657, 658, 659, 660, 661, 662, 663, 664, 665, 666, 667, 668, 669, 670] (by decide +kernel) (by decide +kernel)
set_option maxRecDepth 100000 in
theorem st_ok16 : st_ok (16, [109, 97, 116, 114, 105, 120, 32, 49, 32, 49, 59, 112, 114, 105, 109, 101, 32, 57, 49]) := st_okof [672, 673, 674, 675, 676, 677, 678, 679, 680, 681, 682, 683, 684, 685, 686, 687, 688, 689, 690, 691, 692, 693] (by decide +kernel) (by decide +kernel)
set_option maxRecDepth 100000 in
theorem st_ok17 : st_ok (17, [109, 97, 116, 114, 105, 120, 32, 49, 32, 49, 59, 112, 114, 105, 109, 101, 32, 50, 59, 112, 114, 105, 109, 101, 32, 50]) := st_okof [695, 696, 697, 698, 699, 700, 701, 702, 703, 704, 705, 706, 707, 708, 709, 710, 711, 712, 713, 714, 715, 716, 717, 718, 719, 720, 721, 722, 723] (by decide +kernel) (by decide +kernel)
set_option maxRecDepth 100000 in
theorem st_ok18 : st_ok (18, [109, 97, 116, 114, 105, 120, 32, 49, 32, 49, 59, 112, 114, 105, 109, 101, 32, 50, 59, 112, 114, 105, 109, 101, 32, 51, 59, 112, 114, 105, 109, 101, 32, 53, 59, 112, 114, 105, 109, 101, 32, 55, 59, 112, 114, 105, 109, 101, 32, 49, 49, 59, 112, 114, 105, 109, 101, 32, 49, 51, 59, 112, 114, 105, 109, 101]) := st_okof [725, 726, 727, 728, 729, 730, 731, 732, 733, 734, 735, 736, 737, 738, 739, 740, 741, 742, 743, 744, 745, 746, 747, 748, 749, 750, 751, 752, 753, 754, 755, 756, 757, 758, 759, 760, 761, 762, 763, 764, 765, 766, 767, 768, 769, 770, 771, 772, 773, 774, 775, 776, 777, 778, 779, 780, 781, 782, 783, 784, 785, 786, 787, 788, 789, 790, 791, 792, 793] (by decide +kernel) (by decide +kernel)
set_option maxRecDepth 100000 in
theorem st_ok19 : st_ok (19, [109, 97, 116, 114, 105, 120, 32, 50, 32, 50, 59, 112, 114, 105, 109, 101, 32, 50, 59, 114, 111, 119, 32, 45, 48, 44, 45, 32, 50, 48, 59]) := st_okof [795, 796, 797, 798, 799, 800, 801, 802, 803, 804, 805, 806, 807, 808, 809, 810, 811, 812, 813, 814, 815, 816, 817, 818, 819, 820, 821, 822, 823, 824, 825, 826, 827, 828] (by decide +kernel) (by decide +kernel)
theorem st_nd : ∀ q ∈ am_SL, st_ok q := List.forall_mem_cons.mpr ⟨st_ok0, List.forall_mem_cons.mpr ⟨st_ok1, List.forall_mem_cons.mpr ⟨st_ok2, List.forall_mem_cons.mpr ⟨st_ok3, List.forall_mem_cons.mpr ⟨st_ok4, List.forall_mem_cons.mpr ⟨st_ok5, List.forall_mem_cons.mpr ⟨st_ok6, List.forall_mem_cons.mpr ⟨st_ok7, List.forall_mem_cons.mpr ⟨st_ok8, List.forall_mem_cons.mpr ⟨st_ok29, List.forall_mem_cons.mpr ⟨st_ok30, List.forall_mem_cons.mpr ⟨st_ok31, List.forall_mem_cons.mpr ⟨st_ok9, List.forall_mem_cons.mpr ⟨st_ok10, List.forall_mem_cons.mpr ⟨st_ok11, List.forall_mem_cons.mpr ⟨st_ok12, List.forall_mem_cons.mpr ⟨st_ok13, List.forall_mem_cons.mpr ⟨st_ok14, List.forall_mem_cons.mpr ⟨st_ok15, List.forall_mem_cons.mpr ⟨st_ok16, List.forall_mem_cons.mpr ⟨st_ok17, List.forall_mem_cons.mpr ⟨st_ok18, List.forall_mem_cons.mpr ⟨st_ok19, fun _ h => absurd h List.not_mem_nil⟩⟩⟩⟩⟩⟩⟩⟩⟩⟩⟩⟩⟩⟩⟩⟩⟩⟩⟩⟩⟩⟩⟩
theorem st_uq : ∀ q ∈ am_SL, ∀ q2 ∈ am_SL, q.1 = q2.1 → q = q2 := by decide +kernel
theorem st_nc : ∀ q ∈ am_NC, Cond.not (.castable q.1 q.2) ∈ st_F := fun q h => absurd h List.not_mem_nil
theorem st_txn : ∀ q ∈ am_TX, q.2.2.2 < 32 ∧ am_TX.getD q.2.2.2 ("", 0, "", 0) = q := by decide +kernel
def st_P : List Nat := [498, 679, 681, 682, 683, 684, 690, 1001, 1002, 1003, 1004, 1005, 1006, 1007, 1008, 1009, 1010, 1011, 1012, 1013, 383, 437, 446, 453, 799, 982, 993, 1027, 1206, 893, 906, 852]
set_option maxRecDepth 100000 in
theorem st_str : ∀ i, i < 32 → pw_tbl[st_P.getD i 0]? = some (Cond.stringRef (am_TX.getD i ("", 0, "", 0)).1 (am_TX.getD i ("", 0, "", 0)).2.1 (am_TX.getD i ("", 0, "", 0)).2.2.1) := by decide +kernel
def st_I : List Nat := [142, 119, 279, 73, 95, 230, 193, 242, 263, 89, 65, 497, 696]
set_option maxRecDepth 100000 in
theorem st_inst : ∀ i, i < 13 → pw_tbl[st_I.getD i 0]? = some (Cond.instantiable (am_q i).1 (am_q i).2.2) := by decide +kernel
set_option maxRecDepth 100000 in
theorem st_l1 : Cond.laysStatic Bundle.tN "UNASSIGNED_STACK" Bundle.steD ∈ pw_tbl := List.mem_of_getElem? (i := 369) (by decide +kernel)
set_option maxRecDepth 100000 in
theorem st_l2 : Cond.laysStatic Bundle.tN "SUPPRESSED_SENTINEL" Bundle.listD ∈ pw_tbl := List.mem_of_getElem? (i := 371) (by decide +kernel)
set_option maxRecDepth 100000 in
theorem st_it : Cond.initialized Bundle.tN ∈ pw_tbl := List.mem_of_getElem? (i := 58) (by decide +kernel)
set_option maxRecDepth 100000 in
theorem st_cs : Cond.laysStatic "java/lang/String" "COMPACT_STRINGS" "Z" ∈ pw_tbl := List.mem_of_getElem? (i := 515) (by decide +kernel)
set_option maxRecDepth 100000 in
theorem st_is : Cond.initialized "java/lang/String" ∈ pw_tbl := List.mem_of_getElem? (i := 48) (by decide +kernel)
set_option maxRecDepth 100000 in
theorem st_sf : Cond.laysStatic "jdk/internal/util/Preconditions" "SIOOBE_FORMATTER" "Ljava/util/function/BiFunction;" ∈ pw_tbl := List.mem_of_getElem? (i := 596) (by decide +kernel)
set_option maxRecDepth 100000 in
theorem st_ip : Cond.initialized "jdk/internal/util/Preconditions" ∈ pw_tbl := List.mem_of_getElem? (i := 54) (by decide +kernel)
set_option maxRecDepth 100000 in
theorem st_ao : Cond.arrayOver (.object "RankDesk$State") ∈ pw_tbl := List.mem_of_getElem? (i := 285) (by decide +kernel)
set_option maxRecDepth 100000 in
theorem st_lp : Cond.laysStatic "RankDeskLaw" "PRIMES" "[I" ∈ pw_tbl := List.mem_of_getElem? (i := 492) (by decide +kernel)
set_option maxRecDepth 100000 in
theorem st_ipr : Cond.initialized "RankDeskLaw" ∈ pw_tbl := List.mem_of_getElem? (i := 34) (by decide +kernel)
set_option maxRecDepth 100000 in
theorem st_lo : Cond.laysStatic "java/lang/Integer" "DigitOnes" "[B" ∈ pw_tbl := List.mem_of_getElem? (i := 668) (by decide +kernel)
set_option maxRecDepth 100000 in
theorem st_lt : Cond.laysStatic "java/lang/Integer" "DigitTens" "[B" ∈ pw_tbl := List.mem_of_getElem? (i := 670) (by decide +kernel)
set_option maxRecDepth 100000 in
theorem st_ii : Cond.initialized "java/lang/Integer" ∈ pw_tbl := List.mem_of_getElem? (i := 57) (by decide +kernel)
set_option maxRecDepth 100000 in
theorem st_r1 : Cond.isRef (.static Bundle.tN "UNASSIGNED_STACK" Bundle.steD) ∈ st_F := by decide +kernel
set_option maxRecDepth 100000 in
theorem st_r2 : Cond.isRef (.static Bundle.tN "SUPPRESSED_SENTINEL" Bundle.listD) ∈ st_F := by decide +kernel
set_option maxRecDepth 100000 in
theorem st_r3 : Cond.isRef (.static "jdk/internal/util/Preconditions" "SIOOBE_FORMATTER" "Ljava/util/function/BiFunction;") ∈ st_F := by decide +kernel
set_option maxRecDepth 100000 in
theorem st_r4 : Cond.eq (.static "java/lang/String" "COMPACT_STRINGS" "Z") (.int 1) ∈ st_F := by decide +kernel
/-- what is given of a static array -/
def sn_need (T : Term) (ty : FieldType) (n : Nat) (g : Nat → Int32) : List Cond := [.arrayOf T ty, .eq (.length T) (.int (Int32.ofNat n))] ++ (List.range n).map (fun j => .eq (.elem T (.int (Int32.ofNat j))) (.int (g j)))
theorem sn_of {T : Term} {ty : FieldType} {n : Nat} {g : Nat → Int32} (pl : List Nat) (h2 : (sn_need T ty n g).map some = pl.map (fun i => st_F[i]?)) : ∀ w ∈ sn_need T ty n g, w ∈ st_F := by
  intro w hw
  have h3 : some w ∈ (sn_need T ty n g).map some := List.mem_map.mpr ⟨w, hw, rfl⟩
  rw [h2] at h3
  obtain ⟨i, -, hi⟩ := List.mem_map.mp h3
  exact List.mem_of_getElem? hi
set_option maxRecDepth 100000 in
theorem sn_p : ∀ w ∈ sn_need (.static "RankDeskLaw" "PRIMES" "[I") .int 25 (fun j => prT.getD j 0), w ∈ st_F := sn_of [7, 8, 9, 10, 11, 12, 13, 14, 15, 16, 17, 18, 19, 20, 21, 22, 23, 24, 25, 26, 27, 28, 29, 30, 31, 32, 33] (by decide +kernel)
set_option maxRecDepth 100000 in
theorem sn_o : ∀ w ∈ sn_need (.static "java/lang/Integer" "DigitOnes" "[B") .byte 100 dgO, w ∈ st_F := sn_of [40, 41, 42, 43, 44, 45, 46, 47, 48, 49, 50, 51, 52, 53, 54, 55, 56, 57, 58, 59, 60, 61, 62, 63, 64, 65, 66, 67, 68, 69, 70, 71, 72, 73, 74, 75, 76, 77, 78, 79, 80, 81, 82, 83, 84, 85, 86, 87, 88, 89, 90, 91, 92, 93, 94, 95, 96, 97, 98, 99, 100, 101, 102, 103, 104, 105, 106, 107, 108, 109, 110, 111, 112, 113, 114, 115, 116, 117, 118, 119, 120, 121, 122, 123, 124, 125, 126, 127, 128, 129, 130, 131, 132, 133, 134, 135, 136, 137, 138, 139, 140, 141] (by decide +kernel)
set_option maxRecDepth 100000 in
theorem sn_t : ∀ w ∈ sn_need (.static "java/lang/Integer" "DigitTens" "[B") .byte 100 dgT, w ∈ st_F := sn_of [143, 144, 145, 146, 147, 148, 149, 150, 151, 152, 153, 154, 155, 156, 157, 158, 159, 160, 161, 162, 163, 164, 165, 166, 167, 168, 169, 170, 171, 172, 173, 174, 175, 176, 177, 178, 179, 180, 181, 182, 183, 184, 185, 186, 187, 188, 189, 190, 191, 192, 193, 194, 195, 196, 197, 198, 199, 200, 201, 202, 203, 204, 205, 206, 207, 208, 209, 210, 211, 212, 213, 214, 215, 216, 217, 218, 219, 220, 221, 222, 223, 224, 225, 226, 227, 228, 229, 230, 231, 232, 233, 234, 235, 236, 237, 238, 239, 240, 241, 242, 243, 244] (by decide +kernel)
theorem sn_T {T : Term} {ty : FieldType} {n : Nat} {g : Nat → Int32} {s : State} {args : Array Value} {A : Nat → Prop} (hn : n < 2 ^ 31) (h : ∀ w ∈ sn_need T ty n g, w ∈ st_F) (hf : ∀ w ∈ st_F, w.before args s = true) (hA : ∀ a : Nat, a < s.heap.size → ¬ A a) : ∃ t : Nat, T.eval args s none [] s = some (.ref t) ∧ va_T ty t n (fun j => .int (g j)) A s s.heap := by
  have hw0 : ∀ w ∈ sn_need T ty n g, w.before args s = true := fun w hw => hf w (h w hw)
  unfold sn_need at hw0
  have har := hw0 _ (List.mem_append_left _ List.mem_cons_self)
  have hle := hw0 _ (List.mem_append_left _ (List.mem_cons_of_mem _ List.mem_cons_self))
  exact va_Tof (f := fun j => .int (g j)) (A := A) hn har (va_eqt hle) (fun j hj => va_eqt (hw0 _ (List.mem_append_right _ (List.mem_map.mpr ⟨j, List.mem_range.mpr hj, rfl⟩)))) hA
theorem am_TX_get : ∀ q ∈ am_TX, ∀ s : State, ∀ args : Array Value, (∀ w ∈ pw_tbl, w.before args s = true) → (Cond.stringRef q.1 q.2.1 q.2.2.1).before args s = true := by
  intro q hq s args hts
  obtain ⟨h1, h2⟩ := st_txn q hq
  have h := hts _ (List.mem_of_getElem? (st_str _ h1))
  rw [h2] at h
  exact h
theorem am_cl_q {c : Nat} {q : vw_C} (h : am_cl[c]? = some q) : c < 13 ∧ am_q c = q := by
  refine ⟨(List.getElem?_eq_some_iff.mp h).1, ?_⟩
  unfold am_q
  rw [List.getD_eq_getElem?_getD, h]
  rfl
/-- the classes as the tables have them -/
theorem st_K {s : State} {args : Array Value} (hts : ∀ w ∈ pw_tbl, w.before args s = true) : ∃ D : va_G, va_K D am_cl [] s := by
  have h0 : ∀ c : Nat, ∃ D : ClassId × (Nat → Nat), ∀ q : vw_C, am_cl[c]? = some q → u_Kn s q.1 q.2.1 q.2.2 D.1 D.2 := by
    intro c
    cases h : am_cl[c]? with
    | none => exact ⟨(0, fun _ => 0), fun q hq => by cases hq⟩
    | some q =>
      obtain ⟨h1, h2⟩ := am_cl_q h
      have hi := hts _ (List.mem_of_getElem? (st_inst c h1))
      rw [h2] at hi
      obtain ⟨cC, iS, hk⟩ := u_known (ws := am_W) (fun w hw => hts w (List.mem_filter.mp hw).1) (am_cl_ok c q h).2.1 hi
      exact ⟨(cC, iS), fun q2 hq => by cases hq; exact hk⟩
  obtain ⟨f, hf⟩ := Classical.axiomOfChoice h0
  exact ⟨(fun c => (f c).1, fun c => (f c).2), fun c q hq => hf c q hq, fun k q hk => by simp at hk⟩
/-- the texts' places -/
theorem st_T {s : State} {args : Array Value} {A : Nat → Prop} (hf : ∀ w ∈ st_F, w.before args s = true) (hA : ∀ a : Nat, a < s.heap.size → ¬ A a) : ∃ f : Nat → Nat × Nat, (∀ i, i < 32 → (st_tm i).eval args s none [] s = some (.ref (f i).1)) ∧
    ∀ q ∈ am_SL, va_O "java/lang/String" (f q.1).1 A s s.heap ∧ va_OF "java/lang/String" "coder" "B" (.int 0) (f q.1).1 A s s.heap ∧ va_OF "java/lang/String" "value" "[B" (.ref (f q.1).2) (f q.1).1 A s s.heap ∧ va_T .byte (f q.1).2 q.2.length (fun j => .int (q.2.getD j 0)) A s s.heap := by
  have h0 : ∀ i : Nat, ∃ z : Nat × Nat, (i < 32 → (st_tm i).eval args s none [] s = some (.ref z.1)) ∧ ∀ q ∈ am_SL, q.1 = i → va_O "java/lang/String" z.1 A s s.heap ∧ va_OF "java/lang/String" "coder" "B" (.int 0) z.1 A s s.heap ∧ va_OF "java/lang/String" "value" "[B" (.ref z.2) z.1 A s s.heap ∧ va_T .byte z.2 q.2.length (fun j => .int (q.2.getD j 0)) A s s.heap := by
    intro i
    by_cases hi : i < 32
    · obtain ⟨a, c, cA, kA, q1, q2, q3, q4, q5, q6, -⟩ := Cond.exactly_spec (args := args) (first := s) (o := none) (s := s) (idx := []) (t := st_tm i) (cls := "java/lang/String") (hf _ (st_ex i hi))
      by_cases hs : ∃ q ∈ am_SL, q.1 = i
      · obtain ⟨q, hq, rfl⟩ := hs
        obtain ⟨⟨-, hN0⟩, hw⟩ := st_nd q hq
        have hN : q.2.length < 2 ^ 31 := Nat.lt_of_lt_of_le hN0 (by decide)
        have hw0 : ∀ w ∈ st_need q, w.before args s = true := fun w h => hf w (hw w h)
        unfold st_need at hw0
        have hco := hw0 _ (List.mem_append_left _ List.mem_cons_self)
        have har := hw0 _ (List.mem_append_left _ (List.mem_cons_of_mem _ List.mem_cons_self))
        have hle := hw0 _ (List.mem_append_left _ (List.mem_cons_of_mem _ (List.mem_cons_of_mem _ List.mem_cons_self)))
        obtain ⟨t, ht, hT⟩ := va_Tof (f := fun j => .int (q.2.getD j 0)) (A := A) hN har (va_eqt hle) (fun j hj => va_eqt (hw0 _ (List.mem_append_right _ (List.mem_map.mpr ⟨j, List.mem_range.mpr hj, rfl⟩)))) hA
        refine ⟨(a, t), fun _ => q1, fun q2' hq2 e => ?_⟩
        have := st_uq q2' hq2 q hq e
        subst this
        exact ⟨⟨cA, q3, q5, by rw [q6]; exact q2, hA a (Array.getElem?_eq_some_iff.mp q3).1⟩, vk_OFof q1 (va_eqt hco) hA, vk_OFof q1 ht hA, hT⟩
      · exact ⟨(a, 0), fun _ => q1, fun q hq e => absurd ⟨q, hq, e⟩ hs⟩
    · exact ⟨(0, 0), fun h => absurd h hi, fun q hq e => absurd (e ▸ (st_nd q hq).1.1) hi⟩
  obtain ⟨f, hf⟩ := Classical.axiomOfChoice h0
  exact ⟨f, fun i hi => (hf i).1 hi, fun q hq => (hf q.1).2 q hq rfl⟩
theorem st_tr {l : Launch} (h : l.flags = flags0) : l.stackTraces = false := by
  unfold Launch.stackTraces
  rw [h]
  decide +kernel
theorem am_N_ot {w : Cond} (h : w ∈ am_N) : w.onTables = true := by
  have hg := (List.mem_filter.mp h).2
  unfold am_nw at hg
  split at hg
  · rfl
  · rfl
  · rfl
  · cases hg
/-- an environment with these places -/
def st_en (b z t1 t2 t3 : Nat) (f : Nat → Nat × Nat) : am_E := (fun k => if k = 3000 then b else if k = 4000 then z else if k = 4001 then t1 else if k = 4002 then t2 else if k = 4003 then t3 else if k < 2000 then (f (k - 1000)).1 else (f (k - 2000)).2, fun _ => 0)
theorem st_1 {b z t1 t2 t3 : Nat} {f : Nat → Nat × Nat} {i : Nat} (h : i < 32) : (st_en b z t1 t2 t3 f).1 (1000 + i) = (f i).1 := by
  show (if 1000 + i = 3000 then b else if 1000 + i = 4000 then z else if 1000 + i = 4001 then t1 else if 1000 + i = 4002 then t2 else if 1000 + i = 4003 then t3 else if 1000 + i < 2000 then (f (1000 + i - 1000)).1 else (f (1000 + i - 2000)).2) = _
  rw [if_neg (by omega), if_neg (by omega), if_neg (by omega), if_neg (by omega), if_neg (by omega), if_pos (by omega), Nat.add_sub_cancel_left]
theorem st_2 {b z t1 t2 t3 : Nat} {f : Nat → Nat × Nat} {i : Nat} (h : i < 32) : (st_en b z t1 t2 t3 f).1 (2000 + i) = (f i).2 := by
  show (if 2000 + i = 3000 then b else if 2000 + i = 4000 then z else if 2000 + i = 4001 then t1 else if 2000 + i = 4002 then t2 else if 2000 + i = 4003 then t3 else if 2000 + i < 2000 then (f (2000 + i - 1000)).1 else (f (2000 + i - 2000)).2) = _
  rw [if_neg (by omega), if_neg (by omega), if_neg (by omega), if_neg (by omega), if_neg (by omega), if_neg (by omega), Nat.add_sub_cancel_left]
theorem st_3 {b z t1 t2 t3 : Nat} {f : Nat → Nat × Nat} : (st_en b z t1 t2 t3 f).1 3000 = b := rfl
/-- what lies below -/
theorem st_B {s : State} {args : Array Value} {l : Launch} {b : Nat} (hl : l.flags = flags0) (hts : ∀ w ∈ pw_tbl, w.before args s = true) (hf : ∀ w ∈ st_F, w.before args s = true) : ∃ en : am_E, en.1 3000 = b ∧ am_Base am_TX (fun q : Nat => s.heap.size ≤ q) en.1 l s s.heap := by
  have hA : ∀ a : Nat, a < s.heap.size → ¬ s.heap.size ≤ a := fun a h h2 => absurd h (Nat.not_lt.mpr h2)
  obtain ⟨f, h1, h2⟩ := st_T (A := fun q : Nat => s.heap.size ≤ q) hf hA
  have hZ : va_Zq "jdk/internal/util/Preconditions" "SIOOBE_FORMATTER" "Ljava/util/function/BiFunction;" (fun q : Nat => s.heap.size ≤ q) s s.heap := va_Zqof (hts _ st_sf) (hts _ st_ip) (hf _ st_r3) hA
  have hz : ∃ z : Nat, va_Z "jdk/internal/util/Preconditions" "SIOOBE_FORMATTER" "Ljava/util/function/BiFunction;" .null (fun q : Nat => s.heap.size ≤ q) s s.heap ∨ va_Z "jdk/internal/util/Preconditions" "SIOOBE_FORMATTER" "Ljava/util/function/BiFunction;" (.ref z) (fun q : Nat => s.heap.size ≤ q) s s.heap := by
    rcases hZ with h | ⟨t, h⟩
    · exact ⟨0, Or.inl h⟩
    · exact ⟨t, Or.inr h⟩
  obtain ⟨z, hz⟩ := hz
  obtain ⟨t1, e1, T1⟩ := sn_T (A := fun q : Nat => s.heap.size ≤ q) (by decide) sn_p hf hA
  obtain ⟨t2, e2, T2⟩ := sn_T (A := fun q : Nat => s.heap.size ≤ q) (by decide) sn_o hf hA
  obtain ⟨t3, e3, T3⟩ := sn_T (A := fun q : Nat => s.heap.size ≤ q) (by decide) sn_t hf hA
  refine ⟨st_en b z t1 t2 t3 f, st_3, st_tr hl, fun q hq => hq, vx_Zqof (hts _ st_l1) (hts _ st_it) (hf _ st_r1) hA, vx_Zqof (hts _ st_l2) (hts _ st_it) (hf _ st_r2) hA, ?_, fun w hw => va_Nw.of (am_N_ot hw) (hts w (List.mem_filter.mp hw).1), fun q hq => va_Nc.of (hf _ (st_nc q hq)), va_AO.of (hts _ st_ao), ?_, va_Zof (hts _ st_cs) (hts _ st_is) (va_eqi (hf _ st_r4)) hA, hz, ⟨va_Zof (hts _ st_lp) (hts _ st_ipr) e1 hA, T1⟩, ⟨va_Zof (hts _ st_lo) (hts _ st_ii) e2 hA, T2⟩, va_Zof (hts _ st_lt) (hts _ st_ii) e3 hA, T3⟩
  · intro q hq
    obtain ⟨e1, e2⟩ := st_txn q hq
    rw [st_1 e1]
    have h := h1 _ e1
    unfold st_tm at h
    rw [e2] at h
    exact vk_R.of (am_TX_get q hq s args hts) h
  · intro q hq
    have e1 := (st_nd q hq).1.1
    unfold am_str1
    rw [st_1 e1, st_2 e1]
    exact h2 q hq
def R_law : String := "RankDeskLaw"
def lw_P (b : Addr) (xs : List Int32) (args : Array Value) (s : State) : Prop := args = #[.ref b] ∧ s.IntsAt b xs ∧ xs.length ≤ 260 ∧ (Jvm.Cond.and given_1 narrow_1).before args s = true
def lw_Q (_ : Array Value) (s : State) (o : Outcome) (t : State) : Prop := o = .returned (some (.int 1)) ∧ Framed s o t [] 600086 7301442
def lw_Z (below : List Frame) (a : Array Value) (s : State) : State → Prop := fun t => ∃ o, t.status = .running ∧ Ended t below o ∧ lw_Q a s o t
/-- what holds at the law's entry -/
def lw_At (p : Program) (s : State) (m : MethodId) (meth : Method) (c : Code) (b L : Nat) (xs : Nat → Int32) : Prop :=
  (p.tables.exec = Jvm.exec ∧ c.code = code ∧ meth.sig.returnType = ret ∧ c.maxLocals = 8 ∧ s.vm.findClass R_law = some m.cls ∧ (∀ w ∈ lw_tbl, w.before #[Value.ref b] s = true) ∧ va_X b L xs s s.heap ∧ b < s.heap.size ∧ meth.locks = false ∧ (Jvm.Cond.and given_1 narrow_1).before #[Value.ref b] s = true) ∧ c.exceptionTable.toList = [] ∧ meth.name = "law"
theorem st_M {xs : Nat → Int32} {N : Int32} {en : am_E} : am_ws en (mG xs N 0 [] [] []) = [] := rfl
theorem whole_start {p : Program} {e : Env} {s : State} {m : MethodId} {below : List Frame} {meth : Method} {c : Code} (l : Launch) (hflags : l.flags = flags0) {b L : Nat} {xs : Nat → Int32} (hL : L ≤ 260) (C0 : lw_At p s m meth c b L xs) : W p l e room_1 s m #[Value.ref b] below meth c s.heap [] 0 0 (lw_Z below #[Value.ref b] s) (entryFrame m ([Value.ref b] : List Value).toArray 8) := by
  obtain ⟨⟨hx, hcode, hret, hml, hown, hts0, hX, hb, hlk, hgv⟩, htab, hnm⟩ := C0
  have hts := pw_hts hts0
  have hf : ∀ w ∈ st_F, w.before #[Value.ref b] s = true := flat_of_before _ hgv
  obtain ⟨D, hK⟩ := st_K hts
  obtain ⟨en, hen, hB⟩ := st_B (b := b) hflags hts hf
  have hC : am_Ctx 80 c_law p room_1 s m #[Value.ref b] meth c := ⟨⟨hx, hcode, hml, hret⟩, ⟨hown, fun w hw => hts w (List.mem_filter.mp hw).1, hlk, hnm⟩, htab, ⟨by decide, by decide⟩, mf_law⟩
  have hWt : am_Wt D (fun q : Nat => s.heap.size ≤ q) en (mG xs (nI L) 0 [] [] []) s s.heap := by
    refine ⟨fun k q h => by rw [st_M] at h; simp at h, hK, fun k sh h => ?_, ⟨fun i j p q h => by rw [st_M] at h; simp at h, fun k q h => by rw [st_M] at h; simp at h⟩, ⟨L, ?_, ?_, by omega, ?_⟩, Nat.zero_le _⟩
    · have h0 : ([] : List (Nat × Nat))[k]? = some sh := h
      simp at h0
    · rw [hen, st_Mx]
      exact hX
    · exact st_Mn.symm
    · rw [hen]
      exact Nat.not_le.mpr hb
  have hR := lw_begin (xs := xs) (L := L) (by omega)
  have hent := am_entry en.1 (as := [.ref 3000]) (n := 8) (by decide)
  have hent2 : ([Value.ref 3000] : List Value).map (am_v en.1) = [Value.ref b] := by
    show [Value.ref (en.1 3000)] = [Value.ref b]
    rw [hen]
  rw [hent2] at hent
  rw [lg_entry_eq]
  refine am_mono ?_ (hR D (fun q : Nat => s.heap.size ≤ q) en p l e room_1 s m #[Value.ref b] below meth c s.heap [] 0 0 (1 + (119 + (120 + (120 + 4)))) (1000 * (1 + (119 + (120 + (120 + 4))))) _ hC hB hWt va_S.rf hent ⟨by omega, by omega, ?_, ?_⟩)
  · rintro t ⟨o, hrun, hend, ⟨⟨v, μ', en', ⟨σ, ρ, hq, -⟩, hext, hlen, ho, hw, hfr⟩, Lo, ⟨hr1, hr2, hr3⟩, hfree⟩ | ⟨q, ho, E, ce, Lo, ⟨μ', en', ⟨σ, ρ, hq, -⟩, -⟩, -⟩⟩
    · cases hq
      refine ⟨o, hrun, hend, ho, ⟨_, ho⟩, hr2, hr3.weaken (fun x hx1 hx2 => absurd hx2 (Nat.not_lt.mpr (hfree x hx1))) (by omega) (by omega)⟩
    · cases hq
  · show 1 + (119 + (120 + (120 + 4))) ≤ 600086
    omega
  · show 1000 * (1 + (119 + (120 + (120 + 4)))) ≤ 7301442
    omega
