def RX0 : String := "RankDesk$Certificate"
def TX0 : u_T := fun k => match k with
  | 0 => ("RankDesk$Certificate", "vector", "LRankDesk$Matrix;", true)
  | 1 => ("RankDesk$Certificate", "relations", "LRankDesk$Matrix;", true)
  | 2 => ("RankDesk$Certificate", "claimedRows", "I", false)
  | _ => ("RankDesk$Certificate", "claimedColumns", "I", false)
def tyX0 : Nat → FieldType := fun k => match k with
  | 0 => .object "RankDesk$Matrix"
  | 1 => .object "RankDesk$Matrix"
  | 2 => .int
  | _ => .int
abbrev wsX00 : List Cond := u_ws RX0 TX0 4
theorem nmX0 : ∀ a, a < 4 → ∀ b, b < 4 → a ≠ b → (TX0 a).2.1 ≠ (TX0 b).2.1 := by decide +kernel
theorem tyX0_ok : ∀ k, k < 4 → parseFieldDescriptor (TX0 k).2.2.1 = some (tyX0 k) := by decide +kernel
def RX1 : String := "RankDesk$Guess"
def TX1 : u_T := fun k => match k with
  | 0 => ("RankDesk$Guess", "place", "I", false)
  | 1 => ("RankDesk$Guess", "rank", "I", false)
  | 2 => ("RankDesk$Guess", "rows", "I", false)
  | _ => ("RankDesk$Guess", "columns", "I", false)
def tyX1 : Nat → FieldType := fun k => match k with
  | 0 => .int
  | 1 => .int
  | 2 => .int
  | _ => .int
abbrev wsX10 : List Cond := u_ws RX1 TX1 4
theorem nmX1 : ∀ a, a < 4 → ∀ b, b < 4 → a ≠ b → (TX1 a).2.1 ≠ (TX1 b).2.1 := by decide +kernel
theorem tyX1_ok : ∀ k, k < 4 → parseFieldDescriptor (TX1 k).2.2.1 = some (tyX1 k) := by decide +kernel
def RX2 : String := "RankDesk$History"
def TX2 : u_T := fun k => match k with
  | 0 => ("RankDesk$History", "size", "I", false)
  | 1 => ("RankDesk$History", "top", "I", false)
  | _ => ("RankDesk$History", "ring", "[LRankDesk$State;", true)
def tyX2 : Nat → FieldType := fun k => match k with
  | 0 => .int
  | 1 => .int
  | _ => .array (.object "RankDesk$State")
abbrev wsX20 : List Cond := u_ws RX2 TX2 3
theorem nmX2 : ∀ a, a < 3 → ∀ b, b < 3 → a ≠ b → (TX2 a).2.1 ≠ (TX2 b).2.1 := by decide +kernel
theorem tyX2_ok : ∀ k, k < 3 → parseFieldDescriptor (TX2 k).2.2.1 = some (tyX2 k) := by decide +kernel
def RX3 : String := "RankDesk$Input"
def TX3 : u_T := fun k => match k with
  | 0 => ("RankDesk$Input", "length", "I", false)
  | _ => ("RankDesk$Input", "bytes", "[I", true)
def tyX3 : Nat → FieldType := fun k => match k with
  | 0 => .int
  | _ => .array .int
abbrev wsX30 : List Cond := u_ws RX3 TX3 2
theorem nmX3 : ∀ a, a < 2 → ∀ b, b < 2 → a ≠ b → (TX3 a).2.1 ≠ (TX3 b).2.1 := by decide +kernel
theorem tyX3_ok : ∀ k, k < 2 → parseFieldDescriptor (TX3 k).2.2.1 = some (tyX3 k) := by decide +kernel
def RX4 : String := "RankDesk$Matrix"
def TX4 : u_T := fun k => match k with
  | 0 => ("RankDesk$Matrix", "height", "I", false)
  | 1 => ("RankDesk$Matrix", "width", "I", false)
  | _ => ("RankDesk$Matrix", "cells", "[J", true)
def tyX4 : Nat → FieldType := fun k => match k with
  | 0 => .int
  | 1 => .int
  | _ => .array .long
abbrev wsX40 : List Cond := u_ws RX4 TX4 3
theorem nmX4 : ∀ a, a < 3 → ∀ b, b < 3 → a ≠ b → (TX4 a).2.1 ≠ (TX4 b).2.1 := by decide +kernel
theorem tyX4_ok : ∀ k, k < 3 → parseFieldDescriptor (TX4 k).2.2.1 = some (tyX4 k) := by decide +kernel
def RX5 : String := "RankDesk$Output"
def TX5 : u_T := fun k => match k with
  | 0 => ("RankDesk$Output", "length", "I", false)
  | _ => ("RankDesk$Output", "bytes", "[I", true)
def tyX5 : Nat → FieldType := fun k => match k with
  | 0 => .int
  | _ => .array .int
abbrev wsX50 : List Cond := u_ws RX5 TX5 2
theorem nmX5 : ∀ a, a < 2 → ∀ b, b < 2 → a ≠ b → (TX5 a).2.1 ≠ (TX5 b).2.1 := by decide +kernel
theorem tyX5_ok : ∀ k, k < 2 → parseFieldDescriptor (TX5 k).2.2.1 = some (tyX5 k) := by decide +kernel
def RX6 : String := "RankDesk$Parser"
def TX6 : u_T := fun k => match k with
  | 0 => ("RankDesk$Parser", "rowsTold", "I", false)
  | 1 => ("RankDesk$Parser", "errorCode", "I", false)
  | 2 => ("RankDesk$Parser", "errorPosition", "I", false)
  | 3 => ("RankDesk$Parser", "input", "LRankDesk$Input;", true)
  | 4 => ("RankDesk$Parser", "draft", "LRankDesk$State;", true)
  | 5 => ("RankDesk$Parser", "kind", "I", false)
  | 6 => ("RankDesk$Parser", "start", "I", false)
  | 7 => ("RankDesk$Parser", "end", "I", false)
  | _ => ("RankDesk$Parser", "number", "I", false)
def tyX6 : Nat → FieldType := fun k => match k with
  | 0 => .int
  | 1 => .int
  | 2 => .int
  | 3 => .object "RankDesk$Input"
  | 4 => .object "RankDesk$State"
  | 5 => .int
  | 6 => .int
  | 7 => .int
  | _ => .int
abbrev wsX60 : List Cond := u_ws RX6 TX6 9
theorem nmX6 : ∀ a, a < 9 → ∀ b, b < 9 → a ≠ b → (TX6 a).2.1 ≠ (TX6 b).2.1 := by decide +kernel
theorem tyX6_ok : ∀ k, k < 9 → parseFieldDescriptor (TX6 k).2.2.1 = some (tyX6 k) := by decide +kernel
def RX7 : String := "RankDesk$Reckoner"
def TX7 : u_T := fun k => match k with
  | 0 => ("RankDesk$Reckoner", "relation", "LRankDesk$Matrix;", true)
  | 1 => ("RankDesk$Reckoner", "work", "LRankDesk$Matrix;", true)
  | 2 => ("RankDesk$Reckoner", "other", "LRankDesk$Matrix;", true)
  | _ => ("RankDesk$Reckoner", "minors", "[J", true)
def tyX7 : Nat → FieldType := fun k => match k with
  | 0 => .object "RankDesk$Matrix"
  | 1 => .object "RankDesk$Matrix"
  | 2 => .object "RankDesk$Matrix"
  | _ => .array .long
abbrev wsX70 : List Cond := u_ws RX7 TX7 4
theorem nmX7 : ∀ a, a < 4 → ∀ b, b < 4 → a ≠ b → (TX7 a).2.1 ≠ (TX7 b).2.1 := by decide +kernel
theorem tyX7_ok : ∀ k, k < 4 → parseFieldDescriptor (TX7 k).2.2.1 = some (tyX7 k) := by decide +kernel
def RX8 : String := "RankDesk$RowSets"
def TX8 : u_T := fun k => match k with
  | 0 => ("RankDesk$RowSets", "reckoner", "LRankDesk$Reckoner;", true)
  | _ => ("RankDesk$RowSets", "areFree", "[Z", true)
def tyX8 : Nat → FieldType := fun k => match k with
  | 0 => .object "RankDesk$Reckoner"
  | _ => .array .boolean
abbrev wsX80 : List Cond := u_ws RX8 TX8 2
theorem nmX8 : ∀ a, a < 2 → ∀ b, b < 2 → a ≠ b → (TX8 a).2.1 ≠ (TX8 b).2.1 := by decide +kernel
theorem tyX8_ok : ∀ k, k < 2 → parseFieldDescriptor (TX8 k).2.2.1 = some (tyX8 k) := by decide +kernel
def RX9 : String := "RankDesk$State"
def TX9 : u_T := fun k => match k with
  | 0 => ("RankDesk$State", "matrix", "LRankDesk$Matrix;", true)
  | 1 => ("RankDesk$State", "guess", "LRankDesk$Guess;", true)
  | 2 => ("RankDesk$State", "certificate", "LRankDesk$Certificate;", true)
  | 3 => ("RankDesk$State", "primeCount", "I", false)
  | 4 => ("RankDesk$State", "newProbes", "I", false)
  | 5 => ("RankDesk$State", "repairTries", "I", false)
  | _ => ("RankDesk$State", "primes", "[I", true)
def tyX9 : Nat → FieldType := fun k => match k with
  | 0 => .object "RankDesk$Matrix"
  | 1 => .object "RankDesk$Guess"
  | 2 => .object "RankDesk$Certificate"
  | 3 => .int
  | 4 => .int
  | 5 => .int
  | _ => .array .int
abbrev wsX90 : List Cond := u_ws RX9 TX9 7
theorem nmX9 : ∀ a, a < 7 → ∀ b, b < 7 → a ≠ b → (TX9 a).2.1 ≠ (TX9 b).2.1 := by decide +kernel
theorem tyX9_ok : ∀ k, k < 7 → parseFieldDescriptor (TX9 k).2.2.1 = some (tyX9 k) := by decide +kernel
def RX10 : String := "RankDesk"
def TX10 : u_T := fun k => match k with
  | 0 => ("RankDesk", "input", "LRankDesk$Input;", true)
  | 1 => ("RankDesk", "draft", "LRankDesk$State;", true)
  | 2 => ("RankDesk", "parser", "LRankDesk$Parser;", true)
  | 3 => ("RankDesk", "output", "LRankDesk$Output;", true)
  | 4 => ("RankDesk", "reckoner", "LRankDesk$Reckoner;", true)
  | 5 => ("RankDesk", "rowSets", "LRankDesk$RowSets;", true)
  | 6 => ("RankDesk", "now", "LRankDesk$State;", true)
  | 7 => ("RankDesk", "trial", "LRankDesk$Guess;", true)
  | 8 => ("RankDesk", "history", "LRankDesk$History;", true)
  | 9 => ("RankDesk", "firstSlot", "LRankDesk$State;", true)
  | 10 => ("RankDesk", "secondSlot", "LRankDesk$State;", true)
  | _ => ("RankDesk", "isKept", "[Z", true)
def tyX10 : Nat → FieldType := fun k => match k with
  | 0 => .object "RankDesk$Input"
  | 1 => .object "RankDesk$State"
  | 2 => .object "RankDesk$Parser"
  | 3 => .object "RankDesk$Output"
  | 4 => .object "RankDesk$Reckoner"
  | 5 => .object "RankDesk$RowSets"
  | 6 => .object "RankDesk$State"
  | 7 => .object "RankDesk$Guess"
  | 8 => .object "RankDesk$History"
  | 9 => .object "RankDesk$State"
  | 10 => .object "RankDesk$State"
  | _ => .array .boolean
abbrev wsX100 : List Cond := u_ws RX10 TX10 12
theorem nmX10 : ∀ a, a < 12 → ∀ b, b < 12 → a ≠ b → (TX10 a).2.1 ≠ (TX10 b).2.1 := by decide +kernel
theorem tyX10_ok : ∀ k, k < 12 → parseFieldDescriptor (TX10 k).2.2.1 = some (tyX10 k) := by decide +kernel
def RX11 : String := "java/lang/StringBuilder"
def TX11 : u_T := fun k => match k with
  | 0 => ("java/lang/AbstractStringBuilder", "value", "[B", false)
  | 1 => ("java/lang/AbstractStringBuilder", "coder", "B", false)
  | 2 => ("java/lang/AbstractStringBuilder", "maybeLatin1", "Z", false)
  | _ => ("java/lang/AbstractStringBuilder", "count", "I", false)
def tyX11 : Nat → FieldType := fun k => match k with
  | 0 => .array .byte
  | 1 => .byte
  | 2 => .boolean
  | _ => .int
abbrev wsX110 : List Cond := u_ws RX11 TX11 4
theorem nmX11 : ∀ a, a < 4 → ∀ b, b < 4 → a ≠ b → (TX11 a).2.1 ≠ (TX11 b).2.1 := by decide +kernel
theorem tyX11_ok : ∀ k, k < 4 → parseFieldDescriptor (TX11 k).2.2.1 = some (tyX11 k) := by decide +kernel
def RX12 : String := "java/lang/String"
def TX12 : u_T := fun k => match k with
  | 0 => ("java/lang/String", "value", "[B", true)
  | 1 => ("java/lang/String", "coder", "B", true)
  | 2 => ("java/lang/String", "hash", "I", false)
  | _ => ("java/lang/String", "hashIsZero", "Z", false)
def tyX12 : Nat → FieldType := fun k => match k with
  | 0 => .array .byte
  | 1 => .byte
  | 2 => .int
  | _ => .boolean
abbrev wsX120 : List Cond := u_ws RX12 TX12 4
theorem nmX12 : ∀ a, a < 4 → ∀ b, b < 4 → a ≠ b → (TX12 a).2.1 ≠ (TX12 b).2.1 := by decide +kernel
theorem tyX12_ok : ∀ k, k < 4 → parseFieldDescriptor (TX12 k).2.2.1 = some (tyX12 k) := by decide +kernel
abbrev am_cl : List vw_C := [(RX0, TX0, 4), (RX1, TX1, 4), (RX2, TX2, 3), (RX3, TX3, 2), (RX4, TX4, 3), (RX5, TX5, 2), (RX6, TX6, 9), (RX7, TX7, 4), (RX8, TX8, 2), (RX9, TX9, 7), (RX10, TX10, 12), (RX11, TX11, 4), (RX12, TX12, 4)]
/-- the type of a class's field -/
def am_ty (ci j : Nat) : FieldType := match ci with
  | 0 => tyX0 j
  | 1 => tyX1 j
  | 2 => tyX2 j
  | 3 => tyX3 j
  | 4 => tyX4 j
  | 5 => tyX5 j
  | 6 => tyX6 j
  | 7 => tyX7 j
  | 8 => tyX8 j
  | 9 => tyX9 j
  | 10 => tyX10 j
  | 11 => tyX11 j
  | _ => tyX12 j
/-- how many fields a class has -/
def am_nf (ci : Nat) : Nat := match ci with
  | 0 => 4
  | 1 => 4
  | 2 => 3
  | 3 => 2
  | 4 => 3
  | 5 => 2
  | 6 => 9
  | 7 => 4
  | 8 => 2
  | 9 => 7
  | 10 => 12
  | 11 => 4
  | _ => 4
/-- the words that every method may use -/
def am_W : List Cond := pw_tbl.filter goodWord
theorem am_Wmem {w : Cond} (h : w ∈ pw_tbl) (g : goodWord w = true) : w ∈ am_W := List.mem_filter.mpr ⟨h, g⟩
set_option maxRecDepth 100000 in
theorem am_i0a : u_ws RX0 TX0 4 = [154, 156, 158, 160].filterMap (fun i => pw_tbl[i]?) := by rfl
set_option maxRecDepth 100000 in
theorem am_i0 : ∀ w ∈ u_ws RX0 TX0 4, w ∈ am_W := fun w h => am_Wmem (by rw [am_i0a] at h; obtain ⟨i, -, hi⟩ := List.mem_filterMap.mp h; exact List.mem_of_getElem? hi) (List.all_eq_true.mp (by decide +kernel : (u_ws RX0 TX0 4).all goodWord = true) w h)
set_option maxRecDepth 100000 in
theorem am_i1a : u_ws RX1 TX1 4 = [132, 134, 136, 138].filterMap (fun i => pw_tbl[i]?) := by rfl
set_option maxRecDepth 100000 in
theorem am_i1 : ∀ w ∈ u_ws RX1 TX1 4, w ∈ am_W := fun w h => am_Wmem (by rw [am_i1a] at h; obtain ⟨i, -, hi⟩ := List.mem_filterMap.mp h; exact List.mem_of_getElem? hi) (List.all_eq_true.mp (by decide +kernel : (u_ws RX1 TX1 4).all goodWord = true) w h)
set_option maxRecDepth 100000 in
theorem am_i2a : u_ws RX2 TX2 3 = [290, 292, 294].filterMap (fun i => pw_tbl[i]?) := by rfl
set_option maxRecDepth 100000 in
theorem am_i2 : ∀ w ∈ u_ws RX2 TX2 3, w ∈ am_W := fun w h => am_Wmem (by rw [am_i2a] at h; obtain ⟨i, -, hi⟩ := List.mem_filterMap.mp h; exact List.mem_of_getElem? hi) (List.all_eq_true.mp (by decide +kernel : (u_ws RX2 TX2 3).all goodWord = true) w h)
set_option maxRecDepth 100000 in
theorem am_i3a : u_ws RX3 TX3 2 = [82, 84].filterMap (fun i => pw_tbl[i]?) := by rfl
set_option maxRecDepth 100000 in
theorem am_i3 : ∀ w ∈ u_ws RX3 TX3 2, w ∈ am_W := fun w h => am_Wmem (by rw [am_i3a] at h; obtain ⟨i, -, hi⟩ := List.mem_filterMap.mp h; exact List.mem_of_getElem? hi) (List.all_eq_true.mp (by decide +kernel : (u_ws RX3 TX3 2).all goodWord = true) w h)
set_option maxRecDepth 100000 in
theorem am_i4a : u_ws RX4 TX4 3 = [110, 112, 114].filterMap (fun i => pw_tbl[i]?) := by rfl
set_option maxRecDepth 100000 in
theorem am_i4 : ∀ w ∈ u_ws RX4 TX4 3, w ∈ am_W := fun w h => am_Wmem (by rw [am_i4a] at h; obtain ⟨i, -, hi⟩ := List.mem_filterMap.mp h; exact List.mem_of_getElem? hi) (List.all_eq_true.mp (by decide +kernel : (u_ws RX4 TX4 3).all goodWord = true) w h)
set_option maxRecDepth 100000 in
theorem am_i5a : u_ws RX5 TX5 2 = [236, 238].filterMap (fun i => pw_tbl[i]?) := by rfl
set_option maxRecDepth 100000 in
theorem am_i5 : ∀ w ∈ u_ws RX5 TX5 2, w ∈ am_W := fun w h => am_Wmem (by rw [am_i5a] at h; obtain ⟨i, -, hi⟩ := List.mem_filterMap.mp h; exact List.mem_of_getElem? hi) (List.all_eq_true.mp (by decide +kernel : (u_ws RX5 TX5 2).all goodWord = true) w h)
set_option maxRecDepth 100000 in
theorem am_i6a : u_ws RX6 TX6 9 = [210, 212, 214, 216, 218, 220, 222, 224, 226].filterMap (fun i => pw_tbl[i]?) := by rfl
set_option maxRecDepth 100000 in
theorem am_i6 : ∀ w ∈ u_ws RX6 TX6 9, w ∈ am_W := fun w h => am_Wmem (by rw [am_i6a] at h; obtain ⟨i, -, hi⟩ := List.mem_filterMap.mp h; exact List.mem_of_getElem? hi) (List.all_eq_true.mp (by decide +kernel : (u_ws RX6 TX6 9).all goodWord = true) w h)
set_option maxRecDepth 100000 in
theorem am_i7a : u_ws RX7 TX7 4 = [253, 255, 257, 259].filterMap (fun i => pw_tbl[i]?) := by rfl
set_option maxRecDepth 100000 in
theorem am_i7 : ∀ w ∈ u_ws RX7 TX7 4, w ∈ am_W := fun w h => am_Wmem (by rw [am_i7a] at h; obtain ⟨i, -, hi⟩ := List.mem_filterMap.mp h; exact List.mem_of_getElem? hi) (List.all_eq_true.mp (by decide +kernel : (u_ws RX7 TX7 4).all goodWord = true) w h)
set_option maxRecDepth 100000 in
theorem am_i8a : u_ws RX8 TX8 2 = [270, 272].filterMap (fun i => pw_tbl[i]?) := by rfl
set_option maxRecDepth 100000 in
theorem am_i8 : ∀ w ∈ u_ws RX8 TX8 2, w ∈ am_W := fun w h => am_Wmem (by rw [am_i8a] at h; obtain ⟨i, -, hi⟩ := List.mem_filterMap.mp h; exact List.mem_of_getElem? hi) (List.all_eq_true.mp (by decide +kernel : (u_ws RX8 TX8 2).all goodWord = true) w h)
set_option maxRecDepth 100000 in
theorem am_i9a : u_ws RX9 TX9 7 = [177, 179, 181, 183, 185, 187, 189].filterMap (fun i => pw_tbl[i]?) := by rfl
set_option maxRecDepth 100000 in
theorem am_i9 : ∀ w ∈ u_ws RX9 TX9 7, w ∈ am_W := fun w h => am_Wmem (by rw [am_i9a] at h; obtain ⟨i, -, hi⟩ := List.mem_filterMap.mp h; exact List.mem_of_getElem? hi) (List.all_eq_true.mp (by decide +kernel : (u_ws RX9 TX9 7).all goodWord = true) w h)
set_option maxRecDepth 100000 in
theorem am_i10a : u_ws RX10 TX10 12 = [309, 311, 313, 315, 317, 319, 321, 323, 325, 327, 329, 331].filterMap (fun i => pw_tbl[i]?) := by rfl
set_option maxRecDepth 100000 in
theorem am_i10 : ∀ w ∈ u_ws RX10 TX10 12, w ∈ am_W := fun w h => am_Wmem (by rw [am_i10a] at h; obtain ⟨i, -, hi⟩ := List.mem_filterMap.mp h; exact List.mem_of_getElem? hi) (List.all_eq_true.mp (by decide +kernel : (u_ws RX10 TX10 12).all goodWord = true) w h)
set_option maxRecDepth 100000 in
theorem am_i11a : u_ws RX11 TX11 4 = [646, 648, 650, 652].filterMap (fun i => pw_tbl[i]?) := by rfl
set_option maxRecDepth 100000 in
theorem am_i11 : ∀ w ∈ u_ws RX11 TX11 4, w ∈ am_W := fun w h => am_Wmem (by rw [am_i11a] at h; obtain ⟨i, -, hi⟩ := List.mem_filterMap.mp h; exact List.mem_of_getElem? hi) (List.all_eq_true.mp (by decide +kernel : (u_ws RX11 TX11 4).all goodWord = true) w h)
set_option maxRecDepth 100000 in
theorem am_i12a : u_ws RX12 TX12 4 = [742, 744, 746, 748].filterMap (fun i => pw_tbl[i]?) := by rfl
set_option maxRecDepth 100000 in
theorem am_i12 : ∀ w ∈ u_ws RX12 TX12 4, w ∈ am_W := fun w h => am_Wmem (by rw [am_i12a] at h; obtain ⟨i, -, hi⟩ := List.mem_filterMap.mp h; exact List.mem_of_getElem? hi) (List.all_eq_true.mp (by decide +kernel : (u_ws RX12 TX12 4).all goodWord = true) w h)
def am_clOk (ci : Nat) (q : vw_C) : Prop := q.2.2 = am_nf ci ∧ (∀ w ∈ u_ws q.1 q.2.1 q.2.2, w ∈ am_W) ∧ (∀ k, k < q.2.2 → parseFieldDescriptor (q.2.1 k).2.2.1 = some (am_ty ci k)) ∧ (∀ a, a < q.2.2 → ∀ b, b < q.2.2 → a ≠ b → (q.2.1 a).2.1 ≠ (q.2.1 b).2.1)
theorem am_cl_ok : ∀ (ci : Nat) (q : vw_C), am_cl[ci]? = some q → am_clOk ci q := by
  intro ci q h
  match ci, h with
  | 0, h => cases h; exact ⟨rfl, am_i0, tyX0_ok, nmX0⟩
  | 1, h => cases h; exact ⟨rfl, am_i1, tyX1_ok, nmX1⟩
  | 2, h => cases h; exact ⟨rfl, am_i2, tyX2_ok, nmX2⟩
  | 3, h => cases h; exact ⟨rfl, am_i3, tyX3_ok, nmX3⟩
  | 4, h => cases h; exact ⟨rfl, am_i4, tyX4_ok, nmX4⟩
  | 5, h => cases h; exact ⟨rfl, am_i5, tyX5_ok, nmX5⟩
  | 6, h => cases h; exact ⟨rfl, am_i6, tyX6_ok, nmX6⟩
  | 7, h => cases h; exact ⟨rfl, am_i7, tyX7_ok, nmX7⟩
  | 8, h => cases h; exact ⟨rfl, am_i8, tyX8_ok, nmX8⟩
  | 9, h => cases h; exact ⟨rfl, am_i9, tyX9_ok, nmX9⟩
  | 10, h => cases h; exact ⟨rfl, am_i10, tyX10_ok, nmX10⟩
  | 11, h => cases h; exact ⟨rfl, am_i11, tyX11_ok, nmX11⟩
  | 12, h => cases h; exact ⟨rfl, am_i12, tyX12_ok, nmX12⟩
  | j + 13, h => simp [am_cl] at h
