def FU : Nat := 10000
def DFU : Nat := 12
theorem nn_ {α : Type} {x : α} {P : Prop} (h : none = some x) : P := by cases h
theorem it {α : Type} {p : Prop} [Decidable p] {a b z : α} (h : (if p then a else b) = z) (c : p) : a = z := by rw [if_pos c] at h; exact h
theorem ie {α : Type} {p : Prop} [Decidable p] {a b z : α} (h : (if p then a else b) = z) (c : ¬ p) : b = z := by rw [if_neg c] at h; exact h
def bnd2 {β : Type} (o : Option (Int32 × Mem)) (f : Int32 → Mem → Option β) : Option β := match o with
  | none => none
  | some (x, u) => f x u
theorem o_bnd2 {β : Type} {o : Option (Int32 × Mem)} {f : Int32 → Mem → Option β} {z : β} (h : bnd2 o f = some z) : ∃ x u, o = some (x, u) ∧ f x u = some z := by
  cases o with
  | none => cases h
  | some p => obtain ⟨x, u⟩ := p; exact ⟨x, u, rfl, h⟩
theorem in_of {ws : List Cond} (ps : List Nat) (h : ws = ps.filterMap (fun i => lw_tbl[i]?)) (hg : ws.all goodWord = true) : ∀ w ∈ ws, w ∈ TW := fun w hw => by
  have h1 := List.all_eq_true.mp hg w hw
  rw [h] at hw
  obtain ⟨i, -, hi⟩ := List.mem_filterMap.mp hw
  exact tw_of i hi h1
theorem ic_m1 : Int32.ofInt (-1) = (-1) := by decide
theorem ic_0 : Int32.ofInt 0 = 0 := by decide
theorem ic_1 : Int32.ofInt 1 = 1 := by decide
theorem ic_2 : Int32.ofInt 2 = 2 := by decide
theorem ic_3 : Int32.ofInt 3 = 3 := by decide
theorem ic_4 : Int32.ofInt 4 = 4 := by decide
theorem ic_5 : Int32.ofInt 5 = 5 := by decide
theorem ib_m19 : (Int8.ofInt (-19)).toInt32 = (-19) := by decide
theorem ib_m18 : (Int8.ofInt (-18)).toInt32 = (-18) := by decide
theorem ib_m17 : (Int8.ofInt (-17)).toInt32 = (-17) := by decide
theorem ib_m16 : (Int8.ofInt (-16)).toInt32 = (-16) := by decide
theorem ib_m15 : (Int8.ofInt (-15)).toInt32 = (-15) := by decide
theorem ib_m14 : (Int8.ofInt (-14)).toInt32 = (-14) := by decide
theorem ib_m13 : (Int8.ofInt (-13)).toInt32 = (-13) := by decide
theorem ib_m12 : (Int8.ofInt (-12)).toInt32 = (-12) := by decide
theorem ib_m11 : (Int8.ofInt (-11)).toInt32 = (-11) := by decide
theorem ib_m10 : (Int8.ofInt (-10)).toInt32 = (-10) := by decide
theorem ib_m9 : (Int8.ofInt (-9)).toInt32 = (-9) := by decide
theorem ib_m2 : (Int8.ofInt (-2)).toInt32 = (-2) := by decide
theorem ib_6 : (Int8.ofInt 6).toInt32 = 6 := by decide
theorem ib_7 : (Int8.ofInt 7).toInt32 = 7 := by decide
theorem ib_8 : (Int8.ofInt 8).toInt32 = 8 := by decide
theorem ib_9 : (Int8.ofInt 9).toInt32 = 9 := by decide
theorem ib_10 : (Int8.ofInt 10).toInt32 = 10 := by decide
theorem ib_12 : (Int8.ofInt 12).toInt32 = 12 := by decide
theorem ib_15 : (Int8.ofInt 15).toInt32 = 15 := by decide
theorem ib_16 : (Int8.ofInt 16).toInt32 = 16 := by decide
theorem ib_20 : (Int8.ofInt 20).toInt32 = 20 := by decide
theorem ib_24 : (Int8.ofInt 24).toInt32 = 24 := by decide
theorem ib_31 : (Int8.ofInt 31).toInt32 = 31 := by decide
theorem ib_32 : (Int8.ofInt 32).toInt32 = 32 := by decide
theorem ib_40 : (Int8.ofInt 40).toInt32 = 40 := by decide
theorem ib_41 : (Int8.ofInt 41).toInt32 = 41 := by decide
theorem ib_42 : (Int8.ofInt 42).toInt32 = 42 := by decide
theorem ib_43 : (Int8.ofInt 43).toInt32 = 43 := by decide
theorem ib_45 : (Int8.ofInt 45).toInt32 = 45 := by decide
theorem ib_47 : (Int8.ofInt 47).toInt32 = 47 := by decide
theorem ib_48 : (Int8.ofInt 48).toInt32 = 48 := by decide
theorem ib_50 : (Int8.ofInt 50).toInt32 = 50 := by decide
theorem ib_57 : (Int8.ofInt 57).toInt32 = 57 := by decide
theorem ib_59 : (Int8.ofInt 59).toInt32 = 59 := by decide
theorem ib_60 : (Int8.ofInt 60).toInt32 = 60 := by decide
theorem ib_61 : (Int8.ofInt 61).toInt32 = 61 := by decide
theorem ib_62 : (Int8.ofInt 62).toInt32 = 62 := by decide
theorem ib_63 : (Int8.ofInt 63).toInt32 = 63 := by decide
theorem ib_65 : (Int8.ofInt 65).toInt32 = 65 := by decide
theorem ib_90 : (Int8.ofInt 90).toInt32 = 90 := by decide
theorem ib_97 : (Int8.ofInt 97).toInt32 = 97 := by decide
theorem ib_99 : (Int8.ofInt 99).toInt32 = 99 := by decide
theorem ib_120 : (Int8.ofInt 120).toInt32 = 120 := by decide
theorem ib_122 : (Int8.ofInt 122).toInt32 = 122 := by decide
theorem isp_150 : (Int16.ofInt 150).toInt32 = 150 := by decide
theorem isp_255 : (Int16.ofInt 255).toInt32 = 255 := by decide
theorem isp_256 : (Int16.ofInt 256).toInt32 = 256 := by decide
theorem isp_257 : (Int16.ofInt 257).toInt32 = 257 := by decide
theorem isp_258 : (Int16.ofInt 258).toInt32 = 258 := by decide
theorem isp_260 : (Int16.ofInt 260).toInt32 = 260 := by decide
theorem isp_261 : (Int16.ofInt 261).toInt32 = 261 := by decide
theorem isp_262 : (Int16.ofInt 262).toInt32 = 262 := by decide
theorem isp_263 : (Int16.ofInt 263).toInt32 = 263 := by decide
theorem isp_264 : (Int16.ofInt 264).toInt32 = 264 := by decide
theorem isp_400 : (Int16.ofInt 400).toInt32 = 400 := by decide
theorem isp_999 : (Int16.ofInt 999).toInt32 = 999 := by decide
theorem isp_1000 : (Int16.ofInt 1000).toInt32 = 1000 := by decide
theorem isp_9999 : (Int16.ofInt 9999).toInt32 = 9999 := by decide
theorem inc_m8 (x : Int32) : x + Int32.ofInt (-8) = x + (-8) := by rw [show Int32.ofInt (-8) = (-8) by decide]
theorem inc_1 (x : Int32) : x + Int32.ofInt 1 = x + 1 := by rw [show Int32.ofInt 1 = 1 by decide]
theorem inc_6 (x : Int32) : x + Int32.ofInt 6 = x + 6 := by rw [show Int32.ofInt 6 = 6 by decide]
theorem n_0 : (0 : Int32) = nI 0 := by decide
theorem n_1 : (1 : Int32) = nI 1 := by decide
theorem n_2 : (2 : Int32) = nI 2 := by decide
theorem n_3 : (3 : Int32) = nI 3 := by decide
theorem n_4 : (4 : Int32) = nI 4 := by decide
theorem n_6 : (6 : Int32) = nI 6 := by decide
theorem n_7 : (7 : Int32) = nI 7 := by decide
theorem in_0 : ∀ w ∈ u_ws RX0 TX0 10, w ∈ TW := in_of [269, 271, 273, 275, 277, 279, 281, 283, 285, 287] (by decide +kernel) (by decide +kernel)
theorem CI_0 : CI 0 RX0 TX0 10 tyX0 := ⟨rfl, in_0, tyX0_ok, nmX0, rfl⟩
theorem in_1 : ∀ w ∈ u_ws RX1 TX1 1, w ∈ TW := in_of [297] (by decide +kernel) (by decide +kernel)
theorem CI_1 : CI 1 RX1 TX1 1 tyX1 := ⟨rfl, in_1, tyX1_ok, nmX1, rfl⟩
theorem in_2 : ∀ w ∈ u_ws RX2 TX2 6, w ∈ TW := in_of [419, 421, 423, 425, 427, 429] (by decide +kernel) (by decide +kernel)
theorem CI_2 : CI 2 RX2 TX2 6 tyX2 := ⟨rfl, in_2, tyX2_ok, nmX2, rfl⟩
theorem in_3 : ∀ w ∈ u_ws RX3 TX3 7, w ∈ TW := in_of [313, 315, 317, 319, 321, 323, 325] (by decide +kernel) (by decide +kernel)
theorem CI_3 : CI 3 RX3 TX3 7 tyX3 := ⟨rfl, in_3, tyX3_ok, nmX3, rfl⟩
theorem in_4 : ∀ w ∈ u_ws RX4 TX4 8, w ∈ TW := in_of [97, 99, 101, 103, 105, 107, 109, 111] (by decide +kernel) (by decide +kernel)
theorem CI_4 : CI 4 RX4 TX4 8 tyX4 := ⟨rfl, in_4, tyX4_ok, nmX4, rfl⟩
theorem in_5 : ∀ w ∈ u_ws RX5 TX5 4, w ∈ TW := in_of [127, 129, 131, 133] (by decide +kernel) (by decide +kernel)
theorem CI_5 : CI 5 RX5 TX5 4 tyX5 := ⟨rfl, in_5, tyX5_ok, nmX5, rfl⟩
theorem in_6 : ∀ w ∈ u_ws RX6 TX6 15, w ∈ TW := in_of [354, 356, 358, 360, 362, 364, 366, 368, 370, 372, 374, 376, 378, 380, 382] (by decide +kernel) (by decide +kernel)
theorem CI_6 : CI 6 RX6 TX6 15 tyX6 := ⟨rfl, in_6, tyX6_ok, nmX6, rfl⟩
theorem in_7 : ∀ w ∈ u_ws RX7 TX7 13, w ∈ TW := in_of [449, 451, 453, 455, 457, 459, 461, 463, 465, 467, 469, 471, 473] (by decide +kernel) (by decide +kernel)
theorem CI_7 : CI 7 RX7 TX7 13 tyX7 := ⟨rfl, in_7, tyX7_ok, nmX7, rfl⟩
theorem in_8 : ∀ w ∈ u_ws RX8 TX8 4, w ∈ TW := in_of [146, 148, 150, 152] (by decide +kernel) (by decide +kernel)
theorem CI_8 : CI 8 RX8 TX8 4 tyX8 := ⟨rfl, in_8, tyX8_ok, nmX8, rfl⟩
theorem in_9 : ∀ w ∈ u_ws RX9 TX9 16, w ∈ TW := in_of [203, 205, 207, 209, 211, 213, 215, 217, 219, 221, 223, 225, 227, 229, 231, 233] (by decide +kernel) (by decide +kernel)
theorem CI_9 : CI 9 RX9 TX9 16 tyX9 := ⟨rfl, in_9, tyX9_ok, nmX9, rfl⟩
theorem in_10 : ∀ w ∈ u_ws RX10 TX10 3, w ∈ TW := in_of [398, 400, 402] (by decide +kernel) (by decide +kernel)
theorem CI_10 : CI 10 RX10 TX10 3 tyX10 := ⟨rfl, in_10, tyX10_ok, nmX10, rfl⟩
theorem in_11 : ∀ w ∈ u_ws RX11 TX11 12, w ∈ TW := in_of [488, 490, 492, 494, 496, 498, 500, 502, 504, 506, 508, 510] (by decide +kernel) (by decide +kernel)
theorem CI_11 : CI 11 RX11 TX11 12 tyX11 := ⟨rfl, in_11, tyX11_ok, nmX11, rfl⟩
theorem in_12 : ∀ w ∈ u_ws RX12 TX12 20, w ∈ TW := in_of [804, 806, 808, 810, 812, 814, 816, 818, 820, 822, 824, 826, 828, 830, 832, 834, 836, 838, 840, 842] (by decide +kernel) (by decide +kernel)
theorem CI_12 : CI 12 RX12 TX12 20 tyX12 := ⟨rfl, in_12, tyX12_ok, nmX12, rfl⟩
theorem in_13 : ∀ w ∈ u_ws RJ0 TJ0 4, w ∈ TW := in_of [1154, 1156, 1158, 1160] (by decide +kernel) (by decide +kernel)
theorem CI_13 : CI 13 RJ0 TJ0 4 tyJ0 := ⟨rfl, in_13, tyJ0_ok, nmJ0, rfl⟩
theorem in_14 : ∀ w ∈ u_ws RJ4 TJ4 4, w ∈ TW := in_of [954, 956, 958, 960] (by decide +kernel) (by decide +kernel)
theorem CI_14 : CI 14 RJ4 TJ4 4 tyJ4 := ⟨rfl, in_14, tyJ4_ok, nmJ4, rfl⟩
def SH : List Shp := [.inr (.inl 11), .inr (.inl 9), .inl 12, .inl 12, .inl 12, .inl 12, .inl 2, .inl 8, .inr (.inl 4), .inl 400, .inl 16, .inl 16, .inl 16, .inl 16, .inl 32, .inr (.inl 5), .inl 16, .inl 16, .inl 16, .inr (.inl 8), .inl 10, .inl 10, .inl 10, .inr (.inl 0), .inl 12, .inl 12, .inl 12, .inl 12, .inl 12, .inl 12, .inr (.inl 1), .inl 600, .inr (.inl 3), .inl 9, .inr (.inl 6), .inl 400, .inl 401, .inl 401, .inl 401, .inr (.inl 4), .inl 400, .inl 16, .inl 16, .inl 16, .inl 16, .inl 32, .inr (.inl 5), .inl 16, .inl 16, .inl 16, .inl 12, .inl 8, .inr (.inl 10), .inr (.inr (0, 6)), .inr (.inl 0), .inl 12, .inl 12, .inl 12, .inl 12, .inl 12, .inl 12, .inr (.inl 0), .inl 12, .inl 12, .inl 12, .inl 12, .inl 12, .inl 12, .inr (.inl 0), .inl 12, .inl 12, .inl 12, .inl 12, .inl 12, .inl 12, .inr (.inl 0), .inl 12, .inl 12, .inl 12, .inl 12, .inl 12, .inl 12, .inr (.inl 0), .inl 12, .inl 12, .inl 12, .inl 12, .inl 12, .inl 12, .inr (.inl 0), .inl 12, .inl 12, .inl 12, .inl 12, .inl 12, .inl 12, .inr (.inl 2), .inr (.inl 0), .inl 12, .inl 12, .inl 12, .inl 12, .inl 12, .inl 12, .inr (.inl 3), .inl 9, .inr (.inl 7), .inl 144, .inl 12, .inl 12, .inl 12, .inl 12, .inl 12, .inl 4096, .inl 9, .inr (.inl 9), .inl 12, .inl 12, .inl 12, .inl 12, .inl 2, .inl 8, .inr (.inl 4), .inl 400, .inl 16, .inl 16, .inl 16, .inl 16, .inl 32, .inr (.inl 5), .inl 16, .inl 16, .inl 16, .inr (.inl 8), .inl 10, .inl 10, .inl 10, .inr (.inl 0), .inl 12, .inl 12, .inl 12, .inl 12, .inl 12, .inl 12, .inr (.inl 1), .inl 600]
def RHT : List (List (Option Nat)) := [[some 1, some 23, some 30, some 32, some 34, some 52, some 96, some 106, some 115, some 137, some 144, none], [none, some 2, some 3, some 4, some 5, some 6, some 7, none, none, none, none, none, none, some 8, some 15, some 19], [], [], [], [], [], [], [some 9, some 10, some 11, some 12, some 13, some 14, none, none], [], [], [], [], [], [], [some 16, some 17, some 18, none], [], [], [], [some 20, some 21, some 22, none], [], [], [], [some 24, some 25, some 26, some 27, some 28, some 29, none, none, none, none], [], [], [], [], [], [], [some 31], [], [some 1, some 23, some 30, none, some 33, none, none], [], [some 35, some 36, some 37, some 38, some 39, some 46, some 50, some 51, none, none, none, none, none, none, none], [], [], [], [], [some 40, some 41, some 42, some 43, some 44, some 45, none, none], [], [], [], [], [], [], [some 47, some 48, some 49, none], [], [], [], [], [], [some 53, none, none], [some 54, some 61, some 68, some 75, some 82, some 89], [some 55, some 56, some 57, some 58, some 59, some 60, none, none, none, none], [], [], [], [], [], [], [some 62, some 63, some 64, some 65, some 66, some 67, none, none, none, none], [], [], [], [], [], [], [some 69, some 70, some 71, some 72, some 73, some 74, none, none, none, none], [], [], [], [], [], [], [some 76, some 77, some 78, some 79, some 80, some 81, none, none, none, none], [], [], [], [], [], [], [some 83, some 84, some 85, some 86, some 87, some 88, none, none, none, none], [], [], [], [], [], [], [some 90, some 91, some 92, some 93, some 94, some 95, none, none, none, none], [], [], [], [], [], [], [some 1, some 23, some 97, some 104, none, none], [some 98, some 99, some 100, some 101, some 102, some 103, none, none, none, none], [], [], [], [], [], [], [some 1, some 97, some 30, none, some 105, none, none], [], [some 1, some 23, some 32, some 107, some 108, some 109, some 110, some 111, some 112, some 113, some 114, none, none], [], [], [], [], [], [], [], [], [none, some 116, some 117, some 118, some 119, some 120, some 121, none, none, none, none, none, none, some 122, some 129, some 133], [], [], [], [], [], [], [some 123, some 124, some 125, some 126, some 127, some 128, none, none], [], [], [], [], [], [], [some 130, some 131, some 132, none], [], [], [], [some 134, some 135, some 136, none], [], [], [], [some 138, some 139, some 140, some 141, some 142, some 143, none, none, none, none], [], [], [], [], [], [], [some 145], []]
def RHO : Rf := fun a k => (RHT.getD a []).getD k none
theorem s0_0 : SH[0]? = some (.inr (.inl 11)) := by decide +kernel
theorem s0_1 : SH[1]? = some (.inr (.inl 9)) := by decide +kernel
theorem s0_2 : SH[2]? = some (.inl 12) := by decide +kernel
theorem s0_3 : SH[3]? = some (.inl 12) := by decide +kernel
theorem s0_4 : SH[4]? = some (.inl 12) := by decide +kernel
theorem s0_5 : SH[5]? = some (.inl 12) := by decide +kernel
theorem s0_6 : SH[6]? = some (.inl 2) := by decide +kernel
theorem s0_7 : SH[7]? = some (.inl 8) := by decide +kernel
theorem s0_8 : SH[8]? = some (.inr (.inl 4)) := by decide +kernel
theorem s0_9 : SH[9]? = some (.inl 400) := by decide +kernel
theorem s0_10 : SH[10]? = some (.inl 16) := by decide +kernel
theorem s0_11 : SH[11]? = some (.inl 16) := by decide +kernel
theorem s0_12 : SH[12]? = some (.inl 16) := by decide +kernel
theorem s0_13 : SH[13]? = some (.inl 16) := by decide +kernel
theorem s0_14 : SH[14]? = some (.inl 32) := by decide +kernel
theorem s0_15 : SH[15]? = some (.inr (.inl 5)) := by decide +kernel
theorem s0_16 : SH[16]? = some (.inl 16) := by decide +kernel
theorem s0_17 : SH[17]? = some (.inl 16) := by decide +kernel
theorem s0_18 : SH[18]? = some (.inl 16) := by decide +kernel
theorem s0_19 : SH[19]? = some (.inr (.inl 8)) := by decide +kernel
theorem s0_20 : SH[20]? = some (.inl 10) := by decide +kernel
theorem s0_21 : SH[21]? = some (.inl 10) := by decide +kernel
theorem s0_22 : SH[22]? = some (.inl 10) := by decide +kernel
theorem s0_23 : SH[23]? = some (.inr (.inl 0)) := by decide +kernel
theorem s0_24 : SH[24]? = some (.inl 12) := by decide +kernel
theorem s0_25 : SH[25]? = some (.inl 12) := by decide +kernel
theorem s0_26 : SH[26]? = some (.inl 12) := by decide +kernel
theorem s0_27 : SH[27]? = some (.inl 12) := by decide +kernel
theorem s0_28 : SH[28]? = some (.inl 12) := by decide +kernel
theorem s0_29 : SH[29]? = some (.inl 12) := by decide +kernel
theorem s0_30 : SH[30]? = some (.inr (.inl 1)) := by decide +kernel
theorem s0_31 : SH[31]? = some (.inl 600) := by decide +kernel
theorem s0_32 : SH[32]? = some (.inr (.inl 3)) := by decide +kernel
theorem s0_33 : SH[33]? = some (.inl 9) := by decide +kernel
theorem s0_34 : SH[34]? = some (.inr (.inl 6)) := by decide +kernel
theorem s0_35 : SH[35]? = some (.inl 400) := by decide +kernel
theorem s0_36 : SH[36]? = some (.inl 401) := by decide +kernel
theorem s0_37 : SH[37]? = some (.inl 401) := by decide +kernel
theorem s0_38 : SH[38]? = some (.inl 401) := by decide +kernel
theorem s0_39 : SH[39]? = some (.inr (.inl 4)) := by decide +kernel
theorem s0_40 : SH[40]? = some (.inl 400) := by decide +kernel
theorem s0_41 : SH[41]? = some (.inl 16) := by decide +kernel
theorem s0_42 : SH[42]? = some (.inl 16) := by decide +kernel
theorem s0_43 : SH[43]? = some (.inl 16) := by decide +kernel
theorem s0_44 : SH[44]? = some (.inl 16) := by decide +kernel
theorem s0_45 : SH[45]? = some (.inl 32) := by decide +kernel
theorem s0_46 : SH[46]? = some (.inr (.inl 5)) := by decide +kernel
theorem s0_47 : SH[47]? = some (.inl 16) := by decide +kernel
theorem s0_48 : SH[48]? = some (.inl 16) := by decide +kernel
theorem s0_49 : SH[49]? = some (.inl 16) := by decide +kernel
theorem s0_50 : SH[50]? = some (.inl 12) := by decide +kernel
theorem s0_51 : SH[51]? = some (.inl 8) := by decide +kernel
theorem s0_52 : SH[52]? = some (.inr (.inl 10)) := by decide +kernel
theorem s0_53 : SH[53]? = some (.inr (.inr (0, 6))) := by decide +kernel
theorem s0_54 : SH[54]? = some (.inr (.inl 0)) := by decide +kernel
theorem s0_55 : SH[55]? = some (.inl 12) := by decide +kernel
theorem s0_56 : SH[56]? = some (.inl 12) := by decide +kernel
theorem s0_57 : SH[57]? = some (.inl 12) := by decide +kernel
theorem s0_58 : SH[58]? = some (.inl 12) := by decide +kernel
theorem s0_59 : SH[59]? = some (.inl 12) := by decide +kernel
theorem s0_60 : SH[60]? = some (.inl 12) := by decide +kernel
theorem s0_61 : SH[61]? = some (.inr (.inl 0)) := by decide +kernel
theorem s0_62 : SH[62]? = some (.inl 12) := by decide +kernel
theorem s0_63 : SH[63]? = some (.inl 12) := by decide +kernel
theorem s0_64 : SH[64]? = some (.inl 12) := by decide +kernel
theorem s0_65 : SH[65]? = some (.inl 12) := by decide +kernel
theorem s0_66 : SH[66]? = some (.inl 12) := by decide +kernel
theorem s0_67 : SH[67]? = some (.inl 12) := by decide +kernel
theorem s0_68 : SH[68]? = some (.inr (.inl 0)) := by decide +kernel
theorem s0_69 : SH[69]? = some (.inl 12) := by decide +kernel
theorem s0_70 : SH[70]? = some (.inl 12) := by decide +kernel
theorem s0_71 : SH[71]? = some (.inl 12) := by decide +kernel
theorem s0_72 : SH[72]? = some (.inl 12) := by decide +kernel
theorem s0_73 : SH[73]? = some (.inl 12) := by decide +kernel
theorem s0_74 : SH[74]? = some (.inl 12) := by decide +kernel
theorem s0_75 : SH[75]? = some (.inr (.inl 0)) := by decide +kernel
theorem s0_76 : SH[76]? = some (.inl 12) := by decide +kernel
theorem s0_77 : SH[77]? = some (.inl 12) := by decide +kernel
theorem s0_78 : SH[78]? = some (.inl 12) := by decide +kernel
theorem s0_79 : SH[79]? = some (.inl 12) := by decide +kernel
theorem s0_80 : SH[80]? = some (.inl 12) := by decide +kernel
theorem s0_81 : SH[81]? = some (.inl 12) := by decide +kernel
theorem s0_82 : SH[82]? = some (.inr (.inl 0)) := by decide +kernel
theorem s0_83 : SH[83]? = some (.inl 12) := by decide +kernel
theorem s0_84 : SH[84]? = some (.inl 12) := by decide +kernel
theorem s0_85 : SH[85]? = some (.inl 12) := by decide +kernel
theorem s0_86 : SH[86]? = some (.inl 12) := by decide +kernel
theorem s0_87 : SH[87]? = some (.inl 12) := by decide +kernel
theorem s0_88 : SH[88]? = some (.inl 12) := by decide +kernel
theorem s0_89 : SH[89]? = some (.inr (.inl 0)) := by decide +kernel
theorem s0_90 : SH[90]? = some (.inl 12) := by decide +kernel
theorem s0_91 : SH[91]? = some (.inl 12) := by decide +kernel
theorem s0_92 : SH[92]? = some (.inl 12) := by decide +kernel
theorem s0_93 : SH[93]? = some (.inl 12) := by decide +kernel
theorem s0_94 : SH[94]? = some (.inl 12) := by decide +kernel
theorem s0_95 : SH[95]? = some (.inl 12) := by decide +kernel
theorem s0_96 : SH[96]? = some (.inr (.inl 2)) := by decide +kernel
theorem s0_97 : SH[97]? = some (.inr (.inl 0)) := by decide +kernel
theorem s0_98 : SH[98]? = some (.inl 12) := by decide +kernel
theorem s0_99 : SH[99]? = some (.inl 12) := by decide +kernel
theorem s0_100 : SH[100]? = some (.inl 12) := by decide +kernel
theorem s0_101 : SH[101]? = some (.inl 12) := by decide +kernel
theorem s0_102 : SH[102]? = some (.inl 12) := by decide +kernel
theorem s0_103 : SH[103]? = some (.inl 12) := by decide +kernel
theorem s0_104 : SH[104]? = some (.inr (.inl 3)) := by decide +kernel
theorem s0_105 : SH[105]? = some (.inl 9) := by decide +kernel
theorem s0_106 : SH[106]? = some (.inr (.inl 7)) := by decide +kernel
theorem s0_107 : SH[107]? = some (.inl 144) := by decide +kernel
theorem s0_108 : SH[108]? = some (.inl 12) := by decide +kernel
theorem s0_109 : SH[109]? = some (.inl 12) := by decide +kernel
theorem s0_110 : SH[110]? = some (.inl 12) := by decide +kernel
theorem s0_111 : SH[111]? = some (.inl 12) := by decide +kernel
theorem s0_112 : SH[112]? = some (.inl 12) := by decide +kernel
theorem s0_113 : SH[113]? = some (.inl 4096) := by decide +kernel
theorem s0_114 : SH[114]? = some (.inl 9) := by decide +kernel
theorem s0_115 : SH[115]? = some (.inr (.inl 9)) := by decide +kernel
theorem s0_116 : SH[116]? = some (.inl 12) := by decide +kernel
theorem s0_117 : SH[117]? = some (.inl 12) := by decide +kernel
theorem s0_118 : SH[118]? = some (.inl 12) := by decide +kernel
theorem s0_119 : SH[119]? = some (.inl 12) := by decide +kernel
theorem s0_120 : SH[120]? = some (.inl 2) := by decide +kernel
theorem s0_121 : SH[121]? = some (.inl 8) := by decide +kernel
theorem s0_122 : SH[122]? = some (.inr (.inl 4)) := by decide +kernel
theorem s0_123 : SH[123]? = some (.inl 400) := by decide +kernel
theorem s0_124 : SH[124]? = some (.inl 16) := by decide +kernel
theorem s0_125 : SH[125]? = some (.inl 16) := by decide +kernel
theorem s0_126 : SH[126]? = some (.inl 16) := by decide +kernel
theorem s0_127 : SH[127]? = some (.inl 16) := by decide +kernel
theorem s0_128 : SH[128]? = some (.inl 32) := by decide +kernel
theorem s0_129 : SH[129]? = some (.inr (.inl 5)) := by decide +kernel
theorem s0_130 : SH[130]? = some (.inl 16) := by decide +kernel
theorem s0_131 : SH[131]? = some (.inl 16) := by decide +kernel
theorem s0_132 : SH[132]? = some (.inl 16) := by decide +kernel
theorem s0_133 : SH[133]? = some (.inr (.inl 8)) := by decide +kernel
theorem s0_134 : SH[134]? = some (.inl 10) := by decide +kernel
theorem s0_135 : SH[135]? = some (.inl 10) := by decide +kernel
theorem s0_136 : SH[136]? = some (.inl 10) := by decide +kernel
theorem s0_137 : SH[137]? = some (.inr (.inl 0)) := by decide +kernel
theorem s0_138 : SH[138]? = some (.inl 12) := by decide +kernel
theorem s0_139 : SH[139]? = some (.inl 12) := by decide +kernel
theorem s0_140 : SH[140]? = some (.inl 12) := by decide +kernel
theorem s0_141 : SH[141]? = some (.inl 12) := by decide +kernel
theorem s0_142 : SH[142]? = some (.inl 12) := by decide +kernel
theorem s0_143 : SH[143]? = some (.inl 12) := by decide +kernel
theorem s0_144 : SH[144]? = some (.inr (.inl 1)) := by decide +kernel
theorem s0_145 : SH[145]? = some (.inl 600) := by decide +kernel
