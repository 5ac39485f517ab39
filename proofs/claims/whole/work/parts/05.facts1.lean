def FU : Nat := 10000
def DFU : Nat := 12
theorem nn_ {α : Type} {x : α} {P : Prop} (h : none = some x) : P := by cases h
theorem it {α : Type} {p : Prop} [Decidable p] {a b z : α} (h : (if p then a else b) = z) (c : p) : a = z := by rw [if_pos c] at h; exact h
theorem ie {α : Type} {p : Prop} [Decidable p] {a b z : α} (h : (if p then a else b) = z) (c : ¬ p) : b = z := by rw [if_neg c] at h; exact h
def bnd2 {β : Type} (o : Option (Int32 × Mem)) (f : Int32 → Mem → Option β) : Option β := match o with
  | none => none
  | some (x, u) => f x u
theorem o_bnd2 {β : Type} {o : Option (Int32 × Mem)} {f : Int32 → Mem → Option β} {z : β} (h : bnd2 o f = some z) : ∃ x u, o = some (x, u) ∧ f x u = some z := by
  cases o with
  | none => cases h
  | some p => obtain ⟨x, u⟩ := p; exact ⟨x, u, rfl, h⟩
theorem in_of {ws : List Cond} (ps : List Nat) (h : ws = ps.filterMap (fun i => lw_tbl[i]?)) (hg : ws.all goodWord = true) : ∀ w ∈ ws, w ∈ TW := fun w hw => by
  have h1 := List.all_eq_true.mp hg w hw
  rw [h] at hw
  obtain ⟨i, -, hi⟩ := List.mem_filterMap.mp hw
  exact tw_of i hi h1
theorem ic_m1 : Int32.ofInt (-1) = (-1) := by decide
theorem ic_0 : Int32.ofInt 0 = 0 := by decide
theorem ic_1 : Int32.ofInt 1 = 1 := by decide
theorem ic_2 : Int32.ofInt 2 = 2 := by decide
theorem ic_3 : Int32.ofInt 3 = 3 := by decide
theorem ic_4 : Int32.ofInt 4 = 4 := by decide
theorem ic_5 : Int32.ofInt 5 = 5 := by decide
theorem ib_m19 : (Int8.ofInt (-19)).toInt32 = (-19) := by decide
theorem ib_m18 : (Int8.ofInt (-18)).toInt32 = (-18) := by decide
theorem ib_m17 : (Int8.ofInt (-17)).toInt32 = (-17) := by decide
theorem ib_m16 : (Int8.ofInt (-16)).toInt32 = (-16) := by decide
theorem ib_m15 : (Int8.ofInt (-15)).toInt32 = (-15) := by decide
theorem ib_m14 : (Int8.ofInt (-14)).toInt32 = (-14) := by decide
theorem ib_m13 : (Int8.ofInt (-13)).toInt32 = (-13) := by decide
theorem ib_m12 : (Int8.ofInt (-12)).toInt32 = (-12) := by decide
theorem ib_m11 : (Int8.ofInt (-11)).toInt32 = (-11) := by decide
theorem ib_m10 : (Int8.ofInt (-10)).toInt32 = (-10) := by decide
theorem ib_m9 : (Int8.ofInt (-9)).toInt32 = (-9) := by decide
theorem ib_m2 : (Int8.ofInt (-2)).toInt32 = (-2) := by decide
theorem ib_6 : (Int8.ofInt 6).toInt32 = 6 := by decide
theorem ib_7 : (Int8.ofInt 7).toInt32 = 7 := by decide
theorem ib_8 : (Int8.ofInt 8).toInt32 = 8 := by decide
theorem ib_9 : (Int8.ofInt 9).toInt32 = 9 := by decide
theorem ib_10 : (Int8.ofInt 10).toInt32 = 10 := by decide
theorem ib_11 : (Int8.ofInt 11).toInt32 = 11 := by decide
theorem ib_12 : (Int8.ofInt 12).toInt32 = 12 := by decide
theorem ib_13 : (Int8.ofInt 13).toInt32 = 13 := by decide
theorem ib_15 : (Int8.ofInt 15).toInt32 = 15 := by decide
theorem ib_16 : (Int8.ofInt 16).toInt32 = 16 := by decide
theorem ib_20 : (Int8.ofInt 20).toInt32 = 20 := by decide
theorem ib_21 : (Int8.ofInt 21).toInt32 = 21 := by decide
theorem ib_22 : (Int8.ofInt 22).toInt32 = 22 := by decide
theorem ib_23 : (Int8.ofInt 23).toInt32 = 23 := by decide
theorem ib_24 : (Int8.ofInt 24).toInt32 = 24 := by decide
theorem ib_25 : (Int8.ofInt 25).toInt32 = 25 := by decide
theorem ib_26 : (Int8.ofInt 26).toInt32 = 26 := by decide
theorem ib_27 : (Int8.ofInt 27).toInt32 = 27 := by decide
theorem ib_28 : (Int8.ofInt 28).toInt32 = 28 := by decide
theorem ib_29 : (Int8.ofInt 29).toInt32 = 29 := by decide
theorem ib_30 : (Int8.ofInt 30).toInt32 = 30 := by decide
theorem ib_31 : (Int8.ofInt 31).toInt32 = 31 := by decide
theorem ib_32 : (Int8.ofInt 32).toInt32 = 32 := by decide
theorem ib_40 : (Int8.ofInt 40).toInt32 = 40 := by decide
theorem ib_41 : (Int8.ofInt 41).toInt32 = 41 := by decide
theorem ib_42 : (Int8.ofInt 42).toInt32 = 42 := by decide
theorem ib_43 : (Int8.ofInt 43).toInt32 = 43 := by decide
theorem ib_44 : (Int8.ofInt 44).toInt32 = 44 := by decide
theorem ib_45 : (Int8.ofInt 45).toInt32 = 45 := by decide
theorem ib_46 : (Int8.ofInt 46).toInt32 = 46 := by decide
theorem ib_47 : (Int8.ofInt 47).toInt32 = 47 := by decide
theorem ib_48 : (Int8.ofInt 48).toInt32 = 48 := by decide
theorem ib_49 : (Int8.ofInt 49).toInt32 = 49 := by decide
theorem ib_50 : (Int8.ofInt 50).toInt32 = 50 := by decide
theorem ib_52 : (Int8.ofInt 52).toInt32 = 52 := by decide
theorem ib_57 : (Int8.ofInt 57).toInt32 = 57 := by decide
theorem ib_59 : (Int8.ofInt 59).toInt32 = 59 := by decide
theorem ib_60 : (Int8.ofInt 60).toInt32 = 60 := by decide
theorem ib_61 : (Int8.ofInt 61).toInt32 = 61 := by decide
theorem ib_62 : (Int8.ofInt 62).toInt32 = 62 := by decide
theorem ib_63 : (Int8.ofInt 63).toInt32 = 63 := by decide
theorem ib_64 : (Int8.ofInt 64).toInt32 = 64 := by decide
theorem ib_65 : (Int8.ofInt 65).toInt32 = 65 := by decide
theorem ib_78 : (Int8.ofInt 78).toInt32 = 78 := by decide
theorem ib_79 : (Int8.ofInt 79).toInt32 = 79 := by decide
theorem ib_80 : (Int8.ofInt 80).toInt32 = 80 := by decide
theorem ib_81 : (Int8.ofInt 81).toInt32 = 81 := by decide
theorem ib_82 : (Int8.ofInt 82).toInt32 = 82 := by decide
theorem ib_84 : (Int8.ofInt 84).toInt32 = 84 := by decide
theorem ib_85 : (Int8.ofInt 85).toInt32 = 85 := by decide
theorem ib_86 : (Int8.ofInt 86).toInt32 = 86 := by decide
theorem ib_87 : (Int8.ofInt 87).toInt32 = 87 := by decide
theorem ib_88 : (Int8.ofInt 88).toInt32 = 88 := by decide
theorem ib_90 : (Int8.ofInt 90).toInt32 = 90 := by decide
theorem ib_97 : (Int8.ofInt 97).toInt32 = 97 := by decide
theorem ib_99 : (Int8.ofInt 99).toInt32 = 99 := by decide
theorem ib_100 : (Int8.ofInt 100).toInt32 = 100 := by decide
theorem ib_102 : (Int8.ofInt 102).toInt32 = 102 := by decide
theorem ib_114 : (Int8.ofInt 114).toInt32 = 114 := by decide
theorem ib_120 : (Int8.ofInt 120).toInt32 = 120 := by decide
theorem ib_122 : (Int8.ofInt 122).toInt32 = 122 := by decide
theorem ib_126 : (Int8.ofInt 126).toInt32 = 126 := by decide
theorem isp_140 : (Int16.ofInt 140).toInt32 = 140 := by decide
theorem isp_141 : (Int16.ofInt 141).toInt32 = 141 := by decide
theorem isp_142 : (Int16.ofInt 142).toInt32 = 142 := by decide
theorem isp_143 : (Int16.ofInt 143).toInt32 = 143 := by decide
theorem isp_145 : (Int16.ofInt 145).toInt32 = 145 := by decide
theorem isp_147 : (Int16.ofInt 147).toInt32 = 147 := by decide
theorem isp_150 : (Int16.ofInt 150).toInt32 = 150 := by decide
theorem isp_158 : (Int16.ofInt 158).toInt32 = 158 := by decide
theorem isp_159 : (Int16.ofInt 159).toInt32 = 159 := by decide
theorem isp_160 : (Int16.ofInt 160).toInt32 = 160 := by decide
theorem isp_161 : (Int16.ofInt 161).toInt32 = 161 := by decide
theorem isp_162 : (Int16.ofInt 162).toInt32 = 162 := by decide
theorem isp_190 : (Int16.ofInt 190).toInt32 = 190 := by decide
theorem isp_222 : (Int16.ofInt 222).toInt32 = 222 := by decide
theorem isp_255 : (Int16.ofInt 255).toInt32 = 255 := by decide
theorem isp_256 : (Int16.ofInt 256).toInt32 = 256 := by decide
theorem isp_257 : (Int16.ofInt 257).toInt32 = 257 := by decide
theorem isp_258 : (Int16.ofInt 258).toInt32 = 258 := by decide
theorem isp_260 : (Int16.ofInt 260).toInt32 = 260 := by decide
theorem isp_261 : (Int16.ofInt 261).toInt32 = 261 := by decide
theorem isp_262 : (Int16.ofInt 262).toInt32 = 262 := by decide
theorem isp_263 : (Int16.ofInt 263).toInt32 = 263 := by decide
theorem isp_264 : (Int16.ofInt 264).toInt32 = 264 := by decide
theorem isp_270 : (Int16.ofInt 270).toInt32 = 270 := by decide
theorem isp_300 : (Int16.ofInt 300).toInt32 = 300 := by decide
theorem isp_390 : (Int16.ofInt 390).toInt32 = 390 := by decide
theorem isp_400 : (Int16.ofInt 400).toInt32 = 400 := by decide
theorem isp_820 : (Int16.ofInt 820).toInt32 = 820 := by decide
theorem isp_900 : (Int16.ofInt 900).toInt32 = 900 := by decide
theorem isp_916 : (Int16.ofInt 916).toInt32 = 916 := by decide
theorem isp_932 : (Int16.ofInt 932).toInt32 = 932 := by decide
theorem isp_948 : (Int16.ofInt 948).toInt32 = 948 := by decide
theorem isp_966 : (Int16.ofInt 966).toInt32 = 966 := by decide
theorem isp_999 : (Int16.ofInt 999).toInt32 = 999 := by decide
theorem isp_1000 : (Int16.ofInt 1000).toInt32 = 1000 := by decide
theorem isp_1786 : (Int16.ofInt 1786).toInt32 = 1786 := by decide
theorem isp_4096 : (Int16.ofInt 4096).toInt32 = 4096 := by decide
theorem isp_9999 : (Int16.ofInt 9999).toInt32 = 9999 := by decide
theorem isp_10000 : (Int16.ofInt 10000).toInt32 = 10000 := by decide
theorem inc_m10 (x : Int32) : x + Int32.ofInt (-10) = x + (-10) := by rw [show Int32.ofInt (-10) = (-10) by decide]
theorem inc_m8 (x : Int32) : x + Int32.ofInt (-8) = x + (-8) := by rw [show Int32.ofInt (-8) = (-8) by decide]
theorem inc_m1 (x : Int32) : x + Int32.ofInt (-1) = x + (-1) := by rw [show Int32.ofInt (-1) = (-1) by decide]
theorem inc_1 (x : Int32) : x + Int32.ofInt 1 = x + 1 := by rw [show Int32.ofInt 1 = 1 by decide]
theorem inc_6 (x : Int32) : x + Int32.ofInt 6 = x + 6 := by rw [show Int32.ofInt 6 = 6 by decide]
theorem n_0 : (0 : Int32) = nI 0 := by decide
theorem n_1 : (1 : Int32) = nI 1 := by decide
theorem n_2 : (2 : Int32) = nI 2 := by decide
theorem n_3 : (3 : Int32) = nI 3 := by decide
theorem n_4 : (4 : Int32) = nI 4 := by decide
theorem n_5 : (5 : Int32) = nI 5 := by decide
theorem n_6 : (6 : Int32) = nI 6 := by decide
theorem n_7 : (7 : Int32) = nI 7 := by decide
theorem n_8 : (8 : Int32) = nI 8 := by decide
theorem n_78 : (78 : Int32) = nI 78 := by decide
theorem n_79 : (79 : Int32) = nI 79 := by decide
theorem n_80 : (80 : Int32) = nI 80 := by decide
theorem n_81 : (81 : Int32) = nI 81 := by decide
theorem n_84 : (84 : Int32) = nI 84 := by decide
theorem n_85 : (85 : Int32) = nI 85 := by decide
theorem n_86 : (86 : Int32) = nI 86 := by decide
theorem n_87 : (87 : Int32) = nI 87 := by decide
theorem n_88 : (88 : Int32) = nI 88 := by decide
theorem in_0 : ∀ w ∈ u_ws RX0 TX0 10, w ∈ TW := in_of [379, 381, 383, 385, 387, 389, 391, 393, 395, 397] (by decide +kernel) (by decide +kernel)
theorem CI_0 : CI 0 RX0 TX0 10 tyX0 := ⟨rfl, in_0, tyX0_ok, nmX0, rfl⟩
theorem in_1 : ∀ w ∈ u_ws RX1 TX1 1, w ∈ TW := in_of [407] (by decide +kernel) (by decide +kernel)
theorem CI_1 : CI 1 RX1 TX1 1 tyX1 := ⟨rfl, in_1, tyX1_ok, nmX1, rfl⟩
theorem in_2 : ∀ w ∈ u_ws RX2 TX2 6, w ∈ TW := in_of [535, 537, 539, 541, 543, 545] (by decide +kernel) (by decide +kernel)
theorem CI_2 : CI 2 RX2 TX2 6 tyX2 := ⟨rfl, in_2, tyX2_ok, nmX2, rfl⟩
theorem in_3 : ∀ w ∈ u_ws RX3 TX3 7, w ∈ TW := in_of [425, 427, 429, 431, 433, 435, 437] (by decide +kernel) (by decide +kernel)
theorem CI_3 : CI 3 RX3 TX3 7 tyX3 := ⟨rfl, in_3, tyX3_ok, nmX3, rfl⟩
theorem in_4 : ∀ w ∈ u_ws RX4 TX4 8, w ∈ TW := in_of [190, 192, 194, 196, 198, 200, 202, 204] (by decide +kernel) (by decide +kernel)
theorem CI_4 : CI 4 RX4 TX4 8 tyX4 := ⟨rfl, in_4, tyX4_ok, nmX4, rfl⟩
theorem in_5 : ∀ w ∈ u_ws RX5 TX5 4, w ∈ TW := in_of [220, 222, 224, 226] (by decide +kernel) (by decide +kernel)
theorem CI_5 : CI 5 RX5 TX5 4 tyX5 := ⟨rfl, in_5, tyX5_ok, nmX5, rfl⟩
theorem in_6 : ∀ w ∈ u_ws RX6 TX6 15, w ∈ TW := in_of [468, 470, 472, 474, 476, 478, 480, 482, 484, 486, 488, 490, 492, 494, 496] (by decide +kernel) (by decide +kernel)
theorem CI_6 : CI 6 RX6 TX6 15 tyX6 := ⟨rfl, in_6, tyX6_ok, nmX6, rfl⟩
theorem in_7 : ∀ w ∈ u_ws RX7 TX7 13, w ∈ TW := in_of [567, 569, 571, 573, 575, 577, 579, 581, 583, 585, 587, 589, 591] (by decide +kernel) (by decide +kernel)
theorem CI_7 : CI 7 RX7 TX7 13 tyX7 := ⟨rfl, in_7, tyX7_ok, nmX7, rfl⟩
theorem in_8 : ∀ w ∈ u_ws RX8 TX8 4, w ∈ TW := in_of [240, 242, 244, 246] (by decide +kernel) (by decide +kernel)
theorem CI_8 : CI 8 RX8 TX8 4 tyX8 := ⟨rfl, in_8, tyX8_ok, nmX8, rfl⟩
theorem in_9 : ∀ w ∈ u_ws RX9 TX9 16, w ∈ TW := in_of [307, 309, 311, 313, 315, 317, 319, 321, 323, 325, 327, 329, 331, 333, 335, 337] (by decide +kernel) (by decide +kernel)
theorem CI_9 : CI 9 RX9 TX9 16 tyX9 := ⟨rfl, in_9, tyX9_ok, nmX9, rfl⟩
theorem in_10 : ∀ w ∈ u_ws RX10 TX10 3, w ∈ TW := in_of [512, 514, 516] (by decide +kernel) (by decide +kernel)
theorem CI_10 : CI 10 RX10 TX10 3 tyX10 := ⟨rfl, in_10, tyX10_ok, nmX10, rfl⟩
theorem in_11 : ∀ w ∈ u_ws RX11 TX11 12, w ∈ TW := in_of [606, 608, 610, 612, 614, 616, 618, 620, 622, 624, 626, 628] (by decide +kernel) (by decide +kernel)
theorem CI_11 : CI 11 RX11 TX11 12 tyX11 := ⟨rfl, in_11, tyX11_ok, nmX11, rfl⟩
theorem in_12 : ∀ w ∈ u_ws RX12 TX12 33, w ∈ TW := in_of [1415, 1417, 1419, 1421, 1423, 1425, 1427, 1429, 1431, 1433, 1435, 1437, 1439, 1441, 1443, 1445, 1447, 1449, 1451, 1453, 1455, 1457, 1459, 1461, 1463, 1465, 1467, 1469, 1471, 1473, 1475, 1477, 1479] (by decide +kernel) (by decide +kernel)
theorem CI_12 : CI 12 RX12 TX12 33 tyX12 := ⟨rfl, in_12, tyX12_ok, nmX12, rfl⟩
def SH : List Shp := [.inr (.inl 11), .inr (.inl 9), .inl 12, .inl 12, .inl 12, .inl 12, .inl 2, .inl 8, .inr (.inl 4), .inl 400, .inl 16, .inl 16, .inl 16, .inl 16, .inl 32, .inr (.inl 5), .inl 16, .inl 16, .inl 16, .inr (.inl 8), .inl 10, .inl 10, .inl 10, .inr (.inl 0), .inl 12, .inl 12, .inl 12, .inl 12, .inl 12, .inl 12, .inr (.inl 1), .inl 600, .inr (.inl 3), .inl 9, .inr (.inl 6), .inl 400, .inl 401, .inl 401, .inl 401, .inr (.inl 4), .inl 400, .inl 16, .inl 16, .inl 16, .inl 16, .inl 32, .inr (.inl 5), .inl 16, .inl 16, .inl 16, .inl 12, .inl 8, .inr (.inl 10), .inr (.inr 6), .inr (.inl 0), .inl 12, .inl 12, .inl 12, .inl 12, .inl 12, .inl 12, .inr (.inl 0), .inl 12, .inl 12, .inl 12, .inl 12, .inl 12, .inl 12, .inr (.inl 0), .inl 12, .inl 12, .inl 12, .inl 12, .inl 12, .inl 12, .inr (.inl 0), .inl 12, .inl 12, .inl 12, .inl 12, .inl 12, .inl 12, .inr (.inl 0), .inl 12, .inl 12, .inl 12, .inl 12, .inl 12, .inl 12, .inr (.inl 0), .inl 12, .inl 12, .inl 12, .inl 12, .inl 12, .inl 12, .inr (.inl 2), .inr (.inl 0), .inl 12, .inl 12, .inl 12, .inl 12, .inl 12, .inl 12, .inr (.inl 3), .inl 9, .inr (.inl 7), .inl 144, .inl 12, .inl 12, .inl 12, .inl 12, .inl 12, .inl 4096, .inl 9, .inr (.inl 9), .inl 12, .inl 12, .inl 12, .inl 12, .inl 2, .inl 8, .inr (.inl 4), .inl 400, .inl 16, .inl 16, .inl 16, .inl 16, .inl 32, .inr (.inl 5), .inl 16, .inl 16, .inl 16, .inr (.inl 8), .inl 10, .inl 10, .inl 10, .inr (.inl 0), .inl 12, .inl 12, .inl 12, .inl 12, .inl 12, .inl 12, .inr (.inl 1), .inl 600, .inr (.inl 12), .inl 1786, .inl 1786, .inl 468, .inl 78, .inl 64, .inl 820, .inl 48, .inl 400, .inl 420, .inl 10, .inl 4, .inl 53248, .inl 10]
def RHT : List (List (Option Nat)) := [[some 1, some 23, some 30, some 32, some 34, some 52, some 96, some 106, some 115, some 137, some 144, none], [none, some 2, some 3, some 4, some 5, some 6, some 7, none, none, none, none, none, none, some 8, some 15, some 19], [], [], [], [], [], [], [some 9, some 10, some 11, some 12, some 13, some 14, none, none], [], [], [], [], [], [], [some 16, some 17, some 18, none], [], [], [], [some 20, some 21, some 22, none], [], [], [], [some 24, some 25, some 26, some 27, some 28, some 29, none, none, none, none], [], [], [], [], [], [], [some 31], [], [some 1, some 23, some 30, none, some 33, none, none], [], [some 35, some 36, some 37, some 38, some 39, some 46, some 50, some 51, none, none, none, none, none, none, none], [], [], [], [], [some 40, some 41, some 42, some 43, some 44, some 45, none, none], [], [], [], [], [], [], [some 47, some 48, some 49, none], [], [], [], [], [], [some 53, none, none], [some 54, some 61, some 68, some 75, some 82, some 89], [some 55, some 56, some 57, some 58, some 59, some 60, none, none, none, none], [], [], [], [], [], [], [some 62, some 63, some 64, some 65, some 66, some 67, none, none, none, none], [], [], [], [], [], [], [some 69, some 70, some 71, some 72, some 73, some 74, none, none, none, none], [], [], [], [], [], [], [some 76, some 77, some 78, some 79, some 80, some 81, none, none, none, none], [], [], [], [], [], [], [some 83, some 84, some 85, some 86, some 87, some 88, none, none, none, none], [], [], [], [], [], [], [some 90, some 91, some 92, some 93, some 94, some 95, none, none, none, none], [], [], [], [], [], [], [some 1, some 23, some 97, some 104, none, none], [some 98, some 99, some 100, some 101, some 102, some 103, none, none, none, none], [], [], [], [], [], [], [some 1, some 97, some 30, none, some 105, none, none], [], [some 1, some 23, some 32, some 107, some 108, some 109, some 110, some 111, some 112, some 113, some 114, none, none], [], [], [], [], [], [], [], [], [none, some 116, some 117, some 118, some 119, some 120, some 121, none, none, none, none, none, none, some 122, some 129, some 133], [], [], [], [], [], [], [some 123, some 124, some 125, some 126, some 127, some 128, none, none], [], [], [], [], [], [], [some 130, some 131, some 132, none], [], [], [], [some 134, some 135, some 136, none], [], [], [], [some 138, some 139, some 140, some 141, some 142, some 143, none, none, none, none], [], [], [], [], [], [], [some 145], [], [some 147, some 148, some 149, some 150, none, none, some 151, some 152, some 153, some 154, some 155, some 156, none, none, none, none, none, none, none, none, none, none, none, none, none, none, none, none, none, none, some 157, some 158, some 159], [], [], [], [], [], [], [], [], [], [], [], [], []]
def RHO : Rf := fun a k => (RHT.getD a []).getD k none
theorem s_0 : SH[0]? = some (.inr (.inl 11)) := by decide +kernel
theorem s_1 : SH[1]? = some (.inr (.inl 9)) := by decide +kernel
theorem s_2 : SH[2]? = some (.inl 12) := by decide +kernel
theorem s_3 : SH[3]? = some (.inl 12) := by decide +kernel
theorem s_4 : SH[4]? = some (.inl 12) := by decide +kernel
theorem s_5 : SH[5]? = some (.inl 12) := by decide +kernel
theorem s_6 : SH[6]? = some (.inl 2) := by decide +kernel
theorem s_7 : SH[7]? = some (.inl 8) := by decide +kernel
theorem s_8 : SH[8]? = some (.inr (.inl 4)) := by decide +kernel
theorem s_9 : SH[9]? = some (.inl 400) := by decide +kernel
theorem s_10 : SH[10]? = some (.inl 16) := by decide +kernel
theorem s_11 : SH[11]? = some (.inl 16) := by decide +kernel
theorem s_12 : SH[12]? = some (.inl 16) := by decide +kernel
theorem s_13 : SH[13]? = some (.inl 16) := by decide +kernel
theorem s_14 : SH[14]? = some (.inl 32) := by decide +kernel
theorem s_15 : SH[15]? = some (.inr (.inl 5)) := by decide +kernel
theorem s_16 : SH[16]? = some (.inl 16) := by decide +kernel
theorem s_17 : SH[17]? = some (.inl 16) := by decide +kernel
theorem s_18 : SH[18]? = some (.inl 16) := by decide +kernel
theorem s_19 : SH[19]? = some (.inr (.inl 8)) := by decide +kernel
theorem s_20 : SH[20]? = some (.inl 10) := by decide +kernel
theorem s_21 : SH[21]? = some (.inl 10) := by decide +kernel
theorem s_22 : SH[22]? = some (.inl 10) := by decide +kernel
theorem s_23 : SH[23]? = some (.inr (.inl 0)) := by decide +kernel
theorem s_24 : SH[24]? = some (.inl 12) := by decide +kernel
theorem s_25 : SH[25]? = some (.inl 12) := by decide +kernel
theorem s_26 : SH[26]? = some (.inl 12) := by decide +kernel
theorem s_27 : SH[27]? = some (.inl 12) := by decide +kernel
theorem s_28 : SH[28]? = some (.inl 12) := by decide +kernel
theorem s_29 : SH[29]? = some (.inl 12) := by decide +kernel
theorem s_30 : SH[30]? = some (.inr (.inl 1)) := by decide +kernel
theorem s_31 : SH[31]? = some (.inl 600) := by decide +kernel
theorem s_32 : SH[32]? = some (.inr (.inl 3)) := by decide +kernel
theorem s_33 : SH[33]? = some (.inl 9) := by decide +kernel
theorem s_34 : SH[34]? = some (.inr (.inl 6)) := by decide +kernel
theorem s_35 : SH[35]? = some (.inl 400) := by decide +kernel
theorem s_36 : SH[36]? = some (.inl 401) := by decide +kernel
theorem s_37 : SH[37]? = some (.inl 401) := by decide +kernel
theorem s_38 : SH[38]? = some (.inl 401) := by decide +kernel
theorem s_39 : SH[39]? = some (.inr (.inl 4)) := by decide +kernel
theorem s_40 : SH[40]? = some (.inl 400) := by decide +kernel
theorem s_41 : SH[41]? = some (.inl 16) := by decide +kernel
theorem s_42 : SH[42]? = some (.inl 16) := by decide +kernel
theorem s_43 : SH[43]? = some (.inl 16) := by decide +kernel
theorem s_44 : SH[44]? = some (.inl 16) := by decide +kernel
theorem s_45 : SH[45]? = some (.inl 32) := by decide +kernel
theorem s_46 : SH[46]? = some (.inr (.inl 5)) := by decide +kernel
theorem s_47 : SH[47]? = some (.inl 16) := by decide +kernel
theorem s_48 : SH[48]? = some (.inl 16) := by decide +kernel
theorem s_49 : SH[49]? = some (.inl 16) := by decide +kernel
theorem s_50 : SH[50]? = some (.inl 12) := by decide +kernel
theorem s_51 : SH[51]? = some (.inl 8) := by decide +kernel
theorem s_52 : SH[52]? = some (.inr (.inl 10)) := by decide +kernel
theorem s_53 : SH[53]? = some (.inr (.inr 6)) := by decide +kernel
theorem s_54 : SH[54]? = some (.inr (.inl 0)) := by decide +kernel
theorem s_55 : SH[55]? = some (.inl 12) := by decide +kernel
theorem s_56 : SH[56]? = some (.inl 12) := by decide +kernel
theorem s_57 : SH[57]? = some (.inl 12) := by decide +kernel
theorem s_58 : SH[58]? = some (.inl 12) := by decide +kernel
theorem s_59 : SH[59]? = some (.inl 12) := by decide +kernel
theorem s_60 : SH[60]? = some (.inl 12) := by decide +kernel
theorem s_61 : SH[61]? = some (.inr (.inl 0)) := by decide +kernel
theorem s_62 : SH[62]? = some (.inl 12) := by decide +kernel
theorem s_63 : SH[63]? = some (.inl 12) := by decide +kernel
theorem s_64 : SH[64]? = some (.inl 12) := by decide +kernel
theorem s_65 : SH[65]? = some (.inl 12) := by decide +kernel
theorem s_66 : SH[66]? = some (.inl 12) := by decide +kernel
theorem s_67 : SH[67]? = some (.inl 12) := by decide +kernel
theorem s_68 : SH[68]? = some (.inr (.inl 0)) := by decide +kernel
theorem s_69 : SH[69]? = some (.inl 12) := by decide +kernel
theorem s_70 : SH[70]? = some (.inl 12) := by decide +kernel
theorem s_71 : SH[71]? = some (.inl 12) := by decide +kernel
theorem s_72 : SH[72]? = some (.inl 12) := by decide +kernel
theorem s_73 : SH[73]? = some (.inl 12) := by decide +kernel
theorem s_74 : SH[74]? = some (.inl 12) := by decide +kernel
theorem s_75 : SH[75]? = some (.inr (.inl 0)) := by decide +kernel
theorem s_76 : SH[76]? = some (.inl 12) := by decide +kernel
theorem s_77 : SH[77]? = some (.inl 12) := by decide +kernel
theorem s_78 : SH[78]? = some (.inl 12) := by decide +kernel
theorem s_79 : SH[79]? = some (.inl 12) := by decide +kernel
theorem s_80 : SH[80]? = some (.inl 12) := by decide +kernel
theorem s_81 : SH[81]? = some (.inl 12) := by decide +kernel
theorem s_82 : SH[82]? = some (.inr (.inl 0)) := by decide +kernel
theorem s_83 : SH[83]? = some (.inl 12) := by decide +kernel
theorem s_84 : SH[84]? = some (.inl 12) := by decide +kernel
theorem s_85 : SH[85]? = some (.inl 12) := by decide +kernel
theorem s_86 : SH[86]? = some (.inl 12) := by decide +kernel
theorem s_87 : SH[87]? = some (.inl 12) := by decide +kernel
theorem s_88 : SH[88]? = some (.inl 12) := by decide +kernel
theorem s_89 : SH[89]? = some (.inr (.inl 0)) := by decide +kernel
theorem s_90 : SH[90]? = some (.inl 12) := by decide +kernel
theorem s_91 : SH[91]? = some (.inl 12) := by decide +kernel
theorem s_92 : SH[92]? = some (.inl 12) := by decide +kernel
theorem s_93 : SH[93]? = some (.inl 12) := by decide +kernel
theorem s_94 : SH[94]? = some (.inl 12) := by decide +kernel
theorem s_95 : SH[95]? = some (.inl 12) := by decide +kernel
theorem s_96 : SH[96]? = some (.inr (.inl 2)) := by decide +kernel
theorem s_97 : SH[97]? = some (.inr (.inl 0)) := by decide +kernel
theorem s_98 : SH[98]? = some (.inl 12) := by decide +kernel
theorem s_99 : SH[99]? = some (.inl 12) := by decide +kernel
theorem s_100 : SH[100]? = some (.inl 12) := by decide +kernel
theorem s_101 : SH[101]? = some (.inl 12) := by decide +kernel
theorem s_102 : SH[102]? = some (.inl 12) := by decide +kernel
theorem s_103 : SH[103]? = some (.inl 12) := by decide +kernel
theorem s_104 : SH[104]? = some (.inr (.inl 3)) := by decide +kernel
theorem s_105 : SH[105]? = some (.inl 9) := by decide +kernel
theorem s_106 : SH[106]? = some (.inr (.inl 7)) := by decide +kernel
theorem s_107 : SH[107]? = some (.inl 144) := by decide +kernel
theorem s_108 : SH[108]? = some (.inl 12) := by decide +kernel
theorem s_109 : SH[109]? = some (.inl 12) := by decide +kernel
theorem s_110 : SH[110]? = some (.inl 12) := by decide +kernel
theorem s_111 : SH[111]? = some (.inl 12) := by decide +kernel
theorem s_112 : SH[112]? = some (.inl 12) := by decide +kernel
theorem s_113 : SH[113]? = some (.inl 4096) := by decide +kernel
theorem s_114 : SH[114]? = some (.inl 9) := by decide +kernel
theorem s_115 : SH[115]? = some (.inr (.inl 9)) := by decide +kernel
theorem s_116 : SH[116]? = some (.inl 12) := by decide +kernel
theorem s_117 : SH[117]? = some (.inl 12) := by decide +kernel
theorem s_118 : SH[118]? = some (.inl 12) := by decide +kernel
theorem s_119 : SH[119]? = some (.inl 12) := by decide +kernel
theorem s_120 : SH[120]? = some (.inl 2) := by decide +kernel
theorem s_121 : SH[121]? = some (.inl 8) := by decide +kernel
theorem s_122 : SH[122]? = some (.inr (.inl 4)) := by decide +kernel
theorem s_123 : SH[123]? = some (.inl 400) := by decide +kernel
theorem s_124 : SH[124]? = some (.inl 16) := by decide +kernel
theorem s_125 : SH[125]? = some (.inl 16) := by decide +kernel
theorem s_126 : SH[126]? = some (.inl 16) := by decide +kernel
theorem s_127 : SH[127]? = some (.inl 16) := by decide +kernel
theorem s_128 : SH[128]? = some (.inl 32) := by decide +kernel
theorem s_129 : SH[129]? = some (.inr (.inl 5)) := by decide +kernel
theorem s_130 : SH[130]? = some (.inl 16) := by decide +kernel
theorem s_131 : SH[131]? = some (.inl 16) := by decide +kernel
theorem s_132 : SH[132]? = some (.inl 16) := by decide +kernel
theorem s_133 : SH[133]? = some (.inr (.inl 8)) := by decide +kernel
theorem s_134 : SH[134]? = some (.inl 10) := by decide +kernel
theorem s_135 : SH[135]? = some (.inl 10) := by decide +kernel
theorem s_136 : SH[136]? = some (.inl 10) := by decide +kernel
theorem s_137 : SH[137]? = some (.inr (.inl 0)) := by decide +kernel
theorem s_138 : SH[138]? = some (.inl 12) := by decide +kernel
theorem s_139 : SH[139]? = some (.inl 12) := by decide +kernel
theorem s_140 : SH[140]? = some (.inl 12) := by decide +kernel
theorem s_141 : SH[141]? = some (.inl 12) := by decide +kernel
theorem s_142 : SH[142]? = some (.inl 12) := by decide +kernel
theorem s_143 : SH[143]? = some (.inl 12) := by decide +kernel
theorem s_144 : SH[144]? = some (.inr (.inl 1)) := by decide +kernel
theorem s_145 : SH[145]? = some (.inl 600) := by decide +kernel
theorem s_146 : SH[146]? = some (.inr (.inl 12)) := by decide +kernel
theorem s_147 : SH[147]? = some (.inl 1786) := by decide +kernel
theorem s_148 : SH[148]? = some (.inl 1786) := by decide +kernel
theorem s_149 : SH[149]? = some (.inl 468) := by decide +kernel
theorem s_150 : SH[150]? = some (.inl 78) := by decide +kernel
theorem s_151 : SH[151]? = some (.inl 64) := by decide +kernel
theorem s_152 : SH[152]? = some (.inl 820) := by decide +kernel
theorem s_153 : SH[153]? = some (.inl 48) := by decide +kernel
theorem s_154 : SH[154]? = some (.inl 400) := by decide +kernel
theorem s_155 : SH[155]? = some (.inl 420) := by decide +kernel
theorem s_156 : SH[156]? = some (.inl 10) := by decide +kernel
theorem s_157 : SH[157]? = some (.inl 4) := by decide +kernel
theorem s_158 : SH[158]? = some (.inl 53248) := by decide +kernel
theorem s_159 : SH[159]? = some (.inl 10) := by decide +kernel
theorem r_0_0 : RHO 0 0 = some 1 := by decide +kernel
theorem r_0_1 : RHO 0 1 = some 23 := by decide +kernel
theorem r_0_2 : RHO 0 2 = some 30 := by decide +kernel
theorem r_0_3 : RHO 0 3 = some 32 := by decide +kernel
theorem r_0_4 : RHO 0 4 = some 34 := by decide +kernel
theorem r_0_5 : RHO 0 5 = some 52 := by decide +kernel
theorem r_0_6 : RHO 0 6 = some 96 := by decide +kernel
theorem r_0_7 : RHO 0 7 = some 106 := by decide +kernel
theorem r_0_8 : RHO 0 8 = some 115 := by decide +kernel
theorem r_0_9 : RHO 0 9 = some 137 := by decide +kernel
theorem r_0_10 : RHO 0 10 = some 144 := by decide +kernel
theorem r_1_1 : RHO 1 1 = some 2 := by decide +kernel
theorem r_1_2 : RHO 1 2 = some 3 := by decide +kernel
theorem r_1_3 : RHO 1 3 = some 4 := by decide +kernel
theorem r_1_4 : RHO 1 4 = some 5 := by decide +kernel
theorem r_1_5 : RHO 1 5 = some 6 := by decide +kernel
theorem r_1_6 : RHO 1 6 = some 7 := by decide +kernel
theorem r_1_13 : RHO 1 13 = some 8 := by decide +kernel
theorem r_1_14 : RHO 1 14 = some 15 := by decide +kernel
theorem r_1_15 : RHO 1 15 = some 19 := by decide +kernel
theorem r_8_0 : RHO 8 0 = some 9 := by decide +kernel
theorem r_8_1 : RHO 8 1 = some 10 := by decide +kernel
theorem r_8_2 : RHO 8 2 = some 11 := by decide +kernel
theorem r_8_3 : RHO 8 3 = some 12 := by decide +kernel
theorem r_8_4 : RHO 8 4 = some 13 := by decide +kernel
theorem r_8_5 : RHO 8 5 = some 14 := by decide +kernel
theorem r_15_0 : RHO 15 0 = some 16 := by decide +kernel
theorem r_15_1 : RHO 15 1 = some 17 := by decide +kernel
theorem r_15_2 : RHO 15 2 = some 18 := by decide +kernel
theorem r_19_0 : RHO 19 0 = some 20 := by decide +kernel
theorem r_19_1 : RHO 19 1 = some 21 := by decide +kernel
theorem r_19_2 : RHO 19 2 = some 22 := by decide +kernel
theorem r_23_0 : RHO 23 0 = some 24 := by decide +kernel
theorem r_23_1 : RHO 23 1 = some 25 := by decide +kernel
theorem r_23_2 : RHO 23 2 = some 26 := by decide +kernel
theorem r_23_3 : RHO 23 3 = some 27 := by decide +kernel
theorem r_23_4 : RHO 23 4 = some 28 := by decide +kernel
theorem r_23_5 : RHO 23 5 = some 29 := by decide +kernel
theorem r_30_0 : RHO 30 0 = some 31 := by decide +kernel
theorem r_32_0 : RHO 32 0 = some 1 := by decide +kernel
theorem r_32_1 : RHO 32 1 = some 23 := by decide +kernel
theorem r_32_2 : RHO 32 2 = some 30 := by decide +kernel
theorem r_32_4 : RHO 32 4 = some 33 := by decide +kernel
theorem r_34_0 : RHO 34 0 = some 35 := by decide +kernel
theorem r_34_1 : RHO 34 1 = some 36 := by decide +kernel
theorem r_34_2 : RHO 34 2 = some 37 := by decide +kernel
theorem r_34_3 : RHO 34 3 = some 38 := by decide +kernel
theorem r_34_4 : RHO 34 4 = some 39 := by decide +kernel
theorem r_34_5 : RHO 34 5 = some 46 := by decide +kernel
theorem r_34_6 : RHO 34 6 = some 50 := by decide +kernel
theorem r_34_7 : RHO 34 7 = some 51 := by decide +kernel
theorem r_39_0 : RHO 39 0 = some 40 := by decide +kernel
theorem r_39_1 : RHO 39 1 = some 41 := by decide +kernel
theorem r_39_2 : RHO 39 2 = some 42 := by decide +kernel
theorem r_39_3 : RHO 39 3 = some 43 := by decide +kernel
theorem r_39_4 : RHO 39 4 = some 44 := by decide +kernel
theorem r_39_5 : RHO 39 5 = some 45 := by decide +kernel
theorem r_46_0 : RHO 46 0 = some 47 := by decide +kernel
theorem r_46_1 : RHO 46 1 = some 48 := by decide +kernel
theorem r_46_2 : RHO 46 2 = some 49 := by decide +kernel
theorem r_52_0 : RHO 52 0 = some 53 := by decide +kernel
theorem r_53_0 : RHO 53 0 = some 54 := by decide +kernel
theorem r_53_1 : RHO 53 1 = some 61 := by decide +kernel
theorem r_53_2 : RHO 53 2 = some 68 := by decide +kernel
theorem r_53_3 : RHO 53 3 = some 75 := by decide +kernel
theorem r_53_4 : RHO 53 4 = some 82 := by decide +kernel
theorem r_53_5 : RHO 53 5 = some 89 := by decide +kernel
theorem r_54_0 : RHO 54 0 = some 55 := by decide +kernel
theorem r_54_1 : RHO 54 1 = some 56 := by decide +kernel
theorem r_54_2 : RHO 54 2 = some 57 := by decide +kernel
theorem r_54_3 : RHO 54 3 = some 58 := by decide +kernel
theorem r_54_4 : RHO 54 4 = some 59 := by decide +kernel
theorem r_54_5 : RHO 54 5 = some 60 := by decide +kernel
theorem r_61_0 : RHO 61 0 = some 62 := by decide +kernel
theorem r_61_1 : RHO 61 1 = some 63 := by decide +kernel
theorem r_61_2 : RHO 61 2 = some 64 := by decide +kernel
theorem r_61_3 : RHO 61 3 = some 65 := by decide +kernel
theorem r_61_4 : RHO 61 4 = some 66 := by decide +kernel
theorem r_61_5 : RHO 61 5 = some 67 := by decide +kernel
theorem r_68_0 : RHO 68 0 = some 69 := by decide +kernel
theorem r_68_1 : RHO 68 1 = some 70 := by decide +kernel
theorem r_68_2 : RHO 68 2 = some 71 := by decide +kernel
theorem r_68_3 : RHO 68 3 = some 72 := by decide +kernel
theorem r_68_4 : RHO 68 4 = some 73 := by decide +kernel
theorem r_68_5 : RHO 68 5 = some 74 := by decide +kernel
theorem r_75_0 : RHO 75 0 = some 76 := by decide +kernel
theorem r_75_1 : RHO 75 1 = some 77 := by decide +kernel
theorem r_75_2 : RHO 75 2 = some 78 := by decide +kernel
theorem r_75_3 : RHO 75 3 = some 79 := by decide +kernel
theorem r_75_4 : RHO 75 4 = some 80 := by decide +kernel
theorem r_75_5 : RHO 75 5 = some 81 := by decide +kernel
theorem r_82_0 : RHO 82 0 = some 83 := by decide +kernel
theorem r_82_1 : RHO 82 1 = some 84 := by decide +kernel
theorem r_82_2 : RHO 82 2 = some 85 := by decide +kernel
theorem r_82_3 : RHO 82 3 = some 86 := by decide +kernel
theorem r_82_4 : RHO 82 4 = some 87 := by decide +kernel
theorem r_82_5 : RHO 82 5 = some 88 := by decide +kernel
theorem r_89_0 : RHO 89 0 = some 90 := by decide +kernel
theorem r_89_1 : RHO 89 1 = some 91 := by decide +kernel
theorem r_89_2 : RHO 89 2 = some 92 := by decide +kernel
theorem r_89_3 : RHO 89 3 = some 93 := by decide +kernel
theorem r_89_4 : RHO 89 4 = some 94 := by decide +kernel
theorem r_89_5 : RHO 89 5 = some 95 := by decide +kernel
theorem r_96_0 : RHO 96 0 = some 1 := by decide +kernel
theorem r_96_1 : RHO 96 1 = some 23 := by decide +kernel
theorem r_96_2 : RHO 96 2 = some 97 := by decide +kernel
theorem r_96_3 : RHO 96 3 = some 104 := by decide +kernel
theorem r_97_0 : RHO 97 0 = some 98 := by decide +kernel
theorem r_97_1 : RHO 97 1 = some 99 := by decide +kernel
theorem r_97_2 : RHO 97 2 = some 100 := by decide +kernel
theorem r_97_3 : RHO 97 3 = some 101 := by decide +kernel
theorem r_97_4 : RHO 97 4 = some 102 := by decide +kernel
theorem r_97_5 : RHO 97 5 = some 103 := by decide +kernel
theorem r_104_0 : RHO 104 0 = some 1 := by decide +kernel
theorem r_104_1 : RHO 104 1 = some 97 := by decide +kernel
theorem r_104_2 : RHO 104 2 = some 30 := by decide +kernel
theorem r_104_4 : RHO 104 4 = some 105 := by decide +kernel
theorem r_106_0 : RHO 106 0 = some 1 := by decide +kernel
theorem r_106_1 : RHO 106 1 = some 23 := by decide +kernel
theorem r_106_2 : RHO 106 2 = some 32 := by decide +kernel
theorem r_106_3 : RHO 106 3 = some 107 := by decide +kernel
theorem r_106_4 : RHO 106 4 = some 108 := by decide +kernel
theorem r_106_5 : RHO 106 5 = some 109 := by decide +kernel
theorem r_106_6 : RHO 106 6 = some 110 := by decide +kernel
theorem r_106_7 : RHO 106 7 = some 111 := by decide +kernel
theorem r_106_8 : RHO 106 8 = some 112 := by decide +kernel
theorem r_106_9 : RHO 106 9 = some 113 := by decide +kernel
theorem r_106_10 : RHO 106 10 = some 114 := by decide +kernel
theorem r_115_1 : RHO 115 1 = some 116 := by decide +kernel
theorem r_115_2 : RHO 115 2 = some 117 := by decide +kernel
theorem r_115_3 : RHO 115 3 = some 118 := by decide +kernel
theorem r_115_4 : RHO 115 4 = some 119 := by decide +kernel
theorem r_115_5 : RHO 115 5 = some 120 := by decide +kernel
theorem r_115_6 : RHO 115 6 = some 121 := by decide +kernel
theorem r_115_13 : RHO 115 13 = some 122 := by decide +kernel
theorem r_115_14 : RHO 115 14 = some 129 := by decide +kernel
theorem r_115_15 : RHO 115 15 = some 133 := by decide +kernel
theorem r_122_0 : RHO 122 0 = some 123 := by decide +kernel
theorem r_122_1 : RHO 122 1 = some 124 := by decide +kernel
theorem r_122_2 : RHO 122 2 = some 125 := by decide +kernel
theorem r_122_3 : RHO 122 3 = some 126 := by decide +kernel
theorem r_122_4 : RHO 122 4 = some 127 := by decide +kernel
theorem r_122_5 : RHO 122 5 = some 128 := by decide +kernel
theorem r_129_0 : RHO 129 0 = some 130 := by decide +kernel
theorem r_129_1 : RHO 129 1 = some 131 := by decide +kernel
theorem r_129_2 : RHO 129 2 = some 132 := by decide +kernel
theorem r_133_0 : RHO 133 0 = some 134 := by decide +kernel
theorem r_133_1 : RHO 133 1 = some 135 := by decide +kernel
theorem r_133_2 : RHO 133 2 = some 136 := by decide +kernel
theorem r_137_0 : RHO 137 0 = some 138 := by decide +kernel
theorem r_137_1 : RHO 137 1 = some 139 := by decide +kernel
theorem r_137_2 : RHO 137 2 = some 140 := by decide +kernel
theorem r_137_3 : RHO 137 3 = some 141 := by decide +kernel
theorem r_137_4 : RHO 137 4 = some 142 := by decide +kernel
theorem r_137_5 : RHO 137 5 = some 143 := by decide +kernel
theorem r_144_0 : RHO 144 0 = some 145 := by decide +kernel
theorem r_146_0 : RHO 146 0 = some 147 := by decide +kernel
theorem r_146_1 : RHO 146 1 = some 148 := by decide +kernel
theorem r_146_2 : RHO 146 2 = some 149 := by decide +kernel
theorem r_146_3 : RHO 146 3 = some 150 := by decide +kernel
theorem r_146_6 : RHO 146 6 = some 151 := by decide +kernel
theorem r_146_7 : RHO 146 7 = some 152 := by decide +kernel
theorem r_146_8 : RHO 146 8 = some 153 := by decide +kernel
theorem r_146_9 : RHO 146 9 = some 154 := by decide +kernel
theorem r_146_10 : RHO 146 10 = some 155 := by decide +kernel
theorem r_146_11 : RHO 146 11 = some 156 := by decide +kernel
theorem r_146_30 : RHO 146 30 = some 157 := by decide +kernel
theorem r_146_31 : RHO 146 31 = some 158 := by decide +kernel
theorem r_146_32 : RHO 146 32 = some 159 := by decide +kernel
