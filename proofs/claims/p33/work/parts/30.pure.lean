/-! pure functions that the reading of the system speaks of -/
def strTabW : List (String × Nat × String × List Int32) := [("OldestDown$Reader", 127, "call step nap fade when or and not country age legs breath facts cell day rain hill", [99, 97, 108, 108, 32, 115, 116, 101, 112, 32, 110, 97, 112, 32, 102, 97, 100, 101, 32, 119, 104, 101, 110, 32, 111, 114, 32, 97, 110, 100, 32, 110, 111, 116, 32, 99, 111, 117, 110, 116, 114, 121, 32, 97, 103, 101, 32, 108, 101, 103, 115, 32, 98, 114, 101, 97, 116, 104, 32, 102, 97, 99, 116, 115, 32, 99, 101, 108, 108, 32, 100, 97, 121, 32, 114, 97, 105, 110, 32, 104, 105, 108, 108]), ("OldestDown$Reader", 129, "tells and", [116, 101, 108, 108, 115, 32, 97, 110, 100]), ("OldestDown$Reader", 131, "fact weighs", [102, 97, 99, 116, 32, 119, 101, 105, 103, 104, 115]), ("OldestDown$Reader", 133, "on rest go", [111, 110, 32, 114, 101, 115, 116, 32, 103, 111]), ("OldestDown$Reader", 166, ";+-*/()<=>", [59, 43, 45, 42, 47, 40, 41, 60, 61, 62]), ("OldestDownModel", 120, "when", [119, 104, 101, 110]), ("OldestDownModel", 122, "or", [111, 114]), ("OldestDownModel", 124, "and", [97, 110, 100]), ("OldestDownModel", 126, "not", [110, 111, 116]), ("OldestDownModel", 128, "call", [99, 97, 108, 108]), ("OldestDownModel", 130, "step", [115, 116, 101, 112]), ("OldestDownModel", 132, "nap", [110, 97, 112]), ("OldestDownModel", 134, "fade", [102, 97, 100, 101]), ("OldestDownModel", 99, "country", [99, 111, 117, 110, 116, 114, 121]), ("OldestDownModel", 105, "age", [97, 103, 101]), ("OldestDownModel", 107, "legs", [108, 101, 103, 115]), ("OldestDownModel", 109, "breath", [98, 114, 101, 97, 116, 104]), ("OldestDownModel", 111, "facts", [102, 97, 99, 116, 115]), ("OldestDownModel", 112, "cell", [99, 101, 108, 108]), ("OldestDownModel", 114, "day", [100, 97, 121]), ("OldestDownModel", 116, "rain", [114, 97, 105, 110]), ("OldestDownModel", 118, "hill", [104, 105, 108, 108]), ("OldestDownModel", 139, "tells", [116, 101, 108, 108, 115]), ("OldestDownModel", 141, "fact", [102, 97, 99, 116]), ("OldestDownModel", 143, "weighs", [119, 101, 105, 103, 104, 115]), ("OldestDownModel", 145, "on", [111, 110]), ("OldestDownModel", 147, "rest", [114, 101, 115, 116]), ("OldestDownModel", 149, "go", [103, 111])]
def strLenW : List Nat := strTabW.map (fun q => q.2.2.2.length)
def strBytW : List (List Int32) := strTabW.map (fun q => q.2.2.2)
def chIW (i k : Nat) : Int32 := ((((strBytW.getD i []).getD k 0) &&& 255).toUInt32 % 65536).toInt32
def S_lenW (i : Nat) : Option Int32 := some (nI (strLenW.getD i 0))
def S_chrW (i : Nat) (k : Int32) : Option Int32 := if k < 0 ∨ strLenW.getD i 0 ≤ k.toNatClampNeg then none else some (chIW i k.toNatClampNeg)
def FX12_forgetsActs_146 (u : Mem) : Option Mem :=
  (some (mupd u 146 4 0)).bind fun u1 => some u1
def FX12_state_146 (p1 : Int32) (u : Mem) : Option (Int32 × Mem) :=
  (some (mupd u 147 2 p1)).bind fun u1 => (FX12_forgetsActs_146 u1).bind fun u3 => some (u 147 2, u3)
def FX12_isIn (p0 p1 p2 : Int32) : Option Int32 :=
  (if p0 < p1 then (some 0) else ((if p2 < p0 then (some 0) else (some 1))))
def FX12_isCountry (p0 : Int32) : Option Int32 :=
  (FX12_isIn p0 0 1).bind fun x1 => (bchk x1).bind fun x2 => some x2
def FX12_man_146 (p1 p2 p3 : Int32) (u : Mem) : Option (Int32 × Mem) :=
  (FX12_isCountry p1).bind fun x1 => (if x1 = 0 then (some ((-1), u)) else ((FX12_isIn p2 0 120).bind fun x3 => (if x3 = 0 then (some ((-1), u)) else ((FX12_isIn p3 1 9).bind fun x5 => (if x5 = 0 then (some ((-1), u)) else ((if (u 147 78) = 12 then (some ((-1), u)) else ((wrA u 147 1786 (90 + (u 147 78)) p1).bind fun u8 => (wrA u8 147 1786 (102 + (u 147 78)) p2).bind fun u9 => (wrA u9 147 1786 (114 + (u 147 78)) p3).bind fun u10 => (wrA u10 147 1786 (4 + (u 147 78)) 50).bind fun u11 => (wrA u11 147 1786 (16 + (u 147 78)) 0).bind fun u12 => (wrA u12 147 1786 (28 + (u 147 78)) 0).bind fun u13 => (wrA u13 147 1786 (40 + (u 147 78)) 0).bind fun u14 => (wrA u14 147 1786 (52 + (u 147 78)) 0).bind fun u15 => (wrA u15 147 1786 (64 + (u 147 78)) 0).bind fun u16 => (some (mupd u16 147 78 ((u16 147 78) + 1))).bind fun u17 => (FX12_forgetsActs_146 u17).bind fun u19 => some (u 147 78, u19)))))))))
def FX12_isMan_146 (p1 : Int32) (u : Mem) : Option Int32 :=
  (FX12_isIn p1 0 ((u 147 78) - 1)).bind fun x1 => (bchk x1).bind fun x2 => some x2
def FX12_canSet_146 (p1 p2 p3 : Int32) (u : Mem) : Option Int32 :=
  (if p1 = 0 then ((FX12_isIn p3 0 99).bind fun x2 => (bchk x2).bind fun x3 => some x3) else ((if p1 = 1 then ((FX12_isIn p3 0 9).bind fun x5 => (bchk x5).bind fun x6 => some x6) else ((if p1 = 2 then ((FX12_isIn p3 0 99).bind fun x8 => (bchk x8).bind fun x9 => some x9) else ((if p1 = 3 then ((FX12_isCountry p2).bind fun x11 => (if x11 = 0 then (some 0) else ((FX12_isIn p3 0 9).bind fun x13 => (if x13 = 0 then (some 0) else (some 1))))) else ((if p1 = 4 then ((FX12_isIn p2 0 15).bind fun x16 => (if x16 = 0 then (some 0) else ((FX12_isIn p3 0 1).bind fun x18 => (if x18 = 0 then (some 0) else (some 1))))) else ((if p1 = 5 then ((FX12_isMan_146 p2 u).bind fun x21 => (if x21 = 0 then (some 0) else ((FX12_isIn p3 0 99).bind fun x23 => (if x23 = 0 then (some 0) else (some 1))))) else ((if p1 = 6 then ((FX12_isMan_146 p2 u).bind fun x26 => (if x26 = 0 then (some 0) else ((FX12_isIn p3 0 999).bind fun x28 => (if x28 = 0 then (some 0) else (some 1))))) else (some 0))))))))))))))
def FX12_placeOf (p0 p1 : Int32) : Option Int32 :=
  (if p0 = 0 then (some 79) else ((if p0 = 1 then (some 80) else ((if p0 = 2 then (some 81) else ((if p0 = 3 then (some (82 + p1)) else ((if p0 = 4 then (some (126 + p1)) else ((if p0 = 5 then (some (4 + p1)) else (some (28 + p1)))))))))))))
def FX12_set_146 (p1 p2 p3 : Int32) (u : Mem) : Option (Int32 × Mem) :=
  (FX12_canSet_146 p1 p2 p3 u).bind fun x1 => (if x1 = 0 then (some (0, u)) else ((FX12_placeOf p1 p2).bind fun x3 => (wrA u 147 1786 x3 p3).bind fun u4 => (FX12_forgetsActs_146 u4).bind fun u6 => some (1, u6)))
def FX12_keeps_146_b51 (k51 : Int32 → Mem → Option Mem) (l1 : Int32) (u : Mem) : Option Mem :=
  (if 78 ≤ l1 then ((some (mupd u 146 4 ((u 146 4) + 1))).bind fun u2 => some u2) else ((rdA u 147 1786 l1).bind fun x3 => (wrA u 149 468 ((78 * (u 146 4)) + l1) x3).bind fun u4 => k51 (l1 + 1) u4))
def FX12_keeps_146_L51 : Nat → Int32 → Mem → Option Mem
  | 0, _, _ => none
  | n + 1, l1, u => FX12_keeps_146_b51 (FX12_keeps_146_L51 n) l1 u
def FX12_keeps_146_b49 (u : Mem) : Option Mem :=
  FX12_keeps_146_L51 FU 0 u
def FX12_keeps_146_b11 (k11 : Int32 → Mem → Option Mem) (l1 : Int32) (u : Mem) : Option Mem :=
  (if 390 ≤ l1 then ((some (mupd u 146 4 ((u 146 4) - 1))).bind fun u2 => FX12_keeps_146_b49 u2) else ((rdA u 149 468 (l1 + 78)).bind fun x3 => (wrA u 149 468 l1 x3).bind fun u4 => k11 (l1 + 1) u4))
def FX12_keeps_146_L11 : Nat → Int32 → Mem → Option Mem
  | 0, _, _ => none
  | n + 1, l1, u => FX12_keeps_146_b11 (FX12_keeps_146_L11 n) l1 u
def FX12_keeps_146 (u : Mem) : Option Mem :=
  (if (u 146 4) = 6 then (FX12_keeps_146_L11 FU 0 u) else (FX12_keeps_146_b49 u))
def FX12_teach_146 (p1 p2 : Int32) (u : Mem) : Option (Int32 × Mem) :=
  (FX12_isMan_146 p1 u).bind fun x1 => (if x1 = 0 then (some (0, u)) else ((FX12_isIn p2 0 7).bind fun x3 => (if x3 = 0 then (some (0, u)) else ((rdA u 147 1786 (16 + p1)).bind fun x5 => (if ((x5 >>> (p2 &&& 31)) &&& 1) = 1 then (some (0, u)) else ((FX12_keeps_146 u).bind fun u8 => (rdA u8 147 1786 (16 + p1)).bind fun x9 => (wrA u8 147 1786 (16 + p1) (x9 ||| ((1 : Int32) <<< (p2 &&& 31)))).bind fun u10 => some (1, u10)))))))
def FX12_lesser (p0 p1 : Int32) : Option Int32 :=
  (if p1 ≤ p0 then (some p1) else (some p0))
def FX12_send_146 (p1 p2 p3 : Int32) (u : Mem) : Option (Int32 × Mem) :=
  (FX12_isMan_146 p1 u).bind fun x1 => (if x1 = 0 then (some (0, u)) else ((FX12_isMan_146 p2 u).bind fun x3 => (if x3 = 0 then (some (0, u)) else ((rdA u 147 1786 (90 + p1)).bind fun x5 => (rdA u 147 1786 (90 + p2)).bind fun x6 => (if x5 = x6 then ((rdA u 147 1786 (40 + p1)).bind fun x8 => (if x8 = 0 then ((rdA u 147 1786 (40 + p2)).bind fun x10 => (if x10 = 1 then ((rdA u 147 1786 (102 + p1)).bind fun x12 => (rdA u 147 1786 (102 + p2)).bind fun x13 => (if x12 ≤ x13 then (some (0, u)) else ((rdA u 147 1786 (28 + p2)).bind fun x15 => (FX12_isIn p3 0 x15).bind fun x16 => (if x16 = 0 then (some (0, u)) else ((FX12_keeps_146 u).bind fun u19 => (wrA u19 147 1786 (40 + p1) 1).bind fun u20 => (rdA u20 147 1786 (52 + p2)).bind fun x21 => (wrA u20 147 1786 (52 + p1) x21).bind fun u22 => (wrA u22 147 1786 (40 + p2) 0).bind fun u23 => (rdA u23 147 1786 (28 + p2)).bind fun x24 => (wrA u23 147 1786 (28 + p2) (x24 - p3)).bind fun u25 => (rdA u25 147 1786 (28 + p1)).bind fun x26 => (FX12_lesser 999 (x26 + p3)).bind fun x27 => (wrA u25 147 1786 (28 + p1) x27).bind fun u28 => some (1, u28)))))) else (some (0, u)))) else (some (0, u)))) else (some (0, u)))))))
def FX12_isOf_146 (p1 p2 p3 : Int32) (u : Mem) : Option Int32 :=
  (rdA u 147 1786 (90 + p1)).bind fun x1 => (if x1 = p2 then ((rdA u 147 1786 (40 + p1)).bind fun x3 => (if x3 = p3 then (some 1) else (some 0))) else (some 0))
def FX12_inField_146_b31 (k4 : Int32 → Int32 → Int32 → Mem → Option Int32) (l1 l3 t0 t1 : Int32) (u : Mem) : Option Int32 :=
  k4 l1 (t0 + t1) (l3 + 1) u
def FX12_inField_146_b4 (k4 : Int32 → Int32 → Int32 → Mem → Option Int32) (l1 l2 l3 : Int32) (u : Mem) : Option Int32 :=
  (if (u 147 78) ≤ l3 then (some l2) else ((FX12_isOf_146 l3 l1 1 u).bind fun x2 => (if x2 = 0 then (FX12_inField_146_b31 k4 l1 l3 l2 0 u) else (FX12_inField_146_b31 k4 l1 l3 l2 1 u))))
def FX12_inField_146_L4 : Nat → Int32 → Int32 → Int32 → Mem → Option Int32
  | 0, _, _, _, _ => none
  | n + 1, l1, l2, l3, u => FX12_inField_146_b4 (FX12_inField_146_L4 n) l1 l2 l3 u
def FX12_inField_146 (p1 : Int32) (u : Mem) : Option Int32 :=
  FX12_inField_146_L4 FU p1 0 0 u
def FX12_endOf (p0 : Int32) : Option Int32 :=
  (if p0 = 0 then (some 0) else (some 15))
def FX12_takesField_146 (p1 : Int32) (u : Mem) : Option Mem :=
  (wrA u 147 1786 (40 + p1) 1).bind fun u1 => (rdA u1 147 1786 (90 + p1)).bind fun x2 => (FX12_endOf x2).bind fun x3 => (wrA u1 147 1786 (52 + p1) x3).bind fun u4 => some u4
def FX12_notes_146 (p1 p2 p3 : Int32) (u : Mem) : Option Mem :=
  (if (u 146 28) = 0 then (some u) else ((if (u 147 3) = 150 then (some u) else ((wrA u 147 1786 (300 + (4 * (u 147 3))) (u 147 0)).bind fun u3 => (wrA u3 147 1786 ((300 + (4 * (u 147 3))) + 1) p1).bind fun u4 => (wrA u4 147 1786 ((300 + (4 * (u 147 3))) + 2) p2).bind fun u5 => (wrA u5 147 1786 ((300 + (4 * (u 147 3))) + 3) p3).bind fun u6 => (some (mupd u6 147 3 ((u6 147 3) + 1))).bind fun u7 => some u7))))
def FX12_count_b4 (k4 : Int32 → Int32 → Int32 → Option Int32) (l0 l1 l2 : Int32) : Option Int32 :=
  (if 16 ≤ l2 then (some l1) else (k4 l0 (l1 + ((l0 >>> (l2 &&& 31)) &&& 1)) (l2 + 1)))
def FX12_count_L4 : Nat → Int32 → Int32 → Int32 → Option Int32
  | 0, _, _, _ => none
  | n + 1, l0, l1, l2 => FX12_count_b4 (FX12_count_L4 n) l0 l1 l2
def FX12_count (p0 : Int32) : Option Int32 :=
  FX12_count_L4 FU p0 0 0
def FX12_greater (p0 p1 : Int32) : Option Int32 :=
  (if p0 ≤ p1 then (some p1) else (some p0))
def FX12_both_b101 (l1 l2 : Int32) : Option Int32 :=
  some (l1 ||| l2)
def FX12_both (p0 p1 p2 : Int32) : Option Int32 :=
  (if p0 = 23 then (some (p1 + p2)) else ((if p0 = 24 then (some (p1 - p2)) else ((if p0 = 25 then (some (p1 * p2)) else ((if p0 = 26 then (FX12_both_b101 p1 p2) else ((if p0 = 27 then ((if p2 ≤ p1 then (some 0) else (some 1))) else ((if p0 = 28 then ((if p1 = p2 then (some 1) else (some 0))) else ((if p0 = 29 then ((if p1 ≤ p2 then (some 0) else (some 1))) else ((if p0 = 30 then (FX12_both_b101 p1 p2) else ((if p0 = 31 then (some (p1 &&& p2)) else (FX12_both_b101 p1 p2))))))))))))))))))
def FX12_comesTo_146_b180 (k6 : Int32 → Int32 → Int32 → Int32 → Mem → Option (Int32 × Mem)) (l1 l3 l4 l5 : Int32) (u : Mem) : Option (Int32 × Mem) :=
  k6 l1 l3 l4 (l5 + 1) u
def FX12_comesTo_146_b86 (k6 : Int32 → Int32 → Int32 → Int32 → Mem → Option (Int32 × Mem)) (l1 l3 l4 l5 t1 t2 : Int32) (u : Mem) : Option (Int32 × Mem) :=
  (wrA u 155 420 t1 t2).bind fun u1 => FX12_comesTo_146_b180 k6 l1 l3 (l4 + 1) l5 u1
def FX12_comesTo_146_b6 (k6 : Int32 → Int32 → Int32 → Int32 → Mem → Option (Int32 × Mem)) (l1 l3 l4 l5 : Int32) (u : Mem) : Option (Int32 × Mem) :=
  (if l3 ≤ l5 then (some (u 155 0, u)) else ((rdA u 147 1786 ((966 + (820 * l1)) + (2 * l5))).bind fun x2 => (rdA u 147 1786 (((966 + (820 * l1)) + (2 * l5)) + 1)).bind fun x3 => (if 23 ≤ x2 then ((if x2 = 26 then ((rdA u 155 420 (l4 - 1)).bind fun x13 => (dvI x13 x3).bind fun x14 => (wrA u 155 420 (l4 - 1) x14).bind fun u15 => FX12_comesTo_146_b180 k6 l1 l3 l4 l5 u15) else ((if x2 = 30 then ((rdA u 155 420 (l4 - 1)).bind fun x11 => (wrA u 155 420 (l4 - 1) (1 - x11)).bind fun u12 => FX12_comesTo_146_b180 k6 l1 l3 l4 l5 u12) else ((rdA u 155 420 ((l4 + (-1)) - 1)).bind fun x7 => (rdA u 155 420 (l4 + (-1))).bind fun x8 => (FX12_both x2 x7 x8).bind fun x9 => (wrA u 155 420 ((l4 + (-1)) - 1) x9).bind fun u10 => FX12_comesTo_146_b180 k6 l1 l3 (l4 + (-1)) l5 u10))))) else ((if x2 = 0 then (FX12_comesTo_146_b86 k6 l1 l3 l4 l5 l4 x3 u) else ((rdA u 156 10 x2).bind fun x17 => FX12_comesTo_146_b86 k6 l1 l3 l4 l5 l4 x17 u))))))
def FX12_comesTo_146_L6 : Nat → Int32 → Int32 → Int32 → Int32 → Mem → Option (Int32 × Mem)
  | 0, _, _, _, _, _ => none
  | n + 1, l1, l3, l4, l5, u => FX12_comesTo_146_b6 (FX12_comesTo_146_L6 n) l1 l3 l4 l5 u
def FX12_comesTo_146 (p1 p2 p3 : Int32) (u : Mem) : Option (Int32 × Mem) :=
  FX12_comesTo_146_L6 FU p1 p3 0 p2 u
def FX12_isSo_146 (p1 : Int32) (u : Mem) : Option (Int32 × Mem) :=
  (rdA u 147 1786 (932 + p1)).bind fun x1 => (rdA u 147 1786 (916 + p1)).bind fun x2 => (if x1 = x2 then (some (1, u)) else ((rdA u 147 1786 (916 + p1)).bind fun x4 => (rdA u 147 1786 (932 + p1)).bind fun x5 => bnd2 (FX12_comesTo_146 0 x4 x5 u) fun x6 u7 => (if x6 = 1 then (some (1, u7)) else (some (0, u7)))))
def FX12_says_146_b258 (k185 : Int32 → Int32 → Int32 → Int32 → Mem → Option (Int32 × Mem)) (l1 l3 l4 l6 : Int32) (u : Mem) : Option (Int32 × Mem) :=
  k185 l1 l3 l4 (l6 + 1) u
def FX12_says_146_b185 (k185 : Int32 → Int32 → Int32 → Int32 → Mem → Option (Int32 × Mem)) (l1 l3 l4 l6 : Int32) (u : Mem) : Option (Int32 × Mem) :=
  (if (u 147 84) ≤ l6 then ((FX12_lesser l4 l3).bind fun x2 => (FX12_greater 0 x2).bind fun x3 => some (x3, u)) else ((rdA u 147 1786 (948 + l6)).bind fun x4 => (if x4 = l1 then (bnd2 (FX12_isSo_146 l6 u) fun x6 u7 => (if x6 = 0 then (FX12_says_146_b258 k185 l1 l3 l4 l6 u7) else ((rdA u7 147 1786 (900 + l6)).bind fun x9 => (rdA u7 147 1786 (916 + l6)).bind fun x10 => bnd2 (FX12_comesTo_146 0 x9 x10 u7) fun x11 u12 => (FX12_lesser l4 x11).bind fun x13 => (FX12_greater 0 x13).bind fun x14 => some (x14, u12)))) else (FX12_says_146_b258 k185 l1 l3 l4 l6 u))))
def FX12_says_146_L185 : Nat → Int32 → Int32 → Int32 → Int32 → Mem → Option (Int32 × Mem)
  | 0, _, _, _, _, _ => none
  | n + 1, l1, l3, l4, l6, u => FX12_says_146_b185 (FX12_says_146_L185 n) l1 l3 l4 l6 u
def FX12_says_146_b181 (l1 l3 l4 t1 t2 : Int32) (u : Mem) : Option (Int32 × Mem) :=
  (wrA u 156 10 t1 t2).bind fun u1 => FX12_says_146_L185 FU l1 l3 l4 0 u1
def FX12_says_146_b121 (l1 l2 l3 l4 l5 t1 t2 : Int32) (u : Mem) : Option (Int32 × Mem) :=
  (wrA u 156 10 t1 t2).bind fun u1 => (some (mupd u1 156 7 (u1 147 0))).bind fun u2 => (some (mupd u2 156 8 (u2 147 80))).bind fun u3 => (if l5 = 0 then (FX12_says_146_b181 l1 l3 l4 9 0 u3) else ((rdA u3 147 1786 (52 + l2)).bind fun x5 => (rdA u3 147 1786 (126 + x5)).bind fun x6 => FX12_says_146_b181 l1 l3 l4 9 x6 u3))
def FX12_says_146_b18 (l1 l2 l3 l4 t0 : Int32) (u : Mem) : Option (Int32 × Mem) :=
  (rdA u 147 1786 (90 + l2)).bind fun x1 => (some (mupd u 156 1 x1)).bind fun u2 => (rdA u2 147 1786 (102 + l2)).bind fun x3 => (some (mupd u2 156 2 x3)).bind fun u4 => (rdA u4 147 1786 (114 + l2)).bind fun x5 => (some (mupd u4 156 3 x5)).bind fun u6 => (rdA u6 147 1786 (4 + l2)).bind fun x7 => (some (mupd u6 156 4 x7)).bind fun u8 => (rdA u8 147 1786 (16 + l2)).bind fun x9 => (FX12_count x9).bind fun x10 => (some (mupd u8 156 5 x10)).bind fun u11 => (if t0 = 0 then (FX12_says_146_b121 l1 l2 l3 l4 t0 6 0 u11) else ((rdA u11 147 1786 (52 + l2)).bind fun x13 => FX12_says_146_b121 l1 l2 l3 l4 t0 6 x13 u11))
def FX12_says_146 (p1 p2 p3 p4 : Int32) (u : Mem) : Option (Int32 × Mem) :=
  (rdA u 147 1786 (40 + p2)).bind fun x1 => (if x1 = 1 then (FX12_says_146_b18 p1 p2 p3 p4 1 u) else (FX12_says_146_b18 p1 p2 p3 p4 0 u))
def FX12_callOf_146 (p1 : Int32) (u : Mem) : Option (Int32 × Mem) :=
  (rdA u 147 1786 (102 + p1)).bind fun x1 => (if (u 146 27) ≤ x1 then ((rdA u 147 1786 (102 + p1)).bind fun x3 => bnd2 (FX12_says_146 20 p1 (x3 - 59) 120 u) fun x4 u5 => some (x4, u5)) else (some (0, u)))
def FX12_isCalledFirst_146 (p1 p2 : Int32) (u : Mem) : Option (Int32 × Mem) :=
  (if p2 = (-1) then (some (1, u)) else (bnd2 (FX12_callOf_146 p1 u) fun x2 u3 => bnd2 (FX12_callOf_146 p2 u3) fun x4 u5 => (if 0 < (x2 - x4) then (some (1, u5)) else ((if (x2 - x4) = 0 then ((rdA u5 147 1786 (102 + p1)).bind fun x8 => (rdA u5 147 1786 (102 + p2)).bind fun x9 => (if x8 ≤ x9 then (some (0, u5)) else (some (1, u5)))) else (some (0, u5)))))))
def FX12_calls_146_b44 (k4 : Int32 → Int32 → Int32 → Mem → Option Mem) (l1 l2 l3 : Int32) (u : Mem) : Option Mem :=
  k4 l1 l2 (l3 + 1) u
def FX12_calls_146_b4 (k4 : Int32 → Int32 → Int32 → Mem → Option Mem) (l1 l2 l3 : Int32) (u : Mem) : Option Mem :=
  (if (u 147 78) ≤ l3 then ((if l2 = (-1) then (some u) else ((FX12_takesField_146 l2 u).bind fun u4 => (rdA u4 147 1786 (52 + l2)).bind fun x5 => (FX12_notes_146 0 l2 x5 u4).bind fun u7 => some u7))) else ((FX12_isOf_146 l3 l1 0 u).bind fun x8 => (if x8 = 0 then (FX12_calls_146_b44 k4 l1 l2 l3 u) else (bnd2 (FX12_callOf_146 l3 u) fun x10 u11 => (if x10 ≤ 0 then (FX12_calls_146_b44 k4 l1 l2 l3 u11) else (bnd2 (FX12_isCalledFirst_146 l3 l2 u11) fun x13 u14 => (if x13 = 0 then (FX12_calls_146_b44 k4 l1 l2 l3 u14) else (FX12_calls_146_b44 k4 l1 l3 l3 u14))))))))
def FX12_calls_146_L4 : Nat → Int32 → Int32 → Int32 → Mem → Option Mem
  | 0, _, _, _, _ => none
  | n + 1, l1, l2, l3, u => FX12_calls_146_b4 (FX12_calls_146_L4 n) l1 l2 l3 u
def FX12_calls_146 (p1 : Int32) (u : Mem) : Option Mem :=
  FX12_calls_146_L4 FU p1 (-1) 0 u
def FX12_rests_146_b73 (k4 : Int32 → Int32 → Int32 → Mem → Option Int32) (l1 l2 l3 : Int32) (u : Mem) : Option Int32 :=
  k4 l1 l2 (l3 + 1) u
def FX12_rests_146_b72 (k4 : Int32 → Int32 → Int32 → Mem → Option Int32) (l1 l3 t0 : Int32) (u : Mem) : Option Int32 :=
  FX12_rests_146_b73 k4 l1 t0 l3 u
def FX12_rests_146_b4 (k4 : Int32 → Int32 → Int32 → Mem → Option Int32) (l1 l2 l3 : Int32) (u : Mem) : Option Int32 :=
  (if (u 147 87) ≤ l3 then ((bchk l2).bind fun x2 => some x2) else ((rdA u 147 1786 (222 + (3 * l3))).bind fun x3 => (if x3 = (u 147 0) then ((rdA u 147 1786 ((222 + (3 * l3)) + 2)).bind fun x5 => (if x5 = l1 then ((rdA u 147 1786 ((222 + (3 * l3)) + 1)).bind fun x7 => (if x7 = 11 then (FX12_rests_146_b72 k4 l1 l3 1 u) else (FX12_rests_146_b72 k4 l1 l3 0 u))) else (FX12_rests_146_b73 k4 l1 l2 l3 u))) else (FX12_rests_146_b73 k4 l1 l2 l3 u))))
def FX12_rests_146_L4 : Nat → Int32 → Int32 → Int32 → Mem → Option Int32
  | 0, _, _, _, _ => none
  | n + 1, l1, l2, l3, u => FX12_rests_146_b4 (FX12_rests_146_L4 n) l1 l2 l3 u
def FX12_rests_146 (p1 : Int32) (u : Mem) : Option Int32 :=
  FX12_rests_146_L4 FU p1 0 0 u
def FX12_napOf_146 (p1 : Int32) (u : Mem) : Option (Int32 × Mem) :=
  bnd2 (FX12_says_146 22 p1 0 99 u) fun x1 u2 => some (x1, u2)
def FX12_stepOf_146 (p1 : Int32) (u : Mem) : Option (Int32 × Mem) :=
  (rdA u 147 1786 (114 + p1)).bind fun x1 => bnd2 (FX12_says_146 21 p1 x1 9 u) fun x2 u3 => some (x2, u3)
def FX12_isHeld_146_b38 (k2 : Int32 → Int32 → Int32 → Mem → Option Int32) (l1 l2 l3 : Int32) (u : Mem) : Option Int32 :=
  k2 l1 l2 (l3 + 1) u
def FX12_isHeld_146_b2 (k2 : Int32 → Int32 → Int32 → Mem → Option Int32) (l1 l2 l3 : Int32) (u : Mem) : Option Int32 :=
  (if (u 147 78) ≤ l3 then (some 0) else ((FX12_isOf_146 l3 l1 1 u).bind fun x2 => (if x2 = 0 then (FX12_isHeld_146_b38 k2 l1 l2 l3 u) else ((rdA u 147 1786 (52 + l3)).bind fun x4 => (if x4 = l2 then (some 1) else (FX12_isHeld_146_b38 k2 l1 l2 l3 u))))))
def FX12_isHeld_146_L2 : Nat → Int32 → Int32 → Int32 → Mem → Option Int32
  | 0, _, _, _, _ => none
  | n + 1, l1, l2, l3, u => FX12_isHeld_146_b2 (FX12_isHeld_146_L2 n) l1 l2 l3 u
def FX12_isHeld_146 (p1 p2 : Int32) (u : Mem) : Option Int32 :=
  FX12_isHeld_146_L2 FU p1 p2 0 u
def FX12_goesOn_146_b143 (k19 : Int32 → Int32 → Int32 → Int32 → Mem → Option Mem) (l1 l2 l3 l4 l6 : Int32) (u : Mem) : Option Mem :=
  k19 l1 l2 (l3 - l6) l4 u
def FX12_goesOn_146_b125 (k19 : Int32 → Int32 → Int32 → Int32 → Mem → Option Mem) (l1 l2 l3 l5 l6 t0 : Int32) (u : Mem) : Option Mem :=
  (if t0 = 0 then (FX12_goesOn_146_b143 k19 l1 l2 l3 t0 l6 u) else ((wrA u 147 1786 (52 + l1) l5).bind fun u2 => FX12_goesOn_146_b143 k19 l1 l2 l3 t0 l6 u2))
def FX12_goesOn_146_b107 (k19 : Int32 → Int32 → Int32 → Int32 → Mem → Option Mem) (l1 l2 l3 l4 l5 t0 : Int32) (u : Mem) : Option Mem :=
  (if l4 = 0 then (FX12_goesOn_146_b125 k19 l1 l2 l3 l5 t0 0 u) else ((if l3 < t0 then (FX12_goesOn_146_b125 k19 l1 l2 l3 l5 t0 0 u) else (FX12_goesOn_146_b125 k19 l1 l2 l3 l5 t0 1 u))))
def FX12_goesOn_146_b84 (k19 : Int32 → Int32 → Int32 → Int32 → Mem → Option Mem) (l1 l2 l3 l5 t0 : Int32) (u : Mem) : Option Mem :=
  (if t0 = 0 then (FX12_goesOn_146_b107 k19 l1 l2 l3 t0 l5 0 u) else ((rdA u 147 1786 (126 + l5)).bind fun x2 => FX12_goesOn_146_b107 k19 l1 l2 l3 t0 l5 (1 + x2) u))
def FX12_goesOn_146_b42 (k19 : Int32 → Int32 → Int32 → Int32 → Mem → Option Mem) (l1 l2 l3 t0 t1 : Int32) (u : Mem) : Option Mem :=
  (if l3 ≤ 0 then (FX12_goesOn_146_b84 k19 l1 l2 l3 (t0 + t1) 0 u) else ((FX12_isIn (t0 + t1) 0 15).bind fun x2 => (if x2 = 0 then (FX12_goesOn_146_b84 k19 l1 l2 l3 (t0 + t1) 0 u) else ((rdA u 147 1786 (52 + l1)).bind fun x4 => (FX12_isHeld_146 (1 - l2) x4 u).bind fun x5 => (if x5 = 0 then (FX12_goesOn_146_b84 k19 l1 l2 l3 (t0 + t1) 1 u) else (FX12_goesOn_146_b84 k19 l1 l2 l3 (t0 + t1) 0 u))))))
def FX12_goesOn_146_b19 (k19 : Int32 → Int32 → Int32 → Int32 → Mem → Option Mem) (l1 l2 l3 l4 : Int32) (u : Mem) : Option Mem :=
  (if l4 = 0 then (some u) else ((rdA u 147 1786 (52 + l1)).bind fun x2 => (if l2 = 0 then (FX12_goesOn_146_b42 k19 l1 l2 l3 x2 1 u) else (FX12_goesOn_146_b42 k19 l1 l2 l3 x2 (-1) u))))
def FX12_goesOn_146_L19 : Nat → Int32 → Int32 → Int32 → Int32 → Mem → Option Mem
  | 0, _, _, _, _, _ => none
  | n + 1, l1, l2, l3, l4, u => FX12_goesOn_146_b19 (FX12_goesOn_146_L19 n) l1 l2 l3 l4 u
def FX12_goesOn_146 (p1 : Int32) (u : Mem) : Option Mem :=
  (rdA u 147 1786 (90 + p1)).bind fun x1 => bnd2 (FX12_stepOf_146 p1 u) fun x2 u3 => FX12_goesOn_146_L19 FU p1 x1 x2 1 u3
def FX12_breathes_146 (p1 p2 : Int32) (u : Mem) : Option Mem :=
  (rdA u 147 1786 (4 + p1)).bind fun x1 => (FX12_lesser 99 (x1 + p2)).bind fun x2 => (wrA u 147 1786 (4 + p1) x2).bind fun u3 => some u3
def FX12_marches_146 (p1 : Int32) (u : Mem) : Option Mem :=
  (rdA u 147 1786 (40 + p1)).bind fun x1 => (if x1 = 1 then ((rdA u 147 1786 (90 + p1)).bind fun x3 => (FX12_rests_146 x3 u).bind fun x4 => (if x4 = 0 then (bnd2 (FX12_napOf_146 p1 u) fun x6 u7 => (if x6 ≤ 0 then ((FX12_goesOn_146 p1 u7).bind fun u10 => some u10) else ((FX12_breathes_146 p1 x6 u7).bind fun u12 => some u12))) else ((FX12_breathes_146 p1 10 u).bind fun u14 => some u14))) else (some u))
def FX12_isThrough_146 (p1 : Int32) (u : Mem) : Option Int32 :=
  (FX12_endOf (1 - p1)).bind fun x1 => (FX12_isHeld_146 p1 x1 u).bind fun x2 => (if x2 = 0 then (some 0) else ((FX12_endOf (1 - p1)).bind fun x4 => (FX12_isHeld_146 (1 - p1) x4 u).bind fun x5 => (if x5 = 0 then (some 1) else (some 0))))
def FX12_breathAt_146_b56 (k5 : Int32 → Int32 → Int32 → Int32 → Mem → Option Int32) (l1 l2 l4 t0 t1 : Int32) (u : Mem) : Option Int32 :=
  k5 l1 l2 (t0 + t1) (l4 + 1) u
def FX12_breathAt_146_b5 (k5 : Int32 → Int32 → Int32 → Int32 → Mem → Option Int32) (l1 l2 l3 l4 : Int32) (u : Mem) : Option Int32 :=
  (if (u 147 78) ≤ l4 then (some l3) else ((FX12_isOf_146 l4 l1 1 u).bind fun x2 => (if x2 = 0 then (FX12_breathAt_146_b56 k5 l1 l2 l4 l3 0 u) else ((rdA u 147 1786 (52 + l4)).bind fun x4 => (if x4 = l2 then ((rdA u 147 1786 (4 + l4)).bind fun x6 => FX12_breathAt_146_b56 k5 l1 l2 l4 l3 x6 u) else (FX12_breathAt_146_b56 k5 l1 l2 l4 l3 0 u))))))
def FX12_breathAt_146_L5 : Nat → Int32 → Int32 → Int32 → Int32 → Mem → Option Int32
  | 0, _, _, _, _, _ => none
  | n + 1, l1, l2, l3, l4, u => FX12_breathAt_146_b5 (FX12_breathAt_146_L5 n) l1 l2 l3 l4 u
def FX12_breathAt_146 (p1 p2 : Int32) (u : Mem) : Option Int32 :=
  FX12_breathAt_146_L5 FU p1 p2 0 0 u
def FX12_youngestAt_146_b72 (k5 : Int32 → Int32 → Int32 → Int32 → Mem → Option Int32) (l1 l2 l3 l4 : Int32) (u : Mem) : Option Int32 :=
  k5 l1 l2 l3 (l4 + 1) u
def FX12_youngestAt_146_b69 (k5 : Int32 → Int32 → Int32 → Int32 → Mem → Option Int32) (l1 l2 l4 : Int32) (u : Mem) : Option Int32 :=
  FX12_youngestAt_146_b72 k5 l1 l2 l4 l4 u
def FX12_youngestAt_146_b5 (k5 : Int32 → Int32 → Int32 → Int32 → Mem → Option Int32) (l1 l2 l3 l4 : Int32) (u : Mem) : Option Int32 :=
  (if (u 147 78) ≤ l4 then (some l3) else ((FX12_isOf_146 l4 l1 1 u).bind fun x2 => (if x2 = 0 then (FX12_youngestAt_146_b72 k5 l1 l2 l3 l4 u) else ((rdA u 147 1786 (52 + l4)).bind fun x4 => (if x4 = l2 then ((if l3 = (-1) then (FX12_youngestAt_146_b69 k5 l1 l2 l4 u) else ((rdA u 147 1786 (102 + l4)).bind fun x7 => (rdA u 147 1786 (102 + l3)).bind fun x8 => (if x8 ≤ x7 then (FX12_youngestAt_146_b72 k5 l1 l2 l3 l4 u) else (FX12_youngestAt_146_b69 k5 l1 l2 l4 u))))) else (FX12_youngestAt_146_b72 k5 l1 l2 l3 l4 u))))))
def FX12_youngestAt_146_L5 : Nat → Int32 → Int32 → Int32 → Int32 → Mem → Option Int32
  | 0, _, _, _, _, _ => none
  | n + 1, l1, l2, l3, l4, u => FX12_youngestAt_146_b5 (FX12_youngestAt_146_L5 n) l1 l2 l3 l4 u
def FX12_youngestAt_146 (p1 p2 : Int32) (u : Mem) : Option Int32 :=
  FX12_youngestAt_146_L5 FU p1 p2 (-1) 0 u
def FX12_isBeaten_146_b169 (k52 : Int32 → Int32 → Int32 → Mem → Option Mem) (l1 l2 l4 : Int32) (u : Mem) : Option Mem :=
  k52 l1 l2 (l4 + 1) u
def FX12_isBeaten_146_b52 (k52 : Int32 → Int32 → Int32 → Mem → Option Mem) (l1 l2 l4 : Int32) (u : Mem) : Option Mem :=
  (if (u 147 78) ≤ l4 then (some u) else ((rdA u 147 1786 (40 + l4)).bind fun x2 => (if x2 = 1 then ((rdA u 147 1786 (52 + l4)).bind fun x4 => (if x4 = l2 then ((rdA u 147 1786 (90 + l4)).bind fun x6 => (if x6 = l1 then ((wrA u 147 1786 (40 + l4) 0).bind fun u8 => (rdA u8 147 1786 (4 + l4)).bind fun x9 => (dvI x9 2).bind fun x10 => (wrA u8 147 1786 (4 + l4) x10).bind fun u11 => (FX12_notes_146 2 l4 l2 u11).bind fun u13 => FX12_isBeaten_146_b169 k52 l1 l2 l4 u13) else ((rdA u 147 1786 (4 + l4)).bind fun x14 => (FX12_greater 0 (x14 - 10)).bind fun x15 => (wrA u 147 1786 (4 + l4) x15).bind fun u16 => FX12_isBeaten_146_b169 k52 l1 l2 l4 u16))) else (FX12_isBeaten_146_b169 k52 l1 l2 l4 u))) else (FX12_isBeaten_146_b169 k52 l1 l2 l4 u))))
def FX12_isBeaten_146_L52 : Nat → Int32 → Int32 → Int32 → Mem → Option Mem
  | 0, _, _, _, _ => none
  | n + 1, l1, l2, l4, u => FX12_isBeaten_146_b52 (FX12_isBeaten_146_L52 n) l1 l2 l4 u
def FX12_isBeaten_146 (p1 p2 : Int32) (u : Mem) : Option Mem :=
  (FX12_youngestAt_146 p1 p2 u).bind fun x1 => (wrA u 147 1786 (40 + x1) 2).bind fun u2 => (wrA u2 147 1786 (64 + x1) (u2 147 0)).bind fun u3 => (some (mupd u3 146 29 ((u3 146 29) + 1))).bind fun u4 => (FX12_notes_146 1 x1 p2 u4).bind fun u6 => FX12_isBeaten_146_L52 FU p1 p2 0 u6
def FX12_fights_146_b103 (k54 : Int32 → Int32 → Mem → Option Mem) (l1 l3 : Int32) (u : Mem) : Option Mem :=
  k54 l1 (l3 + 1) u
def FX12_fights_146_b54 (k54 : Int32 → Int32 → Mem → Option Mem) (l1 l3 : Int32) (u : Mem) : Option Mem :=
  (if (u 147 78) ≤ l3 then (some u) else ((rdA u 147 1786 (40 + l3)).bind fun x2 => (if x2 = 1 then ((rdA u 147 1786 (52 + l3)).bind fun x4 => (if x4 = l1 then ((rdA u 147 1786 (4 + l3)).bind fun x6 => (dvI x6 2).bind fun x7 => (wrA u 147 1786 (4 + l3) x7).bind fun u8 => FX12_fights_146_b103 k54 l1 l3 u8) else (FX12_fights_146_b103 k54 l1 l3 u))) else (FX12_fights_146_b103 k54 l1 l3 u))))
def FX12_fights_146_L54 : Nat → Int32 → Int32 → Mem → Option Mem
  | 0, _, _, _ => none
  | n + 1, l1, l3, u => FX12_fights_146_b54 (FX12_fights_146_L54 n) l1 l3 u
def FX12_fights_146_b47 (l1 t1 : Int32) (u : Mem) : Option Mem :=
  (FX12_isBeaten_146 t1 l1 u).bind fun u2 => some u2
def FX12_fights_146 (p1 : Int32) (u : Mem) : Option Mem :=
  (FX12_isHeld_146 0 p1 u).bind fun x1 => (if x1 = 0 then (some u) else ((FX12_isHeld_146 1 p1 u).bind fun x3 => (if x3 = 0 then (some u) else ((FX12_breathAt_146 0 p1 u).bind fun x5 => (FX12_breathAt_146 1 p1 u).bind fun x6 => (if (x5 - x6) = 0 then (FX12_fights_146_L54 FU p1 0 u) else ((if 0 ≤ (x5 - x6) then (FX12_fights_146_b47 p1 1 u) else (FX12_fights_146_b47 p1 0 u))))))))
def FX12_wages_146_b94 (u : Mem) : Option Mem :=
  (some (mupd u 147 1 0)).bind fun u1 => some u1
def FX12_wages_146_b61 (k61 : Int32 → Mem → Option Mem) (l1 : Int32) (u : Mem) : Option Mem :=
  (if 16 ≤ l1 then ((FX12_isThrough_146 0 u).bind fun x2 => (if x2 = 0 then ((FX12_isThrough_146 1 u).bind fun x4 => (if x4 = 0 then (some u) else (FX12_wages_146_b94 u))) else (FX12_wages_146_b94 u))) else ((FX12_fights_146 l1 u).bind fun u7 => k61 (l1 + 1) u7))
def FX12_wages_146_L61 : Nat → Int32 → Mem → Option Mem
  | 0, _, _ => none
  | n + 1, l1, u => FX12_wages_146_b61 (FX12_wages_146_L61 n) l1 u
def FX12_wages_146_b37 (k37 : Int32 → Mem → Option Mem) (l1 : Int32) (u : Mem) : Option Mem :=
  (if (u 147 78) ≤ l1 then (FX12_wages_146_L61 FU 0 u) else ((FX12_marches_146 l1 u).bind fun u3 => k37 (l1 + 1) u3))
def FX12_wages_146_L37 : Nat → Int32 → Mem → Option Mem
  | 0, _, _ => none
  | n + 1, l1, u => FX12_wages_146_b37 (FX12_wages_146_L37 n) l1 u
def FX12_wages_146_b29 (k2 : Int32 → Mem → Option Mem) (l1 : Int32) (u : Mem) : Option Mem :=
  k2 (l1 + 1) u
def FX12_wages_146_b2 (k2 : Int32 → Mem → Option Mem) (l1 : Int32) (u : Mem) : Option Mem :=
  (if 2 ≤ l1 then (FX12_wages_146_L37 FU 0 u) else ((FX12_inField_146 l1 u).bind fun x2 => (rdA u 147 1786 (82 + l1)).bind fun x3 => (if x3 ≤ x2 then (FX12_wages_146_b29 k2 l1 u) else ((FX12_calls_146 l1 u).bind fun u6 => FX12_wages_146_b29 k2 l1 u6))))
def FX12_wages_146_L2 : Nat → Int32 → Mem → Option Mem
  | 0, _, _ => none
  | n + 1, l1, u => FX12_wages_146_b2 (FX12_wages_146_L2 n) l1 u
def FX12_wages_146 (u : Mem) : Option Mem :=
  FX12_wages_146_L2 FU 0 u
def FX12_toldBy_146_b48 (k4 : Int32 → Int32 → Int32 → Mem → Option Int32) (l1 l2 l3 : Int32) (u : Mem) : Option Int32 :=
  k4 l1 l2 (l3 + 1) u
def FX12_toldBy_146_b4 (k4 : Int32 → Int32 → Int32 → Mem → Option Int32) (l1 l2 l3 : Int32) (u : Mem) : Option Int32 :=
  (if (u 147 85) ≤ l3 then (some l2) else ((rdA u 147 1786 (158 + (2 * l3))).bind fun x2 => (if x2 = l1 then ((rdA u 147 1786 ((158 + (2 * l3)) + 1)).bind fun x4 => FX12_toldBy_146_b48 k4 l1 (l2 ||| x4) l3 u) else (FX12_toldBy_146_b48 k4 l1 l2 l3 u))))
def FX12_toldBy_146_L4 : Nat → Int32 → Int32 → Int32 → Mem → Option Int32
  | 0, _, _, _, _ => none
  | n + 1, l1, l2, l3, u => FX12_toldBy_146_b4 (FX12_toldBy_146_L4 n) l1 l2 l3 u
def FX12_toldBy_146 (p1 : Int32) (u : Mem) : Option Int32 :=
  FX12_toldBy_146_L4 FU p1 0 0 u
def FX12_tells_146_b108 (k15 : Int32 → Mem → Option Mem) (l1 : Int32) (u : Mem) : Option Mem :=
  k15 (l1 + 1) u
def FX12_tells_146_b102 (k49 : Int32 → Int32 → Int32 → Mem → Option Mem) (l1 l2 l3 : Int32) (u : Mem) : Option Mem :=
  k49 l1 l2 (l3 + 1) u
def FX12_tells_146_b49 (k15 : Int32 → Mem → Option Mem) (k49 : Int32 → Int32 → Int32 → Mem → Option Mem) (l1 l2 l3 : Int32) (u : Mem) : Option Mem :=
  (if (u 147 78) ≤ l3 then (FX12_tells_146_b108 k15 l1 u) else ((if ((l2 >>> (l3 &&& 31)) &&& 1) = 1 then ((rdA u 147 1786 (40 + l3)).bind fun x3 => (if x3 = 0 then ((rdA u 147 1786 (16 + l3)).bind fun x5 => (rdA u 147 1786 (16 + l1)).bind fun x6 => (wrA u 147 1786 (16 + l3) (x5 ||| x6)).bind fun u7 => FX12_tells_146_b102 k49 l1 l2 l3 u7) else (FX12_tells_146_b102 k49 l1 l2 l3 u))) else (FX12_tells_146_b102 k49 l1 l2 l3 u))))
def FX12_tells_146_L49 (k15 : Int32 → Mem → Option Mem) : Nat → Int32 → Int32 → Int32 → Mem → Option Mem
  | 0, _, _, _, _ => none
  | n + 1, l1, l2, l3, u => FX12_tells_146_b49 k15 (FX12_tells_146_L49 k15 n) l1 l2 l3 u
def FX12_tells_146_b15 (k15 : Int32 → Mem → Option Mem) (l1 : Int32) (u : Mem) : Option Mem :=
  (if (u 147 78) ≤ l1 then (some u) else ((rdA u 147 1786 (40 + l1)).bind fun x2 => (if x2 = 0 then ((FX12_toldBy_146 l1 u).bind fun x4 => FX12_tells_146_L49 k15 FU l1 x4 0 u) else (FX12_tells_146_b108 k15 l1 u))))
def FX12_tells_146_L15 : Nat → Int32 → Mem → Option Mem
  | 0, _, _ => none
  | n + 1, l1, u => FX12_tells_146_b15 (FX12_tells_146_L15 n) l1 u
def FX12_tells_146 (u : Mem) : Option Mem :=
  (rmI (u 147 0) 7).bind fun x1 => (if x1 = 0 then (FX12_tells_146_L15 FU 0 u) else (some u))
def FX12_draw_146 (p1 : Int32) (u : Mem) : Option (Int32 × Mem) :=
  (some (mupd u 147 2 ((1664525 * (u 147 2)) + 1013904223))).bind fun u1 => (rmI (((u1 147 2 : Int32).toUInt32 >>> ((8 : Int32).toUInt32 &&& Int32.toUInt32 31)).toInt32) p1).bind fun x2 => some (x2, u1)
def FX12_fadeOf_146 (p1 : Int32) (u : Mem) : Option (Int32 × Mem) :=
  bnd2 (FX12_says_146 23 p1 50 1000 u) fun x1 u2 => some (x1, u2)
def FX12_fades_146_b98 (k2 : Int32 → Mem → Option Mem) (l1 : Int32) (u : Mem) : Option Mem :=
  k2 (l1 + 1) u
def FX12_fades_146_b52 (k2 : Int32 → Mem → Option Mem) (k52 : Int32 → Int32 → Mem → Option Mem) (l1 l2 : Int32) (u : Mem) : Option Mem :=
  (rdA u 147 1786 (16 + l1)).bind fun x1 => (if ((x1 >>> (l2 &&& 31)) &&& 1) = 0 then (k52 l1 (l2 + 1) u) else ((rdA u 147 1786 (16 + l1)).bind fun x3 => (wrA u 147 1786 (16 + l1) (x3 &&& (((1 : Int32) <<< (l2 &&& 31)) ^^^ (-1)))).bind fun u4 => (FX12_notes_146 3 l1 l2 u4).bind fun u6 => FX12_fades_146_b98 k2 l1 u6))
def FX12_fades_146_L52 (k2 : Int32 → Mem → Option Mem) : Nat → Int32 → Int32 → Mem → Option Mem
  | 0, _, _, _ => none
  | n + 1, l1, l2, u => FX12_fades_146_b52 k2 (FX12_fades_146_L52 k2 n) l1 l2 u
def FX12_fades_146_b2 (k2 : Int32 → Mem → Option Mem) (l1 : Int32) (u : Mem) : Option Mem :=
  (if (u 147 78) ≤ l1 then (some u) else ((if (u 146 28) = 0 then (FX12_fades_146_b98 k2 l1 u) else ((rdA u 147 1786 (16 + l1)).bind fun x3 => (if x3 = 0 then (FX12_fades_146_b98 k2 l1 u) else (bnd2 (FX12_draw_146 1000 u) fun x5 u6 => bnd2 (FX12_fadeOf_146 l1 u6) fun x7 u8 => (if x5 < x7 then (FX12_fades_146_L52 k2 FU l1 0 u8) else (FX12_fades_146_b98 k2 l1 u8))))))))
def FX12_fades_146_L2 : Nat → Int32 → Mem → Option Mem
  | 0, _, _ => none
  | n + 1, l1, u => FX12_fades_146_b2 (FX12_fades_146_L2 n) l1 u
def FX12_fades_146 (u : Mem) : Option Mem :=
  FX12_fades_146_L2 FU 0 u
def FX12_knownIn_146_b42 (k4 : Int32 → Int32 → Int32 → Mem → Option Int32) (l1 l3 t0 t1 : Int32) (u : Mem) : Option Int32 :=
  k4 l1 (t0 ||| t1) (l3 + 1) u
def FX12_knownIn_146_b4 (k4 : Int32 → Int32 → Int32 → Mem → Option Int32) (l1 l2 l3 : Int32) (u : Mem) : Option Int32 :=
  (if (u 147 78) ≤ l3 then (some l2) else ((rdA u 147 1786 (90 + l3)).bind fun x2 => (if x2 = l1 then ((rdA u 147 1786 (16 + l3)).bind fun x4 => FX12_knownIn_146_b42 k4 l1 l3 l2 x4 u) else (FX12_knownIn_146_b42 k4 l1 l3 l2 0 u))))
def FX12_knownIn_146_L4 : Nat → Int32 → Int32 → Int32 → Mem → Option Int32
  | 0, _, _, _, _ => none
  | n + 1, l1, l2, l3, u => FX12_knownIn_146_b4 (FX12_knownIn_146_L4 n) l1 l2 l3 u
def FX12_knownIn_146 (p1 : Int32) (u : Mem) : Option Int32 :=
  FX12_knownIn_146_L4 FU p1 0 0 u
def FX12_weightOf_146_b46 (k4 : Int32 → Int32 → Int32 → Mem → Option Int32) (l1 l2 l3 : Int32) (u : Mem) : Option Int32 :=
  k4 l1 l2 (l3 + 1) u
def FX12_weightOf_146_b4 (k4 : Int32 → Int32 → Int32 → Mem → Option Int32) (l1 l2 l3 : Int32) (u : Mem) : Option Int32 :=
  (if (u 147 86) ≤ l3 then (some l2) else ((rdA u 147 1786 (190 + (2 * l3))).bind fun x2 => (if x2 = l1 then ((rdA u 147 1786 ((190 + (2 * l3)) + 1)).bind fun x4 => FX12_weightOf_146_b46 k4 l1 x4 l3 u) else (FX12_weightOf_146_b46 k4 l1 l2 l3 u))))
def FX12_weightOf_146_L4 : Nat → Int32 → Int32 → Int32 → Mem → Option Int32
  | 0, _, _, _, _ => none
  | n + 1, l1, l2, l3, u => FX12_weightOf_146_b4 (FX12_weightOf_146_L4 n) l1 l2 l3 u
def FX12_weightOf_146 (p1 : Int32) (u : Mem) : Option Int32 :=
  FX12_weightOf_146_L4 FU p1 1 0 u
def FX12_weightOfSet_146_b29 (k4 : Int32 → Int32 → Int32 → Mem → Option Int32) (l1 l3 t0 t1 : Int32) (u : Mem) : Option Int32 :=
  k4 l1 (t0 + t1) (l3 + 1) u
def FX12_weightOfSet_146_b4 (k4 : Int32 → Int32 → Int32 → Mem → Option Int32) (l1 l2 l3 : Int32) (u : Mem) : Option Int32 :=
  (if 8 ≤ l3 then (some l2) else ((if ((l1 >>> (l3 &&& 31)) &&& 1) = 1 then ((FX12_weightOf_146 l3 u).bind fun x3 => FX12_weightOfSet_146_b29 k4 l1 l3 l2 x3 u) else (FX12_weightOfSet_146_b29 k4 l1 l3 l2 0 u))))
def FX12_weightOfSet_146_L4 : Nat → Int32 → Int32 → Int32 → Mem → Option Int32
  | 0, _, _, _, _ => none
  | n + 1, l1, l2, l3, u => FX12_weightOfSet_146_b4 (FX12_weightOfSet_146_L4 n) l1 l2 l3 u
def FX12_weightOfSet_146 (p1 : Int32) (u : Mem) : Option Int32 :=
  FX12_weightOfSet_146_L4 FU p1 0 0 u
def FX12_isForgotten_146 (p1 : Int32) (u : Mem) : Option Int32 :=
  (FX12_knownIn_146 p1 u).bind fun x1 => (FX12_weightOfSet_146 x1 u).bind fun x2 => (if (u 147 79) ≤ x2 then (some 0) else (some 1))
def FX12_comesBack_146 (p1 : Int32) (u : Mem) : Option Mem :=
  (rdA u 147 1786 (40 + p1)).bind fun x1 => (if x1 = 2 then ((rdA u 147 1786 (64 + p1)).bind fun x3 => (if (u 147 81) ≤ ((u 147 0) - x3) then ((wrA u 147 1786 (40 + p1) 0).bind fun u5 => (FX12_notes_146 5 p1 0 u5).bind fun u7 => some u7) else (some u))) else (some u))
def FX12_ends_146_b60 (k60 : Int32 → Mem → Option Mem) (l1 : Int32) (u : Mem) : Option Mem :=
  (if (u 147 78) ≤ l1 then ((FX12_notes_146 4 (-1) 0 u).bind fun u3 => some u3) else ((wrA u 147 1786 (40 + l1) 0).bind fun u4 => k60 (l1 + 1) u4))
def FX12_ends_146_L60 : Nat → Int32 → Mem → Option Mem
  | 0, _, _ => none
  | n + 1, l1, u => FX12_ends_146_b60 (FX12_ends_146_L60 n) l1 u
def FX12_ends_146_b25 (k25 : Int32 → Mem → Option Mem) (l1 : Int32) (u : Mem) : Option Mem :=
  (if (u 147 78) ≤ l1 then ((if (u 147 1) = 1 then (some u) else (FX12_ends_146_L60 FU 0 u))) else ((FX12_comesBack_146 l1 u).bind fun u4 => k25 (l1 + 1) u4))
def FX12_ends_146_L25 : Nat → Int32 → Mem → Option Mem
  | 0, _, _ => none
  | n + 1, l1, u => FX12_ends_146_b25 (FX12_ends_146_L25 n) l1 u
def FX12_ends_146_b23 (u : Mem) : Option Mem :=
  FX12_ends_146_L25 FU 0 u
def FX12_ends_146_b16 (u : Mem) : Option Mem :=
  (some (mupd u 147 1 0)).bind fun u1 => FX12_ends_146_b23 u1
def FX12_ends_146 (u : Mem) : Option Mem :=
  (FX12_isForgotten_146 0 u).bind fun x1 => (if x1 = 0 then ((FX12_isForgotten_146 1 u).bind fun x3 => (if x3 = 0 then (FX12_ends_146_b23 u) else (FX12_ends_146_b16 u))) else (FX12_ends_146_b16 u))
def FX12_aDay_146_b40 (u : Mem) : Option Mem :=
  (some (mupd u 147 0 ((u 147 0) + 1))).bind fun u1 => some u1
def FX12_aDay_146_b24 (l1 : Int32) (u : Mem) : Option Mem :=
  (FX12_tells_146 u).bind fun u2 => (FX12_fades_146 u2).bind fun u4 => (if l1 = 0 then (FX12_aDay_146_b40 u4) else ((FX12_ends_146 u4).bind fun u7 => FX12_aDay_146_b40 u7))
def FX12_aDay_146_b15 (t0 : Int32) (u : Mem) : Option Mem :=
  (if t0 = 0 then (FX12_aDay_146_b24 t0 u) else ((FX12_wages_146 u).bind fun u3 => FX12_aDay_146_b24 t0 u3))
def FX12_aDay_146 (u : Mem) : Option Mem :=
  (if (u 147 1) = 1 then (FX12_aDay_146_b15 1 u) else (FX12_aDay_146_b15 0 u))
def FX12_days_146_b40 (k40 : Int32 → Int32 → Int32 → Mem → Option (Int32 × Mem)) (l1 l2 l3 : Int32) (u : Mem) : Option (Int32 × Mem) :=
  (if l1 ≤ l3 then (some (l2, u)) else ((FX12_keeps_146 u).bind fun u3 => (FX12_aDay_146 u3).bind fun u5 => k40 l1 (l2 + (u3 147 1)) (l3 + 1) u5))
def FX12_days_146_L40 : Nat → Int32 → Int32 → Int32 → Mem → Option (Int32 × Mem)
  | 0, _, _, _, _ => none
  | n + 1, l1, l2, l3, u => FX12_days_146_b40 (FX12_days_146_L40 n) l1 l2 l3 u
def FX12_days_146 (p1 : Int32) (u : Mem) : Option (Int32 × Mem) :=
  (FX12_isIn p1 1 60).bind fun x1 => (if x1 = 0 then (some ((-1), u)) else ((if ((u 147 0) + p1) ≤ 9999 then ((some (mupd u 146 28 1)).bind fun u4 => (some (mupd u4 146 27 0)).bind fun u5 => FX12_days_146_L40 FU p1 0 0 u5) else (some ((-1), u)))))
def FX12_feed_146_b71 (k18 : Int32 → Int32 → Int32 → Int32 → Int32 → Int32 → Mem → Option (Int32 × Mem)) (l1 l2 l3 l4 l5 l6 t0 : Int32) (u : Mem) : Option (Int32 × Mem) :=
  (rmI l6 4).bind fun x1 => (wrA u 154 400 (u 146 16) ((t0 >>> ((24 - (8 * x1)) &&& 31)) &&& 255)).bind fun u2 => (some (mupd u2 146 16 ((u2 146 16) + 1))).bind fun u3 => k18 l1 l2 l3 l4 l5 (l6 + 1) u3
def FX12_feed_146_b18 (k18 : Int32 → Int32 → Int32 → Int32 → Int32 → Int32 → Mem → Option (Int32 × Mem)) (l1 l2 l3 l4 l5 l6 : Int32) (u : Mem) : Option (Int32 × Mem) :=
  (if 20 ≤ l6 then (some (u 146 16, u)) else ((if 4 ≤ l6 then ((if 8 ≤ l6 then ((if 12 ≤ l6 then ((if 16 ≤ l6 then (FX12_feed_146_b71 k18 l1 l2 l3 l4 l5 l6 l5 u) else (FX12_feed_146_b71 k18 l1 l2 l3 l4 l5 l6 l4 u))) else (FX12_feed_146_b71 k18 l1 l2 l3 l4 l5 l6 l3 u))) else (FX12_feed_146_b71 k18 l1 l2 l3 l4 l5 l6 l2 u))) else (FX12_feed_146_b71 k18 l1 l2 l3 l4 l5 l6 l1 u))))
def FX12_feed_146_L18 : Nat → Int32 → Int32 → Int32 → Int32 → Int32 → Int32 → Mem → Option (Int32 × Mem)
  | 0, _, _, _, _, _, _, _ => none
  | n + 1, l1, l2, l3, l4, l5, l6, u => FX12_feed_146_b18 (FX12_feed_146_L18 n) l1 l2 l3 l4 l5 l6 u
def FX12_feed_146 (p1 p2 p3 p4 p5 : Int32) (u : Mem) : Option (Int32 × Mem) :=
  (if ((u 146 16) + 20) ≤ 400 then (FX12_feed_146_L18 FU p1 p2 p3 p4 p5 0 u) else (some ((-1), u)))
def FX12_end_146 (p1 : Int32) (u : Mem) : Option (Int32 × Mem) :=
  (FX12_isIn p1 0 (u 146 16)).bind fun x1 => (if x1 = 0 then (some (0, u)) else ((some (mupd u 146 16 p1)).bind fun u3 => some (1, u3)))
def FX12_see_146 (p1 : Int32) (u : Mem) : Option Int32 :=
  (if (u 146 16) ≤ p1 then (some (-1)) else ((rdA u 154 400 p1).bind fun x2 => some x2))
def FX12_isLetter (p0 : Int32) : Option Int32 :=
  (FX12_isIn p0 97 122).bind fun x1 => (if x1 = 0 then ((FX12_isIn p0 65 90).bind fun x3 => (if x3 = 0 then (some 0) else (some 1))) else (some 1))
def FX12_isDigit (p0 : Int32) : Option Int32 :=
  (FX12_isIn p0 48 57).bind fun x1 => (bchk x1).bind fun x2 => some x2
def FX12_is_146_5005_b67 (l2 : Int32) (u : Mem) : Option Int32 :=
  (bchk l2).bind fun x1 => some x1
def FX12_is_146_5005_b60 (k24 : Int32 → Int32 → Mem → Option Int32) (l3 t0 : Int32) (u : Mem) : Option Int32 :=
  k24 t0 (l3 + 1) u
def FX12_is_146_5005_b24 (k24 : Int32 → Int32 → Mem → Option Int32) (l2 l3 : Int32) (u : Mem) : Option Int32 :=
  (S_lenW 5).bind fun x1 => (if x1 ≤ l3 then (FX12_is_146_5005_b67 l2 u) else ((if l2 = 0 then (FX12_is_146_5005_b67 l2 u) else ((rdA u 154 400 ((u 146 19) + l3)).bind fun x4 => (S_chrW 5 l3).bind fun x5 => (if x4 = x5 then (FX12_is_146_5005_b60 k24 l3 1 u) else (FX12_is_146_5005_b60 k24 l3 0 u))))))
def FX12_is_146_5005_L24 : Nat → Int32 → Int32 → Mem → Option Int32
  | 0, _, _, _ => none
  | n + 1, l2, l3, u => FX12_is_146_5005_b24 (FX12_is_146_5005_L24 n) l2 l3 u
def FX12_is_146_5005_b21 (t0 : Int32) (u : Mem) : Option Int32 :=
  FX12_is_146_5005_L24 FU t0 0 u
def FX12_is_146_5005 (u : Mem) : Option Int32 :=
  (S_lenW 5).bind fun x1 => (if ((u 146 17) - (u 146 19)) = x1 then (FX12_is_146_5005_b21 1 u) else (FX12_is_146_5005_b21 0 u))
def FX12_is_146_5006_b67 (l2 : Int32) (u : Mem) : Option Int32 :=
  (bchk l2).bind fun x1 => some x1
def FX12_is_146_5006_b60 (k24 : Int32 → Int32 → Mem → Option Int32) (l3 t0 : Int32) (u : Mem) : Option Int32 :=
  k24 t0 (l3 + 1) u
def FX12_is_146_5006_b24 (k24 : Int32 → Int32 → Mem → Option Int32) (l2 l3 : Int32) (u : Mem) : Option Int32 :=
  (S_lenW 6).bind fun x1 => (if x1 ≤ l3 then (FX12_is_146_5006_b67 l2 u) else ((if l2 = 0 then (FX12_is_146_5006_b67 l2 u) else ((rdA u 154 400 ((u 146 19) + l3)).bind fun x4 => (S_chrW 6 l3).bind fun x5 => (if x4 = x5 then (FX12_is_146_5006_b60 k24 l3 1 u) else (FX12_is_146_5006_b60 k24 l3 0 u))))))
def FX12_is_146_5006_L24 : Nat → Int32 → Int32 → Mem → Option Int32
  | 0, _, _, _ => none
  | n + 1, l2, l3, u => FX12_is_146_5006_b24 (FX12_is_146_5006_L24 n) l2 l3 u
def FX12_is_146_5006_b21 (t0 : Int32) (u : Mem) : Option Int32 :=
  FX12_is_146_5006_L24 FU t0 0 u
def FX12_is_146_5006 (u : Mem) : Option Int32 :=
  (S_lenW 6).bind fun x1 => (if ((u 146 17) - (u 146 19)) = x1 then (FX12_is_146_5006_b21 1 u) else (FX12_is_146_5006_b21 0 u))
def FX12_is_146_5007_b67 (l2 : Int32) (u : Mem) : Option Int32 :=
  (bchk l2).bind fun x1 => some x1
def FX12_is_146_5007_b60 (k24 : Int32 → Int32 → Mem → Option Int32) (l3 t0 : Int32) (u : Mem) : Option Int32 :=
  k24 t0 (l3 + 1) u
def FX12_is_146_5007_b24 (k24 : Int32 → Int32 → Mem → Option Int32) (l2 l3 : Int32) (u : Mem) : Option Int32 :=
  (S_lenW 7).bind fun x1 => (if x1 ≤ l3 then (FX12_is_146_5007_b67 l2 u) else ((if l2 = 0 then (FX12_is_146_5007_b67 l2 u) else ((rdA u 154 400 ((u 146 19) + l3)).bind fun x4 => (S_chrW 7 l3).bind fun x5 => (if x4 = x5 then (FX12_is_146_5007_b60 k24 l3 1 u) else (FX12_is_146_5007_b60 k24 l3 0 u))))))
def FX12_is_146_5007_L24 : Nat → Int32 → Int32 → Mem → Option Int32
  | 0, _, _, _ => none
  | n + 1, l2, l3, u => FX12_is_146_5007_b24 (FX12_is_146_5007_L24 n) l2 l3 u
def FX12_is_146_5007_b21 (t0 : Int32) (u : Mem) : Option Int32 :=
  FX12_is_146_5007_L24 FU t0 0 u
def FX12_is_146_5007 (u : Mem) : Option Int32 :=
  (S_lenW 7).bind fun x1 => (if ((u 146 17) - (u 146 19)) = x1 then (FX12_is_146_5007_b21 1 u) else (FX12_is_146_5007_b21 0 u))
def FX12_is_146_5008_b67 (l2 : Int32) (u : Mem) : Option Int32 :=
  (bchk l2).bind fun x1 => some x1
def FX12_is_146_5008_b60 (k24 : Int32 → Int32 → Mem → Option Int32) (l3 t0 : Int32) (u : Mem) : Option Int32 :=
  k24 t0 (l3 + 1) u
def FX12_is_146_5008_b24 (k24 : Int32 → Int32 → Mem → Option Int32) (l2 l3 : Int32) (u : Mem) : Option Int32 :=
  (S_lenW 8).bind fun x1 => (if x1 ≤ l3 then (FX12_is_146_5008_b67 l2 u) else ((if l2 = 0 then (FX12_is_146_5008_b67 l2 u) else ((rdA u 154 400 ((u 146 19) + l3)).bind fun x4 => (S_chrW 8 l3).bind fun x5 => (if x4 = x5 then (FX12_is_146_5008_b60 k24 l3 1 u) else (FX12_is_146_5008_b60 k24 l3 0 u))))))
def FX12_is_146_5008_L24 : Nat → Int32 → Int32 → Mem → Option Int32
  | 0, _, _, _ => none
  | n + 1, l2, l3, u => FX12_is_146_5008_b24 (FX12_is_146_5008_L24 n) l2 l3 u
def FX12_is_146_5008_b21 (t0 : Int32) (u : Mem) : Option Int32 :=
  FX12_is_146_5008_L24 FU t0 0 u
def FX12_is_146_5008 (u : Mem) : Option Int32 :=
  (S_lenW 8).bind fun x1 => (if ((u 146 17) - (u 146 19)) = x1 then (FX12_is_146_5008_b21 1 u) else (FX12_is_146_5008_b21 0 u))
def FX12_is_146_5009_b67 (l2 : Int32) (u : Mem) : Option Int32 :=
  (bchk l2).bind fun x1 => some x1
def FX12_is_146_5009_b60 (k24 : Int32 → Int32 → Mem → Option Int32) (l3 t0 : Int32) (u : Mem) : Option Int32 :=
  k24 t0 (l3 + 1) u
def FX12_is_146_5009_b24 (k24 : Int32 → Int32 → Mem → Option Int32) (l2 l3 : Int32) (u : Mem) : Option Int32 :=
  (S_lenW 9).bind fun x1 => (if x1 ≤ l3 then (FX12_is_146_5009_b67 l2 u) else ((if l2 = 0 then (FX12_is_146_5009_b67 l2 u) else ((rdA u 154 400 ((u 146 19) + l3)).bind fun x4 => (S_chrW 9 l3).bind fun x5 => (if x4 = x5 then (FX12_is_146_5009_b60 k24 l3 1 u) else (FX12_is_146_5009_b60 k24 l3 0 u))))))
def FX12_is_146_5009_L24 : Nat → Int32 → Int32 → Mem → Option Int32
  | 0, _, _, _ => none
  | n + 1, l2, l3, u => FX12_is_146_5009_b24 (FX12_is_146_5009_L24 n) l2 l3 u
def FX12_is_146_5009_b21 (t0 : Int32) (u : Mem) : Option Int32 :=
  FX12_is_146_5009_L24 FU t0 0 u
def FX12_is_146_5009 (u : Mem) : Option Int32 :=
  (S_lenW 9).bind fun x1 => (if ((u 146 17) - (u 146 19)) = x1 then (FX12_is_146_5009_b21 1 u) else (FX12_is_146_5009_b21 0 u))
def FX12_is_146_5010_b67 (l2 : Int32) (u : Mem) : Option Int32 :=
  (bchk l2).bind fun x1 => some x1
def FX12_is_146_5010_b60 (k24 : Int32 → Int32 → Mem → Option Int32) (l3 t0 : Int32) (u : Mem) : Option Int32 :=
  k24 t0 (l3 + 1) u
def FX12_is_146_5010_b24 (k24 : Int32 → Int32 → Mem → Option Int32) (l2 l3 : Int32) (u : Mem) : Option Int32 :=
  (S_lenW 10).bind fun x1 => (if x1 ≤ l3 then (FX12_is_146_5010_b67 l2 u) else ((if l2 = 0 then (FX12_is_146_5010_b67 l2 u) else ((rdA u 154 400 ((u 146 19) + l3)).bind fun x4 => (S_chrW 10 l3).bind fun x5 => (if x4 = x5 then (FX12_is_146_5010_b60 k24 l3 1 u) else (FX12_is_146_5010_b60 k24 l3 0 u))))))
def FX12_is_146_5010_L24 : Nat → Int32 → Int32 → Mem → Option Int32
  | 0, _, _, _ => none
  | n + 1, l2, l3, u => FX12_is_146_5010_b24 (FX12_is_146_5010_L24 n) l2 l3 u
def FX12_is_146_5010_b21 (t0 : Int32) (u : Mem) : Option Int32 :=
  FX12_is_146_5010_L24 FU t0 0 u
def FX12_is_146_5010 (u : Mem) : Option Int32 :=
  (S_lenW 10).bind fun x1 => (if ((u 146 17) - (u 146 19)) = x1 then (FX12_is_146_5010_b21 1 u) else (FX12_is_146_5010_b21 0 u))
def FX12_is_146_5011_b67 (l2 : Int32) (u : Mem) : Option Int32 :=
  (bchk l2).bind fun x1 => some x1
def FX12_is_146_5011_b60 (k24 : Int32 → Int32 → Mem → Option Int32) (l3 t0 : Int32) (u : Mem) : Option Int32 :=
  k24 t0 (l3 + 1) u
def FX12_is_146_5011_b24 (k24 : Int32 → Int32 → Mem → Option Int32) (l2 l3 : Int32) (u : Mem) : Option Int32 :=
  (S_lenW 11).bind fun x1 => (if x1 ≤ l3 then (FX12_is_146_5011_b67 l2 u) else ((if l2 = 0 then (FX12_is_146_5011_b67 l2 u) else ((rdA u 154 400 ((u 146 19) + l3)).bind fun x4 => (S_chrW 11 l3).bind fun x5 => (if x4 = x5 then (FX12_is_146_5011_b60 k24 l3 1 u) else (FX12_is_146_5011_b60 k24 l3 0 u))))))
def FX12_is_146_5011_L24 : Nat → Int32 → Int32 → Mem → Option Int32
  | 0, _, _, _ => none
  | n + 1, l2, l3, u => FX12_is_146_5011_b24 (FX12_is_146_5011_L24 n) l2 l3 u
def FX12_is_146_5011_b21 (t0 : Int32) (u : Mem) : Option Int32 :=
  FX12_is_146_5011_L24 FU t0 0 u
def FX12_is_146_5011 (u : Mem) : Option Int32 :=
  (S_lenW 11).bind fun x1 => (if ((u 146 17) - (u 146 19)) = x1 then (FX12_is_146_5011_b21 1 u) else (FX12_is_146_5011_b21 0 u))
def FX12_is_146_5012_b67 (l2 : Int32) (u : Mem) : Option Int32 :=
  (bchk l2).bind fun x1 => some x1
def FX12_is_146_5012_b60 (k24 : Int32 → Int32 → Mem → Option Int32) (l3 t0 : Int32) (u : Mem) : Option Int32 :=
  k24 t0 (l3 + 1) u
def FX12_is_146_5012_b24 (k24 : Int32 → Int32 → Mem → Option Int32) (l2 l3 : Int32) (u : Mem) : Option Int32 :=
  (S_lenW 12).bind fun x1 => (if x1 ≤ l3 then (FX12_is_146_5012_b67 l2 u) else ((if l2 = 0 then (FX12_is_146_5012_b67 l2 u) else ((rdA u 154 400 ((u 146 19) + l3)).bind fun x4 => (S_chrW 12 l3).bind fun x5 => (if x4 = x5 then (FX12_is_146_5012_b60 k24 l3 1 u) else (FX12_is_146_5012_b60 k24 l3 0 u))))))
def FX12_is_146_5012_L24 : Nat → Int32 → Int32 → Mem → Option Int32
  | 0, _, _, _ => none
  | n + 1, l2, l3, u => FX12_is_146_5012_b24 (FX12_is_146_5012_L24 n) l2 l3 u
def FX12_is_146_5012_b21 (t0 : Int32) (u : Mem) : Option Int32 :=
  FX12_is_146_5012_L24 FU t0 0 u
def FX12_is_146_5012 (u : Mem) : Option Int32 :=
  (S_lenW 12).bind fun x1 => (if ((u 146 17) - (u 146 19)) = x1 then (FX12_is_146_5012_b21 1 u) else (FX12_is_146_5012_b21 0 u))
def FX12_is_146_5013_b67 (l2 : Int32) (u : Mem) : Option Int32 :=
  (bchk l2).bind fun x1 => some x1
def FX12_is_146_5013_b60 (k24 : Int32 → Int32 → Mem → Option Int32) (l3 t0 : Int32) (u : Mem) : Option Int32 :=
  k24 t0 (l3 + 1) u
def FX12_is_146_5013_b24 (k24 : Int32 → Int32 → Mem → Option Int32) (l2 l3 : Int32) (u : Mem) : Option Int32 :=
  (S_lenW 13).bind fun x1 => (if x1 ≤ l3 then (FX12_is_146_5013_b67 l2 u) else ((if l2 = 0 then (FX12_is_146_5013_b67 l2 u) else ((rdA u 154 400 ((u 146 19) + l3)).bind fun x4 => (S_chrW 13 l3).bind fun x5 => (if x4 = x5 then (FX12_is_146_5013_b60 k24 l3 1 u) else (FX12_is_146_5013_b60 k24 l3 0 u))))))
def FX12_is_146_5013_L24 : Nat → Int32 → Int32 → Mem → Option Int32
  | 0, _, _, _ => none
  | n + 1, l2, l3, u => FX12_is_146_5013_b24 (FX12_is_146_5013_L24 n) l2 l3 u
def FX12_is_146_5013_b21 (t0 : Int32) (u : Mem) : Option Int32 :=
  FX12_is_146_5013_L24 FU t0 0 u
def FX12_is_146_5013 (u : Mem) : Option Int32 :=
  (S_lenW 13).bind fun x1 => (if ((u 146 17) - (u 146 19)) = x1 then (FX12_is_146_5013_b21 1 u) else (FX12_is_146_5013_b21 0 u))
def FX12_is_146_5014_b67 (l2 : Int32) (u : Mem) : Option Int32 :=
  (bchk l2).bind fun x1 => some x1
def FX12_is_146_5014_b60 (k24 : Int32 → Int32 → Mem → Option Int32) (l3 t0 : Int32) (u : Mem) : Option Int32 :=
  k24 t0 (l3 + 1) u
def FX12_is_146_5014_b24 (k24 : Int32 → Int32 → Mem → Option Int32) (l2 l3 : Int32) (u : Mem) : Option Int32 :=
  (S_lenW 14).bind fun x1 => (if x1 ≤ l3 then (FX12_is_146_5014_b67 l2 u) else ((if l2 = 0 then (FX12_is_146_5014_b67 l2 u) else ((rdA u 154 400 ((u 146 19) + l3)).bind fun x4 => (S_chrW 14 l3).bind fun x5 => (if x4 = x5 then (FX12_is_146_5014_b60 k24 l3 1 u) else (FX12_is_146_5014_b60 k24 l3 0 u))))))
def FX12_is_146_5014_L24 : Nat → Int32 → Int32 → Mem → Option Int32
  | 0, _, _, _ => none
  | n + 1, l2, l3, u => FX12_is_146_5014_b24 (FX12_is_146_5014_L24 n) l2 l3 u
def FX12_is_146_5014_b21 (t0 : Int32) (u : Mem) : Option Int32 :=
  FX12_is_146_5014_L24 FU t0 0 u
def FX12_is_146_5014 (u : Mem) : Option Int32 :=
  (S_lenW 14).bind fun x1 => (if ((u 146 17) - (u 146 19)) = x1 then (FX12_is_146_5014_b21 1 u) else (FX12_is_146_5014_b21 0 u))
def FX12_is_146_5015_b67 (l2 : Int32) (u : Mem) : Option Int32 :=
  (bchk l2).bind fun x1 => some x1
def FX12_is_146_5015_b60 (k24 : Int32 → Int32 → Mem → Option Int32) (l3 t0 : Int32) (u : Mem) : Option Int32 :=
  k24 t0 (l3 + 1) u
def FX12_is_146_5015_b24 (k24 : Int32 → Int32 → Mem → Option Int32) (l2 l3 : Int32) (u : Mem) : Option Int32 :=
  (S_lenW 15).bind fun x1 => (if x1 ≤ l3 then (FX12_is_146_5015_b67 l2 u) else ((if l2 = 0 then (FX12_is_146_5015_b67 l2 u) else ((rdA u 154 400 ((u 146 19) + l3)).bind fun x4 => (S_chrW 15 l3).bind fun x5 => (if x4 = x5 then (FX12_is_146_5015_b60 k24 l3 1 u) else (FX12_is_146_5015_b60 k24 l3 0 u))))))
def FX12_is_146_5015_L24 : Nat → Int32 → Int32 → Mem → Option Int32
  | 0, _, _, _ => none
  | n + 1, l2, l3, u => FX12_is_146_5015_b24 (FX12_is_146_5015_L24 n) l2 l3 u
def FX12_is_146_5015_b21 (t0 : Int32) (u : Mem) : Option Int32 :=
  FX12_is_146_5015_L24 FU t0 0 u
def FX12_is_146_5015 (u : Mem) : Option Int32 :=
  (S_lenW 15).bind fun x1 => (if ((u 146 17) - (u 146 19)) = x1 then (FX12_is_146_5015_b21 1 u) else (FX12_is_146_5015_b21 0 u))
def FX12_is_146_5016_b67 (l2 : Int32) (u : Mem) : Option Int32 :=
  (bchk l2).bind fun x1 => some x1
def FX12_is_146_5016_b60 (k24 : Int32 → Int32 → Mem → Option Int32) (l3 t0 : Int32) (u : Mem) : Option Int32 :=
  k24 t0 (l3 + 1) u
def FX12_is_146_5016_b24 (k24 : Int32 → Int32 → Mem → Option Int32) (l2 l3 : Int32) (u : Mem) : Option Int32 :=
  (S_lenW 16).bind fun x1 => (if x1 ≤ l3 then (FX12_is_146_5016_b67 l2 u) else ((if l2 = 0 then (FX12_is_146_5016_b67 l2 u) else ((rdA u 154 400 ((u 146 19) + l3)).bind fun x4 => (S_chrW 16 l3).bind fun x5 => (if x4 = x5 then (FX12_is_146_5016_b60 k24 l3 1 u) else (FX12_is_146_5016_b60 k24 l3 0 u))))))
def FX12_is_146_5016_L24 : Nat → Int32 → Int32 → Mem → Option Int32
  | 0, _, _, _ => none
  | n + 1, l2, l3, u => FX12_is_146_5016_b24 (FX12_is_146_5016_L24 n) l2 l3 u
def FX12_is_146_5016_b21 (t0 : Int32) (u : Mem) : Option Int32 :=
  FX12_is_146_5016_L24 FU t0 0 u
def FX12_is_146_5016 (u : Mem) : Option Int32 :=
  (S_lenW 16).bind fun x1 => (if ((u 146 17) - (u 146 19)) = x1 then (FX12_is_146_5016_b21 1 u) else (FX12_is_146_5016_b21 0 u))
def FX12_is_146_5017_b67 (l2 : Int32) (u : Mem) : Option Int32 :=
  (bchk l2).bind fun x1 => some x1
def FX12_is_146_5017_b60 (k24 : Int32 → Int32 → Mem → Option Int32) (l3 t0 : Int32) (u : Mem) : Option Int32 :=
  k24 t0 (l3 + 1) u
def FX12_is_146_5017_b24 (k24 : Int32 → Int32 → Mem → Option Int32) (l2 l3 : Int32) (u : Mem) : Option Int32 :=
  (S_lenW 17).bind fun x1 => (if x1 ≤ l3 then (FX12_is_146_5017_b67 l2 u) else ((if l2 = 0 then (FX12_is_146_5017_b67 l2 u) else ((rdA u 154 400 ((u 146 19) + l3)).bind fun x4 => (S_chrW 17 l3).bind fun x5 => (if x4 = x5 then (FX12_is_146_5017_b60 k24 l3 1 u) else (FX12_is_146_5017_b60 k24 l3 0 u))))))
def FX12_is_146_5017_L24 : Nat → Int32 → Int32 → Mem → Option Int32
  | 0, _, _, _ => none
  | n + 1, l2, l3, u => FX12_is_146_5017_b24 (FX12_is_146_5017_L24 n) l2 l3 u
def FX12_is_146_5017_b21 (t0 : Int32) (u : Mem) : Option Int32 :=
  FX12_is_146_5017_L24 FU t0 0 u
def FX12_is_146_5017 (u : Mem) : Option Int32 :=
  (S_lenW 17).bind fun x1 => (if ((u 146 17) - (u 146 19)) = x1 then (FX12_is_146_5017_b21 1 u) else (FX12_is_146_5017_b21 0 u))
def FX12_is_146_5018_b67 (l2 : Int32) (u : Mem) : Option Int32 :=
  (bchk l2).bind fun x1 => some x1
def FX12_is_146_5018_b60 (k24 : Int32 → Int32 → Mem → Option Int32) (l3 t0 : Int32) (u : Mem) : Option Int32 :=
  k24 t0 (l3 + 1) u
def FX12_is_146_5018_b24 (k24 : Int32 → Int32 → Mem → Option Int32) (l2 l3 : Int32) (u : Mem) : Option Int32 :=
  (S_lenW 18).bind fun x1 => (if x1 ≤ l3 then (FX12_is_146_5018_b67 l2 u) else ((if l2 = 0 then (FX12_is_146_5018_b67 l2 u) else ((rdA u 154 400 ((u 146 19) + l3)).bind fun x4 => (S_chrW 18 l3).bind fun x5 => (if x4 = x5 then (FX12_is_146_5018_b60 k24 l3 1 u) else (FX12_is_146_5018_b60 k24 l3 0 u))))))
def FX12_is_146_5018_L24 : Nat → Int32 → Int32 → Mem → Option Int32
  | 0, _, _, _ => none
  | n + 1, l2, l3, u => FX12_is_146_5018_b24 (FX12_is_146_5018_L24 n) l2 l3 u
def FX12_is_146_5018_b21 (t0 : Int32) (u : Mem) : Option Int32 :=
  FX12_is_146_5018_L24 FU t0 0 u
def FX12_is_146_5018 (u : Mem) : Option Int32 :=
  (S_lenW 18).bind fun x1 => (if ((u 146 17) - (u 146 19)) = x1 then (FX12_is_146_5018_b21 1 u) else (FX12_is_146_5018_b21 0 u))
def FX12_is_146_5019_b67 (l2 : Int32) (u : Mem) : Option Int32 :=
  (bchk l2).bind fun x1 => some x1
def FX12_is_146_5019_b60 (k24 : Int32 → Int32 → Mem → Option Int32) (l3 t0 : Int32) (u : Mem) : Option Int32 :=
  k24 t0 (l3 + 1) u
def FX12_is_146_5019_b24 (k24 : Int32 → Int32 → Mem → Option Int32) (l2 l3 : Int32) (u : Mem) : Option Int32 :=
  (S_lenW 19).bind fun x1 => (if x1 ≤ l3 then (FX12_is_146_5019_b67 l2 u) else ((if l2 = 0 then (FX12_is_146_5019_b67 l2 u) else ((rdA u 154 400 ((u 146 19) + l3)).bind fun x4 => (S_chrW 19 l3).bind fun x5 => (if x4 = x5 then (FX12_is_146_5019_b60 k24 l3 1 u) else (FX12_is_146_5019_b60 k24 l3 0 u))))))
def FX12_is_146_5019_L24 : Nat → Int32 → Int32 → Mem → Option Int32
  | 0, _, _, _ => none
  | n + 1, l2, l3, u => FX12_is_146_5019_b24 (FX12_is_146_5019_L24 n) l2 l3 u
def FX12_is_146_5019_b21 (t0 : Int32) (u : Mem) : Option Int32 :=
  FX12_is_146_5019_L24 FU t0 0 u
def FX12_is_146_5019 (u : Mem) : Option Int32 :=
  (S_lenW 19).bind fun x1 => (if ((u 146 17) - (u 146 19)) = x1 then (FX12_is_146_5019_b21 1 u) else (FX12_is_146_5019_b21 0 u))
def FX12_is_146_5020_b67 (l2 : Int32) (u : Mem) : Option Int32 :=
  (bchk l2).bind fun x1 => some x1
def FX12_is_146_5020_b60 (k24 : Int32 → Int32 → Mem → Option Int32) (l3 t0 : Int32) (u : Mem) : Option Int32 :=
  k24 t0 (l3 + 1) u
def FX12_is_146_5020_b24 (k24 : Int32 → Int32 → Mem → Option Int32) (l2 l3 : Int32) (u : Mem) : Option Int32 :=
  (S_lenW 20).bind fun x1 => (if x1 ≤ l3 then (FX12_is_146_5020_b67 l2 u) else ((if l2 = 0 then (FX12_is_146_5020_b67 l2 u) else ((rdA u 154 400 ((u 146 19) + l3)).bind fun x4 => (S_chrW 20 l3).bind fun x5 => (if x4 = x5 then (FX12_is_146_5020_b60 k24 l3 1 u) else (FX12_is_146_5020_b60 k24 l3 0 u))))))
def FX12_is_146_5020_L24 : Nat → Int32 → Int32 → Mem → Option Int32
  | 0, _, _, _ => none
  | n + 1, l2, l3, u => FX12_is_146_5020_b24 (FX12_is_146_5020_L24 n) l2 l3 u
def FX12_is_146_5020_b21 (t0 : Int32) (u : Mem) : Option Int32 :=
  FX12_is_146_5020_L24 FU t0 0 u
def FX12_is_146_5020 (u : Mem) : Option Int32 :=
  (S_lenW 20).bind fun x1 => (if ((u 146 17) - (u 146 19)) = x1 then (FX12_is_146_5020_b21 1 u) else (FX12_is_146_5020_b21 0 u))
def FX12_is_146_5021_b67 (l2 : Int32) (u : Mem) : Option Int32 :=
  (bchk l2).bind fun x1 => some x1
def FX12_is_146_5021_b60 (k24 : Int32 → Int32 → Mem → Option Int32) (l3 t0 : Int32) (u : Mem) : Option Int32 :=
  k24 t0 (l3 + 1) u
def FX12_is_146_5021_b24 (k24 : Int32 → Int32 → Mem → Option Int32) (l2 l3 : Int32) (u : Mem) : Option Int32 :=
  (S_lenW 21).bind fun x1 => (if x1 ≤ l3 then (FX12_is_146_5021_b67 l2 u) else ((if l2 = 0 then (FX12_is_146_5021_b67 l2 u) else ((rdA u 154 400 ((u 146 19) + l3)).bind fun x4 => (S_chrW 21 l3).bind fun x5 => (if x4 = x5 then (FX12_is_146_5021_b60 k24 l3 1 u) else (FX12_is_146_5021_b60 k24 l3 0 u))))))
def FX12_is_146_5021_L24 : Nat → Int32 → Int32 → Mem → Option Int32
  | 0, _, _, _ => none
  | n + 1, l2, l3, u => FX12_is_146_5021_b24 (FX12_is_146_5021_L24 n) l2 l3 u
def FX12_is_146_5021_b21 (t0 : Int32) (u : Mem) : Option Int32 :=
  FX12_is_146_5021_L24 FU t0 0 u
def FX12_is_146_5021 (u : Mem) : Option Int32 :=
  (S_lenW 21).bind fun x1 => (if ((u 146 17) - (u 146 19)) = x1 then (FX12_is_146_5021_b21 1 u) else (FX12_is_146_5021_b21 0 u))
def FX12_asked_146 (u : Mem) : Option Int32 :=
  (FX12_is_146_5013 u).bind fun x1 => (if x1 = 0 then ((FX12_is_146_5014 u).bind fun x3 => (if x3 = 0 then ((FX12_is_146_5015 u).bind fun x5 => (if x5 = 0 then ((FX12_is_146_5016 u).bind fun x7 => (if x7 = 0 then ((FX12_is_146_5017 u).bind fun x9 => (if x9 = 0 then ((FX12_is_146_5018 u).bind fun x11 => (if x11 = 0 then ((FX12_is_146_5019 u).bind fun x13 => (if x13 = 0 then ((FX12_is_146_5020 u).bind fun x15 => (if x15 = 0 then ((FX12_is_146_5021 u).bind fun x17 => (if x17 = 0 then (some 1) else (some 49))) else (some 48))) else (some 47))) else (some 46))) else (some 45))) else (some 44))) else (some 43))) else (some 42))) else (some 41))
def FX12_lawWord_146 (u : Mem) : Option Int32 :=
  (FX12_is_146_5005 u).bind fun x1 => (if x1 = 0 then ((FX12_is_146_5006 u).bind fun x3 => (if x3 = 0 then ((FX12_is_146_5007 u).bind fun x5 => (if x5 = 0 then ((FX12_is_146_5008 u).bind fun x7 => (if x7 = 0 then ((FX12_is_146_5009 u).bind fun x9 => (if x9 = 0 then ((FX12_is_146_5010 u).bind fun x11 => (if x11 = 0 then ((FX12_is_146_5011 u).bind fun x13 => (if x13 = 0 then ((FX12_is_146_5012 u).bind fun x15 => (if x15 = 0 then ((FX12_asked_146 u).bind fun x17 => some x17) else (some 23))) else (some 22))) else (some 21))) else (some 20))) else (some 6))) else (some 5))) else (some 4))) else (some 3))
def FX12_is_146_5022_b67 (l2 : Int32) (u : Mem) : Option Int32 :=
  (bchk l2).bind fun x1 => some x1
def FX12_is_146_5022_b60 (k24 : Int32 → Int32 → Mem → Option Int32) (l3 t0 : Int32) (u : Mem) : Option Int32 :=
  k24 t0 (l3 + 1) u
def FX12_is_146_5022_b24 (k24 : Int32 → Int32 → Mem → Option Int32) (l2 l3 : Int32) (u : Mem) : Option Int32 :=
  (S_lenW 22).bind fun x1 => (if x1 ≤ l3 then (FX12_is_146_5022_b67 l2 u) else ((if l2 = 0 then (FX12_is_146_5022_b67 l2 u) else ((rdA u 154 400 ((u 146 19) + l3)).bind fun x4 => (S_chrW 22 l3).bind fun x5 => (if x4 = x5 then (FX12_is_146_5022_b60 k24 l3 1 u) else (FX12_is_146_5022_b60 k24 l3 0 u))))))
def FX12_is_146_5022_L24 : Nat → Int32 → Int32 → Mem → Option Int32
  | 0, _, _, _ => none
  | n + 1, l2, l3, u => FX12_is_146_5022_b24 (FX12_is_146_5022_L24 n) l2 l3 u
def FX12_is_146_5022_b21 (t0 : Int32) (u : Mem) : Option Int32 :=
  FX12_is_146_5022_L24 FU t0 0 u
def FX12_is_146_5022 (u : Mem) : Option Int32 :=
  (S_lenW 22).bind fun x1 => (if ((u 146 17) - (u 146 19)) = x1 then (FX12_is_146_5022_b21 1 u) else (FX12_is_146_5022_b21 0 u))
def FX12_tellWord_146 (u : Mem) : Option Int32 :=
  (FX12_is_146_5022 u).bind fun x1 => (if x1 = 0 then ((FX12_is_146_5007 u).bind fun x3 => (if x3 = 0 then (some 1) else (some 5))) else (some 7))
def FX12_is_146_5023_b67 (l2 : Int32) (u : Mem) : Option Int32 :=
  (bchk l2).bind fun x1 => some x1
def FX12_is_146_5023_b60 (k24 : Int32 → Int32 → Mem → Option Int32) (l3 t0 : Int32) (u : Mem) : Option Int32 :=
  k24 t0 (l3 + 1) u
def FX12_is_146_5023_b24 (k24 : Int32 → Int32 → Mem → Option Int32) (l2 l3 : Int32) (u : Mem) : Option Int32 :=
  (S_lenW 23).bind fun x1 => (if x1 ≤ l3 then (FX12_is_146_5023_b67 l2 u) else ((if l2 = 0 then (FX12_is_146_5023_b67 l2 u) else ((rdA u 154 400 ((u 146 19) + l3)).bind fun x4 => (S_chrW 23 l3).bind fun x5 => (if x4 = x5 then (FX12_is_146_5023_b60 k24 l3 1 u) else (FX12_is_146_5023_b60 k24 l3 0 u))))))
def FX12_is_146_5023_L24 : Nat → Int32 → Int32 → Mem → Option Int32
  | 0, _, _, _ => none
  | n + 1, l2, l3, u => FX12_is_146_5023_b24 (FX12_is_146_5023_L24 n) l2 l3 u
def FX12_is_146_5023_b21 (t0 : Int32) (u : Mem) : Option Int32 :=
  FX12_is_146_5023_L24 FU t0 0 u
def FX12_is_146_5023 (u : Mem) : Option Int32 :=
  (S_lenW 23).bind fun x1 => (if ((u 146 17) - (u 146 19)) = x1 then (FX12_is_146_5023_b21 1 u) else (FX12_is_146_5023_b21 0 u))
def FX12_is_146_5024_b67 (l2 : Int32) (u : Mem) : Option Int32 :=
  (bchk l2).bind fun x1 => some x1
def FX12_is_146_5024_b60 (k24 : Int32 → Int32 → Mem → Option Int32) (l3 t0 : Int32) (u : Mem) : Option Int32 :=
  k24 t0 (l3 + 1) u
def FX12_is_146_5024_b24 (k24 : Int32 → Int32 → Mem → Option Int32) (l2 l3 : Int32) (u : Mem) : Option Int32 :=
  (S_lenW 24).bind fun x1 => (if x1 ≤ l3 then (FX12_is_146_5024_b67 l2 u) else ((if l2 = 0 then (FX12_is_146_5024_b67 l2 u) else ((rdA u 154 400 ((u 146 19) + l3)).bind fun x4 => (S_chrW 24 l3).bind fun x5 => (if x4 = x5 then (FX12_is_146_5024_b60 k24 l3 1 u) else (FX12_is_146_5024_b60 k24 l3 0 u))))))
def FX12_is_146_5024_L24 : Nat → Int32 → Int32 → Mem → Option Int32
  | 0, _, _, _ => none
  | n + 1, l2, l3, u => FX12_is_146_5024_b24 (FX12_is_146_5024_L24 n) l2 l3 u
def FX12_is_146_5024_b21 (t0 : Int32) (u : Mem) : Option Int32 :=
  FX12_is_146_5024_L24 FU t0 0 u
def FX12_is_146_5024 (u : Mem) : Option Int32 :=
  (S_lenW 24).bind fun x1 => (if ((u 146 17) - (u 146 19)) = x1 then (FX12_is_146_5024_b21 1 u) else (FX12_is_146_5024_b21 0 u))
def FX12_weighWord_146 (u : Mem) : Option Int32 :=
  (FX12_is_146_5023 u).bind fun x1 => (if x1 = 0 then ((FX12_is_146_5024 u).bind fun x3 => (if x3 = 0 then (some 1) else (some 9))) else (some 8))
def FX12_is_146_5025_b67 (l2 : Int32) (u : Mem) : Option Int32 :=
  (bchk l2).bind fun x1 => some x1
def FX12_is_146_5025_b60 (k24 : Int32 → Int32 → Mem → Option Int32) (l3 t0 : Int32) (u : Mem) : Option Int32 :=
  k24 t0 (l3 + 1) u
def FX12_is_146_5025_b24 (k24 : Int32 → Int32 → Mem → Option Int32) (l2 l3 : Int32) (u : Mem) : Option Int32 :=
  (S_lenW 25).bind fun x1 => (if x1 ≤ l3 then (FX12_is_146_5025_b67 l2 u) else ((if l2 = 0 then (FX12_is_146_5025_b67 l2 u) else ((rdA u 154 400 ((u 146 19) + l3)).bind fun x4 => (S_chrW 25 l3).bind fun x5 => (if x4 = x5 then (FX12_is_146_5025_b60 k24 l3 1 u) else (FX12_is_146_5025_b60 k24 l3 0 u))))))
def FX12_is_146_5025_L24 : Nat → Int32 → Int32 → Mem → Option Int32
  | 0, _, _, _ => none
  | n + 1, l2, l3, u => FX12_is_146_5025_b24 (FX12_is_146_5025_L24 n) l2 l3 u
def FX12_is_146_5025_b21 (t0 : Int32) (u : Mem) : Option Int32 :=
  FX12_is_146_5025_L24 FU t0 0 u
def FX12_is_146_5025 (u : Mem) : Option Int32 :=
  (S_lenW 25).bind fun x1 => (if ((u 146 17) - (u 146 19)) = x1 then (FX12_is_146_5025_b21 1 u) else (FX12_is_146_5025_b21 0 u))
def FX12_is_146_5026_b67 (l2 : Int32) (u : Mem) : Option Int32 :=
  (bchk l2).bind fun x1 => some x1
def FX12_is_146_5026_b60 (k24 : Int32 → Int32 → Mem → Option Int32) (l3 t0 : Int32) (u : Mem) : Option Int32 :=
  k24 t0 (l3 + 1) u
def FX12_is_146_5026_b24 (k24 : Int32 → Int32 → Mem → Option Int32) (l2 l3 : Int32) (u : Mem) : Option Int32 :=
  (S_lenW 26).bind fun x1 => (if x1 ≤ l3 then (FX12_is_146_5026_b67 l2 u) else ((if l2 = 0 then (FX12_is_146_5026_b67 l2 u) else ((rdA u 154 400 ((u 146 19) + l3)).bind fun x4 => (S_chrW 26 l3).bind fun x5 => (if x4 = x5 then (FX12_is_146_5026_b60 k24 l3 1 u) else (FX12_is_146_5026_b60 k24 l3 0 u))))))
def FX12_is_146_5026_L24 : Nat → Int32 → Int32 → Mem → Option Int32
  | 0, _, _, _ => none
  | n + 1, l2, l3, u => FX12_is_146_5026_b24 (FX12_is_146_5026_L24 n) l2 l3 u
def FX12_is_146_5026_b21 (t0 : Int32) (u : Mem) : Option Int32 :=
  FX12_is_146_5026_L24 FU t0 0 u
def FX12_is_146_5026 (u : Mem) : Option Int32 :=
  (S_lenW 26).bind fun x1 => (if ((u 146 17) - (u 146 19)) = x1 then (FX12_is_146_5026_b21 1 u) else (FX12_is_146_5026_b21 0 u))
def FX12_is_146_5027_b67 (l2 : Int32) (u : Mem) : Option Int32 :=
  (bchk l2).bind fun x1 => some x1
def FX12_is_146_5027_b60 (k24 : Int32 → Int32 → Mem → Option Int32) (l3 t0 : Int32) (u : Mem) : Option Int32 :=
  k24 t0 (l3 + 1) u
def FX12_is_146_5027_b24 (k24 : Int32 → Int32 → Mem → Option Int32) (l2 l3 : Int32) (u : Mem) : Option Int32 :=
  (S_lenW 27).bind fun x1 => (if x1 ≤ l3 then (FX12_is_146_5027_b67 l2 u) else ((if l2 = 0 then (FX12_is_146_5027_b67 l2 u) else ((rdA u 154 400 ((u 146 19) + l3)).bind fun x4 => (S_chrW 27 l3).bind fun x5 => (if x4 = x5 then (FX12_is_146_5027_b60 k24 l3 1 u) else (FX12_is_146_5027_b60 k24 l3 0 u))))))
def FX12_is_146_5027_L24 : Nat → Int32 → Int32 → Mem → Option Int32
  | 0, _, _, _ => none
  | n + 1, l2, l3, u => FX12_is_146_5027_b24 (FX12_is_146_5027_L24 n) l2 l3 u
def FX12_is_146_5027_b21 (t0 : Int32) (u : Mem) : Option Int32 :=
  FX12_is_146_5027_L24 FU t0 0 u
def FX12_is_146_5027 (u : Mem) : Option Int32 :=
  (S_lenW 27).bind fun x1 => (if ((u 146 17) - (u 146 19)) = x1 then (FX12_is_146_5027_b21 1 u) else (FX12_is_146_5027_b21 0 u))
def FX12_orderWord_146 (u : Mem) : Option Int32 :=
  (FX12_is_146_5025 u).bind fun x1 => (if x1 = 0 then ((FX12_is_146_5026 u).bind fun x3 => (if x3 = 0 then ((FX12_is_146_5027 u).bind fun x5 => (if x5 = 0 then (some 1) else (some 12))) else (some 11))) else (some 10))
def FX12_word_146 (u : Mem) : Option Int32 :=
  (if (u 146 12) = 0 then ((FX12_lawWord_146 u).bind fun x2 => some x2) else ((if (u 146 12) = 1 then ((FX12_tellWord_146 u).bind fun x4 => some x4) else ((if (u 146 12) = 2 then ((FX12_weighWord_146 u).bind fun x6 => some x6) else ((FX12_orderWord_146 u).bind fun x7 => some x7))))))
def FX12_next0_146_b303 (t1 : Int32) (u : Mem) : Option Mem :=
  (some (mupd u 146 18 t1)).bind fun u1 => some u1
def FX12_next0_146_b289 (l1 t0 : Int32) (u : Mem) : Option Mem :=
  (if t0 = 0 then (FX12_next0_146_b303 1 u) else (FX12_next0_146_b303 (100 + l1) u))
def FX12_next0_146_b208 (t1 : Int32) (u : Mem) : Option Mem :=
  (some (mupd u 146 18 t1)).bind fun u1 => some u1
def FX12_next0_146_b176 (k126 : Mem → Option Mem) (u : Mem) : Option Mem :=
  (some (mupd u 146 17 ((u 146 17) + 1))).bind fun u1 => k126 u1
def FX12_next0_146_b126 (k126 : Mem → Option Mem) (u : Mem) : Option Mem :=
  (FX12_see_146 (u 146 17) u).bind fun x1 => (FX12_isDigit x1).bind fun x2 => (if x2 = 0 then ((if 5 ≤ ((u 146 17) - (u 146 19)) then (FX12_next0_146_b208 1 u) else (FX12_next0_146_b208 2 u))) else ((if ((u 146 19) + 4) ≤ (u 146 17) then (FX12_next0_146_b176 k126 u) else ((FX12_see_146 (u 146 17) u).bind fun x6 => (some (mupd u 146 20 (((10 * (u 146 20)) + x6) - 48))).bind fun u7 => FX12_next0_146_b176 k126 u7))))
def FX12_next0_146_L126 : Nat → Mem → Option Mem
  | 0, _ => none
  | n + 1, u => FX12_next0_146_b126 (FX12_next0_146_L126 n) u
def FX12_next0_146_b76 (k76 : Mem → Option Mem) (u : Mem) : Option Mem :=
  (FX12_see_146 (u 146 17) u).bind fun x1 => (FX12_isLetter x1).bind fun x2 => (if x2 = 0 then ((FX12_word_146 u).bind fun x4 => (some (mupd u 146 18 x4)).bind fun u5 => some u5) else ((some (mupd u 146 17 ((u 146 17) + 1))).bind fun u6 => k76 u6))
def FX12_next0_146_L76 : Nat → Mem → Option Mem
  | 0, _ => none
  | n + 1, u => FX12_next0_146_b76 (FX12_next0_146_L76 n) u
def FX12_next0_146_b26 (k0 : Mem → Option Mem) (u : Mem) : Option Mem :=
  (some (mupd u 146 17 ((u 146 17) + 1))).bind fun u1 => k0 u1
def FX12_next0_146_b0 (k0 : Mem → Option Mem) (u : Mem) : Option Mem :=
  (FX12_see_146 (u 146 17) u).bind fun x1 => (if x1 = 32 then (FX12_next0_146_b26 k0 u) else ((FX12_see_146 (u 146 17) u).bind fun x3 => (if x3 = 10 then (FX12_next0_146_b26 k0 u) else ((some (mupd u 146 19 (u 146 17))).bind fun u5 => (FX12_see_146 (u5 146 17) u5).bind fun x6 => (if x6 = (-1) then ((some (mupd u5 146 18 0)).bind fun u24 => some u24) else ((FX12_isLetter x6).bind fun x8 => (if x8 = 0 then ((FX12_isDigit x6).bind fun x10 => (if x10 = 0 then ((some (mupd u5 146 17 ((u5 146 17) + 1))).bind fun u12 => (if x6 = 59 then (FX12_next0_146_b289 x6 1 u12) else ((if x6 = 43 then (FX12_next0_146_b289 x6 1 u12) else ((if x6 = 45 then (FX12_next0_146_b289 x6 1 u12) else ((if x6 = 42 then (FX12_next0_146_b289 x6 1 u12) else ((if x6 = 47 then (FX12_next0_146_b289 x6 1 u12) else ((if x6 = 40 then (FX12_next0_146_b289 x6 1 u12) else ((if x6 = 41 then (FX12_next0_146_b289 x6 1 u12) else ((if x6 = 60 then (FX12_next0_146_b289 x6 1 u12) else ((if x6 = 61 then (FX12_next0_146_b289 x6 1 u12) else ((if x6 = 62 then (FX12_next0_146_b289 x6 1 u12) else (FX12_next0_146_b289 x6 0 u12))))))))))))))))))))) else ((some (mupd u5 146 20 0)).bind fun u23 => FX12_next0_146_L126 FU u23))) else (FX12_next0_146_L76 FU u5))))))))
def FX12_next0_146_L0 : Nat → Mem → Option Mem
  | 0, _ => none
  | n + 1, u => FX12_next0_146_b0 (FX12_next0_146_L0 n) u
def FX12_next0_146 (u : Mem) : Option Mem :=
  FX12_next0_146_L0 FU u
def FX12_begins_146_b52 (t0 t1 : Int32) (u : Mem) : Option Int32 :=
  (if t0 = t1 then (some 1) else (some 0))
def FX12_begins_146 (u : Mem) : Option Int32 :=
  (if (u 146 12) = 1 then ((if (u 146 18) = 2 then ((FX12_isMan_146 (u 146 20) u).bind fun x4 => (if x4 = 0 then (some 0) else (some 1))) else (some 0))) else ((if (u 146 12) = 2 then (FX12_begins_146_b52 (u 146 18) 8 u) else (FX12_begins_146_b52 (u 146 18) 10 u))))
def FX12_bad_146 (p1 : Int32) (u : Mem) : Option (Int32 × Mem) :=
  (some (mupd u 146 21 p1)).bind fun u1 => (some (mupd u1 146 22 (u1 146 19))).bind fun u2 => some (0, u2)
def FX12_need_146 (p1 : Int32) (u : Mem) : Option (Int32 × Mem) :=
  (if (u 146 18) = p1 then ((FX12_next0_146 u).bind fun u3 => some (1, u3)) else (bnd2 (FX12_bad_146 1 u) fun x4 u5 => (bchk x4).bind fun x6 => some (x6, u5)))
def FX12_number_146 (p1 p2 : Int32) (u : Mem) : Option (Int32 × Mem) :=
  (if (u 146 18) = 2 then ((FX12_isIn (u 146 20) p1 p2).bind fun x2 => (if x2 = 0 then (bnd2 (FX12_bad_146 2 u) fun x7 u8 => (bchk x7).bind fun x9 => some (x9, u8)) else ((some (mupd u 146 26 (u 146 20))).bind fun u4 => (FX12_next0_146 u4).bind fun u6 => some (1, u6)))) else (bnd2 (FX12_bad_146 1 u) fun x10 u11 => (bchk x10).bind fun x12 => some (x12, u11)))
def FX12_anOrder_146_b61 (u : Mem) : Option (Int32 × Mem) :=
  (wrA u 153 48 ((3 * (u 146 15)) + 1) (u 146 18)).bind fun u1 => (FX12_next0_146 u1).bind fun u3 => bnd2 (FX12_number_146 0 1 u3) fun x4 u5 => (if x4 = 0 then (some (0, u5)) else ((wrA u5 153 48 ((3 * (u5 146 15)) + 2) (u5 146 26)).bind fun u7 => bnd2 (FX12_need_146 159 u7) fun x8 u9 => (bchk x8).bind fun x10 => some (x10, u9)))
def FX12_anOrder_146 (u : Mem) : Option (Int32 × Mem) :=
  bnd2 (FX12_need_146 10 u) fun x1 u2 => (if x1 = 0 then (some (0, u2)) else (bnd2 (FX12_number_146 0 999 u2) fun x4 u5 => (if x4 = 0 then (some (0, u5)) else ((wrA u5 153 48 (3 * (u5 146 15)) (u5 146 26)).bind fun u7 => (if (u7 146 18) = 11 then (FX12_anOrder_146_b61 u7) else ((if (u7 146 18) = 12 then (FX12_anOrder_146_b61 u7) else (bnd2 (FX12_bad_146 1 u7) fun x10 u11 => (bchk x10).bind fun x12 => some (x12, u11)))))))))
def FX12_aWeight_146 (u : Mem) : Option (Int32 × Mem) :=
  bnd2 (FX12_need_146 8 u) fun x1 u2 => (if x1 = 0 then (some (0, u2)) else (bnd2 (FX12_number_146 0 7 u2) fun x4 u5 => (if x4 = 0 then (some (0, u5)) else ((wrA u5 153 48 (2 * (u5 146 15)) (u5 146 26)).bind fun u7 => bnd2 (FX12_need_146 9 u7) fun x8 u9 => (if x8 = 0 then (some (0, u9)) else (bnd2 (FX12_number_146 0 99 u9) fun x11 u12 => (if x11 = 0 then (some (0, u12)) else ((wrA u12 153 48 ((2 * (u12 146 15)) + 1) (u12 146 26)).bind fun u14 => bnd2 (FX12_need_146 159 u14) fun x15 u16 => (bchk x15).bind fun x17 => some (x17, u16)))))))))
def FX12_another_146_b22 (u : Mem) : Option (Int32 × Mem) :=
  bnd2 (FX12_number_146 0 ((u 147 78) - 1) u) fun x1 u2 => (if x1 = 0 then (some (0, u2)) else ((rdA u2 153 48 ((2 * (u2 146 15)) + 1)).bind fun x4 => (wrA u2 153 48 ((2 * (u2 146 15)) + 1) (x4 ||| ((1 : Int32) <<< ((u2 146 26) &&& 31)))).bind fun u5 => some (1, u5)))
def FX12_another_146 (p1 : Int32) (u : Mem) : Option (Int32 × Mem) :=
  (if (u 146 18) = 2 then ((if (u 146 20) = p1 then (bnd2 (FX12_bad_146 2 u) fun x3 u4 => (bchk x3).bind fun x5 => some (x5, u4)) else (FX12_another_146_b22 u))) else (FX12_another_146_b22 u))
def FX12_aTelling_146_b69 (k69 : Int32 → Mem → Option (Int32 × Mem)) (l1 : Int32) (u : Mem) : Option (Int32 × Mem) :=
  (if (u 146 18) = 5 then ((FX12_next0_146 u).bind fun u6 => bnd2 (FX12_another_146 l1 u6) fun x7 u8 => (if x7 = 0 then (some (0, u8)) else (k69 l1 u8))) else (bnd2 (FX12_need_146 159 u) fun x2 u3 => (bchk x2).bind fun x4 => some (x4, u3)))
def FX12_aTelling_146_L69 : Nat → Int32 → Mem → Option (Int32 × Mem)
  | 0, _, _ => none
  | n + 1, l1, u => FX12_aTelling_146_b69 (FX12_aTelling_146_L69 n) l1 u
def FX12_aTelling_146 (u : Mem) : Option (Int32 × Mem) :=
  bnd2 (FX12_number_146 0 ((u 147 78) - 1) u) fun x1 u2 => (if x1 = 0 then (some (0, u2)) else ((wrA u2 153 48 (2 * (u2 146 15)) (u2 146 26)).bind fun u4 => (wrA u4 153 48 ((2 * (u4 146 15)) + 1) 0).bind fun u5 => bnd2 (FX12_need_146 7 u5) fun x6 u7 => (if x6 = 0 then (some (0, u7)) else (bnd2 (FX12_another_146 (u2 146 26) u7) fun x9 u10 => (if x9 = 0 then (some (0, u10)) else (FX12_aTelling_146_L69 FU (u2 146 26) u10))))))
def FX12_aRow_146 (u : Mem) : Option (Int32 × Mem) :=
  (if (u 146 12) = 1 then (bnd2 (FX12_aTelling_146 u) fun x9 u10 => (bchk x9).bind fun x11 => some (x11, u10)) else ((if (u 146 12) = 2 then (bnd2 (FX12_aWeight_146 u) fun x6 u7 => (bchk x6).bind fun x8 => some (x8, u7)) else (bnd2 (FX12_anOrder_146 u) fun x3 u4 => (bchk x3).bind fun x5 => some (x5, u4)))))
def FX12_readsRows_146_b66 (l1 : Int32) (u : Mem) : Option (Int32 × Mem) :=
  (bchk l1).bind fun x1 => some (x1, u)
def FX12_readsRows_146_b59 (k7 : Int32 → Mem → Option (Int32 × Mem)) (l1 t1 t2 : Int32) (u : Mem) : Option (Int32 × Mem) :=
  (some (mupd u 146 15 (t1 + t2))).bind fun u1 => k7 l1 u1
def FX12_readsRows_146_b40 (k7 : Int32 → Mem → Option (Int32 × Mem)) (u : Mem) : Option (Int32 × Mem) :=
  bnd2 (FX12_aRow_146 u) fun x1 u2 => (if x1 = 0 then (FX12_readsRows_146_b59 k7 x1 (u2 146 15) 0 u2) else (FX12_readsRows_146_b59 k7 x1 (u2 146 15) 1 u2))
def FX12_readsRows_146_b7 (k7 : Int32 → Mem → Option (Int32 × Mem)) (l1 : Int32) (u : Mem) : Option (Int32 × Mem) :=
  (if l1 = 0 then (FX12_readsRows_146_b66 l1 u) else ((if (u 146 18) = 0 then (FX12_readsRows_146_b66 l1 u) else ((if (u 146 15) = 16 then ((FX12_begins_146 u).bind fun x4 => (if x4 = 0 then (FX12_readsRows_146_b40 k7 u) else (bnd2 (FX12_bad_146 3 u) fun x6 u7 => (bchk x6).bind fun x8 => some (x8, u7)))) else (FX12_readsRows_146_b40 k7 u))))))
def FX12_readsRows_146_L7 : Nat → Int32 → Mem → Option (Int32 × Mem)
  | 0, _, _ => none
  | n + 1, l1, u => FX12_readsRows_146_b7 (FX12_readsRows_146_L7 n) l1 u
def FX12_readsRows_146 (u : Mem) : Option (Int32 × Mem) :=
  (some (mupd u 146 15 0)).bind fun u1 => FX12_readsRows_146_L7 FU 1 u1
def FX12_lay_146 (p1 p2 : Int32) (u : Mem) : Option Mem :=
  (wrA u 152 820 (2 * (u 146 14)) p1).bind fun u1 => (wrA u1 152 820 ((2 * (u1 146 14)) + 1) p2).bind fun u2 => (some (mupd u2 146 14 ((u2 146 14) + 1))).bind fun u3 => some u3
def FX12_unit_146_b46 (t1 : Int32) (u : Mem) : Option (Int32 × Mem) :=
  (FX12_lay_146 t1 (u 146 20) u).bind fun u2 => (FX12_next0_146 u2).bind fun u4 => some (1, u4)
def FX12_unit_146_b30 (l1 : Int32) (u : Mem) : Option (Int32 × Mem) :=
  (if l1 = 0 then (FX12_unit_146_b46 0 u) else (FX12_unit_146_b46 ((u 146 18) - 40) u))
def FX12_unit_146 (u : Mem) : Option (Int32 × Mem) :=
  (FX12_isIn (u 146 18) 41 49).bind fun x1 => (if (u 146 18) = 2 then (FX12_unit_146_b30 x1 u) else ((if x1 = 0 then (bnd2 (FX12_bad_146 1 u) fun x4 u5 => (bchk x4).bind fun x6 => some (x6, u5)) else (FX12_unit_146_b30 x1 u))))
def FX12_product_146_b44 (k9 : Mem → Option (Int32 × Mem)) (t0 : Int32) (u : Mem) : Option (Int32 × Mem) :=
  (FX12_next0_146 u).bind fun u2 => (if t0 = 0 then (bnd2 (FX12_unit_146 u2) fun x4 u5 => (if x4 = 0 then (some (0, u5)) else ((FX12_lay_146 25 0 u5).bind fun u8 => k9 u8))) else ((if (u2 146 18) = 2 then ((if (u2 146 20) = 0 then (bnd2 (FX12_bad_146 2 u2) fun x15 u16 => (bchk x15).bind fun x17 => some (x17, u16)) else ((FX12_next0_146 u2).bind fun u12 => (FX12_lay_146 26 (u2 146 20) u12).bind fun u14 => k9 u14))) else (bnd2 (FX12_bad_146 1 u2) fun x18 u19 => (bchk x18).bind fun x20 => some (x20, u19)))))
def FX12_product_146_b29 (k9 : Mem → Option (Int32 × Mem)) (u : Mem) : Option (Int32 × Mem) :=
  (if (u 146 18) = 147 then (FX12_product_146_b44 k9 1 u) else (FX12_product_146_b44 k9 0 u))
def FX12_product_146_b9 (k9 : Mem → Option (Int32 × Mem)) (u : Mem) : Option (Int32 × Mem) :=
  (if (u 146 18) = 142 then (FX12_product_146_b29 k9 u) else ((if (u 146 18) = 147 then (FX12_product_146_b29 k9 u) else (some (1, u)))))
def FX12_product_146_L9 : Nat → Mem → Option (Int32 × Mem)
  | 0, _ => none
  | n + 1, u => FX12_product_146_b9 (FX12_product_146_L9 n) u
def FX12_product_146 (u : Mem) : Option (Int32 × Mem) :=
  bnd2 (FX12_unit_146 u) fun x1 u2 => (if x1 = 0 then (some (0, u2)) else (FX12_product_146_L9 FU u2))
def FX12_sumUp_146_b46 (k9 : Mem → Option (Int32 × Mem)) (t0 : Int32) (u : Mem) : Option (Int32 × Mem) :=
  (FX12_next0_146 u).bind fun u2 => bnd2 (FX12_product_146 u2) fun x3 u4 => (if x3 = 0 then (some (0, u4)) else ((FX12_lay_146 t0 0 u4).bind fun u7 => k9 u7))
def FX12_sumUp_146_b29 (k9 : Mem → Option (Int32 × Mem)) (u : Mem) : Option (Int32 × Mem) :=
  (if (u 146 18) = 143 then (FX12_sumUp_146_b46 k9 23 u) else (FX12_sumUp_146_b46 k9 24 u))
def FX12_sumUp_146_b9 (k9 : Mem → Option (Int32 × Mem)) (u : Mem) : Option (Int32 × Mem) :=
  (if (u 146 18) = 143 then (FX12_sumUp_146_b29 k9 u) else ((if (u 146 18) = 145 then (FX12_sumUp_146_b29 k9 u) else (some (1, u)))))
def FX12_sumUp_146_L9 : Nat → Mem → Option (Int32 × Mem)
  | 0, _ => none
  | n + 1, u => FX12_sumUp_146_b9 (FX12_sumUp_146_L9 n) u
def FX12_sumUp_146 (u : Mem) : Option (Int32 × Mem) :=
  bnd2 (FX12_product_146 u) fun x1 u2 => (if x1 = 0 then (some (0, u2)) else (FX12_sumUp_146_L9 FU u2))
def FX12_opens_146 (u : Mem) : Option (Int32 × Mem) :=
  (if (u 146 24) = 8 then (bnd2 (FX12_bad_146 3 u) fun x5 u6 => (bchk x5).bind fun x7 => some (x7, u6)) else ((some (mupd u 146 24 ((u 146 24) + 1))).bind fun u2 => (FX12_next0_146 u2).bind fun u4 => some (1, u4)))
def FX12_every_146_b9 (kc : Mem → Option (Int32 × Mem)) (k9 : Mem → Option (Int32 × Mem)) (u : Mem) : Option (Int32 × Mem) :=
  (if (u 146 18) = 5 then ((FX12_next0_146 u).bind fun u3 => bnd2 (kc u3) fun x4 u5 => (if x4 = 0 then (some (0, u5)) else ((FX12_lay_146 31 0 u5).bind fun u8 => k9 u8))) else (some (1, u)))
def FX12_every_146_L9 (kc : Mem → Option (Int32 × Mem)) : Nat → Mem → Option (Int32 × Mem)
  | 0, _ => none
  | n + 1, u => FX12_every_146_b9 kc (FX12_every_146_L9 kc n) u
def FX12_every_146 (kc : Mem → Option (Int32 × Mem)) (u : Mem) : Option (Int32 × Mem) :=
  bnd2 (kc u) fun x1 u2 => (if x1 = 0 then (some (0, u2)) else (FX12_every_146_L9 kc FU u2))
def FX12_any_146_b9 (kc : Mem → Option (Int32 × Mem)) (k9 : Mem → Option (Int32 × Mem)) (u : Mem) : Option (Int32 × Mem) :=
  (if (u 146 18) = 4 then ((FX12_next0_146 u).bind fun u3 => bnd2 (FX12_every_146 kc u3) fun x4 u5 => (if x4 = 0 then (some (0, u5)) else ((FX12_lay_146 32 0 u5).bind fun u8 => k9 u8))) else (some (1, u)))
def FX12_any_146_L9 (kc : Mem → Option (Int32 × Mem)) : Nat → Mem → Option (Int32 × Mem)
  | 0, _ => none
  | n + 1, u => FX12_any_146_b9 kc (FX12_any_146_L9 kc n) u
def FX12_any_146 (kc : Mem → Option (Int32 × Mem)) (u : Mem) : Option (Int32 × Mem) :=
  bnd2 (FX12_every_146 kc u) fun x1 u2 => (if x1 = 0 then (some (0, u2)) else (FX12_any_146_L9 kc FU u2))
def FX12_oneTest_146_b147 (kc : Mem → Option (Int32 × Mem)) (t0 : Int32) (u : Mem) : Option (Int32 × Mem) :=
  (if t0 = (-1) then (bnd2 (FX12_bad_146 1 u) fun x9 u10 => (bchk x9).bind fun x11 => some (x11, u10)) else ((FX12_next0_146 u).bind fun u3 => bnd2 (FX12_sumUp_146 u3) fun x4 u5 => (if x4 = 0 then (some (0, u5)) else ((FX12_lay_146 t0 0 u5).bind fun u8 => some (1, u8)))))
def FX12_oneTest_146_body (kc : Mem → Option (Int32 × Mem)) (u : Mem) : Option (Int32 × Mem) :=
  (if (u 146 18) = 6 then (bnd2 (FX12_opens_146 u) fun x19 u20 => (if x19 = 0 then (some (0, u20)) else (bnd2 (kc u20) fun x22 u23 => (if x22 = 0 then (some (0, u23)) else ((some (mupd u23 146 24 ((u23 146 24) - 1))).bind fun u25 => (FX12_lay_146 30 0 u25).bind fun u27 => some (1, u27)))))) else ((if (u 146 18) = 140 then (bnd2 (FX12_opens_146 u) fun x9 u10 => (if x9 = 0 then (some (0, u10)) else (bnd2 (FX12_any_146 kc u10) fun x12 u13 => (if x12 = 0 then (some (0, u13)) else (bnd2 (FX12_need_146 141 u13) fun x15 u16 => (if x15 = 0 then (some (0, u16)) else ((some (mupd u16 146 24 ((u16 146 24) - 1))).bind fun u18 => some (1, u18)))))))) else (bnd2 (FX12_sumUp_146 u) fun x3 u4 => (if x3 = 0 then (some (0, u4)) else ((if (u4 146 18) = 160 then (FX12_oneTest_146_b147 kc 27 u4) else ((if (u4 146 18) = 161 then (FX12_oneTest_146_b147 kc 28 u4) else ((if (u4 146 18) = 162 then (FX12_oneTest_146_b147 kc 29 u4) else (FX12_oneTest_146_b147 kc (-1) u4))))))))))))
def FX12_oneTest_146 : Nat → Mem → Option (Int32 × Mem)
  | 0, _ => none
  | n + 1, u => FX12_oneTest_146_body (FX12_oneTest_146 n) u
def FX12_aLine_146_b123 (u : Mem) : Option (Int32 × Mem) :=
  (wrA u 151 64 ((4 * (u 146 13)) + 2) (u 146 14)).bind fun u1 => bnd2 (FX12_need_146 159 u1) fun x2 u3 => (bchk x2).bind fun x4 => some (x4, u3)
def FX12_aLine_146 (u : Mem) : Option (Int32 × Mem) :=
  (FX12_isIn (u 146 18) 20 23).bind fun x1 => (if x1 = 0 then (bnd2 (FX12_bad_146 1 u) fun x22 u23 => (bchk x22).bind fun x24 => some (x24, u23)) else ((if (u 146 13) = 16 then (bnd2 (FX12_bad_146 3 u) fun x19 u20 => (bchk x19).bind fun x21 => some (x21, u20)) else ((some (mupd u 146 24 0)).bind fun u4 => (wrA u4 151 64 ((4 * (u4 146 13)) + 3) (u4 146 18)).bind fun u5 => (FX12_next0_146 u5).bind fun u7 => (wrA u7 151 64 (4 * (u7 146 13)) (u7 146 14)).bind fun u8 => bnd2 (FX12_sumUp_146 u8) fun x9 u10 => (if x9 = 0 then (some (0, u10)) else ((wrA u10 151 64 ((4 * (u10 146 13)) + 1) (u10 146 14)).bind fun u12 => (if (u12 146 18) = 3 then ((FX12_next0_146 u12).bind fun u15 => bnd2 (FX12_any_146 (FX12_oneTest_146 DFU) u15) fun x16 u17 => (if x16 = 0 then (some (0, u17)) else (FX12_aLine_146_b123 u17))) else (FX12_aLine_146_b123 u12))))))))
def FX12_readsLaw_146_b49 (l1 : Int32) (u : Mem) : Option (Int32 × Mem) :=
  (bchk l1).bind fun x1 => some (x1, u)
def FX12_readsLaw_146_b42 (k12 : Int32 → Mem → Option (Int32 × Mem)) (l1 t1 t2 : Int32) (u : Mem) : Option (Int32 × Mem) :=
  (some (mupd u 146 13 (t1 + t2))).bind fun u1 => k12 l1 u1
def FX12_readsLaw_146_b12 (k12 : Int32 → Mem → Option (Int32 × Mem)) (l1 : Int32) (u : Mem) : Option (Int32 × Mem) :=
  (if l1 = 0 then (FX12_readsLaw_146_b49 l1 u) else ((if (u 146 18) = 0 then (FX12_readsLaw_146_b49 l1 u) else (bnd2 (FX12_aLine_146 u) fun x3 u4 => (if x3 = 0 then (FX12_readsLaw_146_b42 k12 x3 (u4 146 13) 0 u4) else (FX12_readsLaw_146_b42 k12 x3 (u4 146 13) 1 u4))))))
def FX12_readsLaw_146_L12 : Nat → Int32 → Mem → Option (Int32 × Mem)
  | 0, _, _ => none
  | n + 1, l1, u => FX12_readsLaw_146_b12 (FX12_readsLaw_146_L12 n) l1 u
def FX12_readsLaw_146 (u : Mem) : Option (Int32 × Mem) :=
  (some (mupd u 146 13 0)).bind fun u1 => (some (mupd u1 146 14 0)).bind fun u2 => FX12_readsLaw_146_L12 FU 1 u2
def FX12_puts_146_b13 (k13 : Int32 → Int32 → Int32 → Mem → Option (Int32 × Mem)) (l2 l3 l4 : Int32) (u : Mem) : Option (Int32 × Mem) :=
  (if (l3 * (u 146 15)) ≤ l4 then (some (u 146 15, u)) else ((rdA u 153 48 l4).bind fun x2 => (wrA u 147 1786 (l2 + l4) x2).bind fun u3 => k13 l2 l3 (l4 + 1) u3))
def FX12_puts_146_L13 : Nat → Int32 → Int32 → Int32 → Mem → Option (Int32 × Mem)
  | 0, _, _, _, _ => none
  | n + 1, l2, l3, l4, u => FX12_puts_146_b13 (FX12_puts_146_L13 n) l2 l3 l4 u
def FX12_puts_146 (p1 p2 p3 : Int32) (u : Mem) : Option (Int32 × Mem) :=
  (wrA u 147 1786 p1 (u 146 15)).bind fun u1 => FX12_puts_146_L13 FU p2 p3 0 u1
def FX12_putsLaw_146_b107 (k107 : Int32 → Mem → Option (Int32 × Mem)) (l1 : Int32) (u : Mem) : Option (Int32 × Mem) :=
  (if (2 * (u 146 14)) ≤ l1 then (some (u 146 13, u)) else ((rdA u 152 820 l1).bind fun x2 => (wrA u 147 1786 (966 + l1) x2).bind fun u3 => k107 (l1 + 1) u3))
def FX12_putsLaw_146_L107 : Nat → Int32 → Mem → Option (Int32 × Mem)
  | 0, _, _ => none
  | n + 1, l1, u => FX12_putsLaw_146_b107 (FX12_putsLaw_146_L107 n) l1 u
def FX12_putsLaw_146_b13 (k13 : Int32 → Mem → Option (Int32 × Mem)) (l1 : Int32) (u : Mem) : Option (Int32 × Mem) :=
  (if (u 146 13) ≤ l1 then (FX12_putsLaw_146_L107 FU 0 u) else ((rdA u 151 64 (4 * l1)).bind fun x2 => (wrA u 147 1786 (900 + l1) x2).bind fun u3 => (rdA u3 151 64 ((4 * l1) + 1)).bind fun x4 => (wrA u3 147 1786 (916 + l1) x4).bind fun u5 => (rdA u5 151 64 ((4 * l1) + 2)).bind fun x6 => (wrA u5 147 1786 (932 + l1) x6).bind fun u7 => (rdA u7 151 64 ((4 * l1) + 3)).bind fun x8 => (wrA u7 147 1786 (948 + l1) x8).bind fun u9 => k13 (l1 + 1) u9))
def FX12_putsLaw_146_L13 : Nat → Int32 → Mem → Option (Int32 × Mem)
  | 0, _, _ => none
  | n + 1, l1, u => FX12_putsLaw_146_b13 (FX12_putsLaw_146_L13 n) l1 u
def FX12_putsLaw_146 (u : Mem) : Option (Int32 × Mem) :=
  (some (mupd u 147 84 (u 146 13))).bind fun u1 => FX12_putsLaw_146_L13 FU 0 u1
def FX12_putsText_146 (p1 : Int32) (u : Mem) : Option (Int32 × Mem) :=
  (if p1 = 0 then (bnd2 (FX12_putsLaw_146 u) fun x12 u13 => some (x12, u13)) else ((if p1 = 2 then (bnd2 (FX12_puts_146 86 190 2 u) fun x10 u11 => some (x10, u11)) else ((FX12_forgetsActs_146 u).bind fun u4 => (if p1 = 1 then (bnd2 (FX12_puts_146 85 158 2 u4) fun x8 u9 => some (x8, u9)) else (bnd2 (FX12_puts_146 87 222 3 u4) fun x6 u7 => some (x6, u7)))))))
def FX12_text_146_b60 (l1 t0 : Int32) (u : Mem) : Option (Int32 × Mem) :=
  (some (mupd u 146 16 0)).bind fun u1 => (if t0 = 0 then ((some (mupd u1 146 23 (u1 146 21))).bind fun u3 => (some (mupd u3 146 25 (u3 146 22))).bind fun u4 => some ((-1), u4)) else (bnd2 (FX12_putsText_146 l1 u1) fun x5 u6 => some (x5, u6)))
def FX12_text_146 (p1 : Int32) (u : Mem) : Option (Int32 × Mem) :=
  (some (mupd u 146 23 0)).bind fun u1 => (some (mupd u1 146 25 (-1))).bind fun u2 => (FX12_isIn p1 0 3).bind fun x3 => (if x3 = 0 then ((some (mupd u2 146 16 0)).bind fun u15 => some ((-1), u15)) else ((some (mupd u2 146 21 0)).bind fun u5 => (some (mupd u5 146 17 0)).bind fun u6 => (some (mupd u6 146 12 p1)).bind fun u7 => (FX12_next0_146 u7).bind fun u9 => (if p1 = 0 then (bnd2 (FX12_readsLaw_146 u9) fun x13 u14 => FX12_text_146_b60 p1 x13 u14) else (bnd2 (FX12_readsRows_146 u9) fun x11 u12 => FX12_text_146_b60 p1 x11 u12))))
def FX11_fault_0 (p1 : Int32) (u : Mem) : Option Int32 :=
  (if p1 = 0 then (some (u 34 13)) else ((if p1 = 1 then (some (u 34 14)) else (some (-1)))))
def FX12_fault_146 (p1 : Int32) (u : Mem) : Option Int32 :=
  (if p1 = 0 then (some (u 146 23)) else ((if p1 = 1 then (some (u 146 25)) else (some (-1)))))
def FX12_of_146 (p1 p2 : Int32) (u : Mem) : Option (Int32 × Mem) :=
  (FX12_isMan_146 p1 u).bind fun x1 => (if x1 = 0 then (some ((-2), u)) else ((some (mupd u 146 27 0)).bind fun u3 => (if p2 = 0 then ((rdA u3 147 1786 (90 + p1)).bind fun x5 => some (x5, u3)) else ((if p2 = 1 then ((rdA u3 147 1786 (102 + p1)).bind fun x7 => some (x7, u3)) else ((if p2 = 2 then ((rdA u3 147 1786 (114 + p1)).bind fun x9 => some (x9, u3)) else ((if p2 = 3 then ((rdA u3 147 1786 (4 + p1)).bind fun x11 => some (x11, u3)) else ((if p2 = 4 then ((rdA u3 147 1786 (16 + p1)).bind fun x13 => some (x13, u3)) else ((if p2 = 5 then ((rdA u3 147 1786 (28 + p1)).bind fun x15 => some (x15, u3)) else ((if p2 = 6 then ((rdA u3 147 1786 (40 + p1)).bind fun x17 => some (x17, u3)) else ((if p2 = 7 then ((rdA u3 147 1786 (40 + p1)).bind fun x19 => (if x19 = 1 then ((rdA u3 147 1786 (52 + p1)).bind fun x21 => some (x21, u3)) else (some ((-1), u3)))) else ((if p2 = 8 then ((FX12_toldBy_146 p1 u3).bind fun x23 => some (x23, u3)) else ((if p2 = 9 then (some ((-2), u3)) else ((if p2 = 10 then (bnd2 (FX12_callOf_146 p1 u3) fun x26 u27 => some (x26, u27)) else ((if p2 = 11 then (bnd2 (FX12_stepOf_146 p1 u3) fun x29 u30 => some (x29, u30)) else ((if p2 = 12 then (bnd2 (FX12_napOf_146 p1 u3) fun x32 u33 => some (x32, u33)) else ((if p2 = 13 then (bnd2 (FX12_fadeOf_146 p1 u3) fun x35 u36 => some (x35, u36)) else (some ((-2), u3)))))))))))))))))))))))))))))))
def FX12_weight_146 (p1 : Int32) (u : Mem) : Option Int32 :=
  (FX12_isIn p1 0 7).bind fun x1 => (if x1 = 0 then (some (-1)) else ((FX12_weightOf_146 p1 u).bind fun x3 => some x3))
def FX12_country_146 (p1 p2 : Int32) (u : Mem) : Option Int32 :=
  (FX12_isCountry p1).bind fun x1 => (if x1 = 0 then (some (-1)) else ((if p2 = 0 then ((FX12_inField_146 p1 u).bind fun x4 => some x4) else ((if p2 = 1 then ((FX12_knownIn_146 p1 u).bind fun x6 => some x6) else ((if p2 = 2 then ((FX12_knownIn_146 p1 u).bind fun x8 => (FX12_weightOfSet_146 x8 u).bind fun x9 => some x9) else ((if p2 = 3 then ((rdA u 147 1786 (82 + p1)).bind fun x11 => some x11) else ((if p2 = 4 then ((FX12_rests_146 p1 u).bind fun x13 => (if x13 = 0 then (some 0) else (some 1))) else (some (-1)))))))))))))
def FX12_book_146 (p1 p2 : Int32) (u : Mem) : Option Int32 :=
  (FX12_isIn p1 0 ((u 147 3) - 1)).bind fun x1 => (if x1 = 0 then (some (-2)) else ((FX12_isIn p2 0 3).bind fun x3 => (if x3 = 0 then (some (-2)) else ((rdA u 147 1786 ((300 + (4 * p1)) + p2)).bind fun x5 => some x5))))
def FX0_become_97_23 (u : Mem) : Option Mem :=
  (some (cpM u 24 98 12)).bind fun u1 => (some (cpM u1 25 99 12)).bind fun u2 => (some (cpM u2 26 100 12)).bind fun u3 => (some (cpM u3 27 101 12)).bind fun u4 => (some (cpM u4 28 102 12)).bind fun u5 => (some (cpM u5 29 103 12)).bind fun u6 => (some (mupd u6 97 6 (u6 23 6))).bind fun u7 => (some (mupd u7 97 7 (u7 23 7))).bind fun u8 => (some (mupd u8 97 8 (u8 23 8))).bind fun u9 => (some (mupd u9 97 9 (u9 23 9))).bind fun u10 => some u10
def FX2_imagine_96 (p1 : Int32) (u : Mem) : Option Mem :=
  (FX0_become_97_23 u).bind fun u2 => (some (mupd u2 104 5 p1)).bind fun u3 => (some (mupd u3 104 6 0)).bind fun u4 => some u4
def FX3_howManyInField_104_b61 (l2 : Int32) (u : Mem) : Option Int32 :=
  some l2
def FX3_howManyInField_104_b53 (k4 : Int32 → Int32 → Int32 → Mem → Option Int32) (l1 l3 t0 t1 : Int32) (u : Mem) : Option Int32 :=
  k4 l1 (t0 + t1) (l3 + 1) u
def FX3_howManyInField_104_b4 (k4 : Int32 → Int32 → Int32 → Mem → Option Int32) (l1 l2 l3 : Int32) (u : Mem) : Option Int32 :=
  (if 12 ≤ l3 then (FX3_howManyInField_104_b61 l2 u) else ((if (u 1 0) ≤ l3 then (FX3_howManyInField_104_b61 l2 u) else ((rdA u 2 12 l3).bind fun x3 => (if x3 = l1 then ((rdA u 101 12 l3).bind fun x5 => (if x5 = 1 then (FX3_howManyInField_104_b53 k4 l1 l3 l2 1 u) else (FX3_howManyInField_104_b53 k4 l1 l3 l2 0 u))) else (FX3_howManyInField_104_b53 k4 l1 l3 l2 0 u))))))
def FX3_howManyInField_104_L4 : Nat → Int32 → Int32 → Int32 → Mem → Option Int32
  | 0, _, _, _, _ => none
  | n + 1, l1, l2, l3, u => FX3_howManyInField_104_b4 (FX3_howManyInField_104_L4 n) l1 l2 l3 u
def FX3_howManyInField_104 (p1 : Int32) (u : Mem) : Option Int32 :=
  FX3_howManyInField_104_L4 FU p1 0 0 u
def FX4_run_8_105_b375 (l4 : Int32) (u : Mem) : Option (Int32 × Mem) :=
  (if l4 ≤ 0 then (some (0, u)) else ((if 32 < l4 then (some (0, u)) else ((rdA u 14 32 (l4 - 1)).bind fun x3 => some (x3, u)))))
def FX4_run_8_105_b369 (k6 : Int32 → Int32 → Int32 → Mem → Option (Int32 × Mem)) (l2 l4 l5 : Int32) (u : Mem) : Option (Int32 × Mem) :=
  k6 l2 l4 (l5 + 1) u
def FX4_run_8_105_b358 (k6 : Int32 → Int32 → Int32 → Mem → Option (Int32 × Mem)) (l2 l4 l5 l7 : Int32) (u : Mem) : Option (Int32 × Mem) :=
  (wrA u 14 32 (l4 - 1) l7).bind fun u1 => FX4_run_8_105_b369 k6 l2 l4 l5 u1
def FX4_run_8_105_b327 (k6 : Int32 → Int32 → Int32 → Mem → Option (Int32 × Mem)) (l2 l4 l5 t0 : Int32) (u : Mem) : Option (Int32 × Mem) :=
  FX4_run_8_105_b358 k6 l2 l4 l5 t0 u
def FX4_run_8_105_b310 (k6 : Int32 → Int32 → Int32 → Mem → Option (Int32 × Mem)) (l2 l4 l5 t0 : Int32) (u : Mem) : Option (Int32 × Mem) :=
  FX4_run_8_105_b358 k6 l2 l4 l5 t0 u
def FX4_run_8_105_b293 (k6 : Int32 → Int32 → Int32 → Mem → Option (Int32 × Mem)) (l2 l4 l5 t0 : Int32) (u : Mem) : Option (Int32 × Mem) :=
  FX4_run_8_105_b358 k6 l2 l4 l5 t0 u
def FX4_run_8_105_b276 (k6 : Int32 → Int32 → Int32 → Mem → Option (Int32 × Mem)) (l2 l4 l5 t0 : Int32) (u : Mem) : Option (Int32 × Mem) :=
  FX4_run_8_105_b358 k6 l2 l4 l5 t0 u
def FX4_run_8_105_b178 (k6 : Int32 → Int32 → Int32 → Mem → Option (Int32 × Mem)) (l2 l4 l5 l6 l7 t0 : Int32) (u : Mem) : Option (Int32 × Mem) :=
  (if l6 = (-18) then (FX4_run_8_105_b358 k6 l2 l4 l5 (l7 ||| t0) u) else ((if l6 = (-17) then (FX4_run_8_105_b358 k6 l2 l4 l5 (l7 &&& t0) u) else ((if l6 = (-16) then ((if l7 ≤ t0 then (FX4_run_8_105_b327 k6 l2 l4 l5 0 u) else (FX4_run_8_105_b327 k6 l2 l4 l5 1 u))) else ((if l6 = (-15) then ((if l7 = t0 then (FX4_run_8_105_b310 k6 l2 l4 l5 1 u) else (FX4_run_8_105_b310 k6 l2 l4 l5 0 u))) else ((if l6 = (-14) then ((if t0 ≤ l7 then (FX4_run_8_105_b293 k6 l2 l4 l5 0 u) else (FX4_run_8_105_b293 k6 l2 l4 l5 1 u))) else ((if l6 = (-13) then ((if t0 ≤ 0 then (FX4_run_8_105_b276 k6 l2 l4 l5 0 u) else ((dvI l7 t0).bind fun x11 => FX4_run_8_105_b276 k6 l2 l4 l5 x11 u))) else ((if l6 = (-12) then (FX4_run_8_105_b358 k6 l2 l4 l5 (l7 * t0) u) else ((if l6 = (-11) then (FX4_run_8_105_b358 k6 l2 l4 l5 (l7 - t0) u) else ((if l6 = (-10) then (FX4_run_8_105_b358 k6 l2 l4 l5 (l7 + t0) u) else (FX4_run_8_105_b358 k6 l2 l4 l5 (1 - l7) u))))))))))))))))))
def FX4_run_8_105_b147 (k6 : Int32 → Int32 → Int32 → Mem → Option (Int32 × Mem)) (l2 l5 l6 t0 : Int32) (u : Mem) : Option (Int32 × Mem) :=
  (rdA u 14 32 (t0 - 1)).bind fun x1 => (if l6 = (-19) then (FX4_run_8_105_b178 k6 l2 t0 l5 l6 x1 0 u) else ((rdA u 14 32 t0).bind fun x3 => FX4_run_8_105_b178 k6 l2 t0 l5 l6 x1 x3 u))
def FX4_run_8_105_b116 (k6 : Int32 → Int32 → Int32 → Mem → Option (Int32 × Mem)) (l2 l4 l5 l6 t0 t1 : Int32) (u : Mem) : Option (Int32 × Mem) :=
  (if t0 < t1 then (some (0, u)) else ((if l4 ≤ 32 then ((if l6 = (-19) then (FX4_run_8_105_b147 k6 l2 l5 l6 l4 u) else (FX4_run_8_105_b147 k6 l2 l5 l6 (l4 - 1) u))) else (some (0, u)))))
def FX4_run_8_105_b102 (k6 : Int32 → Int32 → Int32 → Mem → Option (Int32 × Mem)) (l2 l4 l5 l6 : Int32) (u : Mem) : Option (Int32 × Mem) :=
  (if l6 = (-19) then (FX4_run_8_105_b116 k6 l2 l4 l5 l6 l4 1 u) else (FX4_run_8_105_b116 k6 l2 l4 l5 l6 l4 2 u))
def FX4_run_8_105_b95 (k6 : Int32 → Int32 → Int32 → Mem → Option (Int32 × Mem)) (l2 l4 l5 t1 t2 : Int32) (u : Mem) : Option (Int32 × Mem) :=
  (wrA u 14 32 t1 t2).bind fun u1 => FX4_run_8_105_b369 k6 l2 (l4 + 1) l5 u1
def FX4_run_8_105_b6 (k6 : Int32 → Int32 → Int32 → Mem → Option (Int32 × Mem)) (l2 l4 l5 : Int32) (u : Mem) : Option (Int32 × Mem) :=
  (if l5 < 0 then (FX4_run_8_105_b375 l4 u) else ((if l2 ≤ l5 then (FX4_run_8_105_b375 l4 u) else ((if 400 ≤ l5 then (FX4_run_8_105_b375 l4 u) else ((rdA u 9 400 l5).bind fun x4 => (if x4 < (-9) then (FX4_run_8_105_b102 k6 l2 l4 l5 x4 u) else ((if l4 < 0 then (FX4_run_8_105_b102 k6 l2 l4 l5 x4 u) else ((if 32 ≤ l4 then (FX4_run_8_105_b102 k6 l2 l4 l5 x4 u) else ((if x4 < 0 then ((if 9 ≤ ((-1) - x4) then (FX4_run_8_105_b95 k6 l2 l4 l5 l4 0 u) else ((rdA u 105 9 ((-1) - x4)).bind fun x10 => FX4_run_8_105_b95 k6 l2 l4 l5 l4 x10 u))) else (FX4_run_8_105_b95 k6 l2 l4 l5 l4 x4 u))))))))))))))
def FX4_run_8_105_L6 : Nat → Int32 → Int32 → Int32 → Mem → Option (Int32 × Mem)
  | 0, _, _, _, _ => none
  | n + 1, l2, l4, l5, u => FX4_run_8_105_b6 (FX4_run_8_105_L6 n) l2 l4 l5 u
def FX4_run_8_105 (p1 p2 : Int32) (u : Mem) : Option (Int32 × Mem) :=
  FX4_run_8_105_L6 FU p2 0 p1 u
def FX4_tell_8_105_b96 (l3 : Int32) (u : Mem) : Option (Int32 × Mem) :=
  some (l3, u)
def FX4_tell_8_105_b90 (k3 : Int32 → Int32 → Int32 → Mem → Option (Int32 × Mem)) (l1 l3 l4 : Int32) (u : Mem) : Option (Int32 × Mem) :=
  k3 l1 l3 (l4 + 1) u
def FX4_tell_8_105_b70 (l4 : Int32) (u : Mem) : Option (Int32 × Mem) :=
  (rdA u 11 16 l4).bind fun x1 => (rdA u 12 16 l4).bind fun x2 => bnd2 (FX4_run_8_105 x1 x2 u) fun x3 u4 => some (x3, u4)
def FX4_tell_8_105_b3 (k3 : Int32 → Int32 → Int32 → Mem → Option (Int32 × Mem)) (l1 l3 l4 : Int32) (u : Mem) : Option (Int32 × Mem) :=
  (if (u 8 7) ≤ l4 then (FX4_tell_8_105_b96 l3 u) else ((if 16 ≤ l4 then (FX4_tell_8_105_b96 l3 u) else ((rdA u 10 16 l4).bind fun x3 => (if x3 = l1 then ((rdA u 12 16 l4).bind fun x5 => (rdA u 13 16 l4).bind fun x6 => (if x5 = x6 then (FX4_tell_8_105_b70 l4 u) else ((rdA u 12 16 l4).bind fun x8 => (rdA u 13 16 l4).bind fun x9 => bnd2 (FX4_run_8_105 x8 x9 u) fun x10 u11 => (if x10 = 1 then (FX4_tell_8_105_b70 l4 u11) else (FX4_tell_8_105_b90 k3 l1 l3 l4 u11))))) else (FX4_tell_8_105_b90 k3 l1 l3 l4 u))))))
def FX4_tell_8_105_L3 : Nat → Int32 → Int32 → Int32 → Mem → Option (Int32 × Mem)
  | 0, _, _, _, _ => none
  | n + 1, l1, l3, l4, u => FX4_tell_8_105_b3 (FX4_tell_8_105_L3 n) l1 l3 l4 u
def FX4_tell_8_105 (p1 p3 : Int32) (u : Mem) : Option (Int32 × Mem) :=
  FX4_tell_8_105_L3 FU p1 p3 0 u
def FX3_asked_104_b195 (l1 l2 t1 t2 : Int32) (u : Mem) : Option (Int32 × Mem) :=
  (wrA u 105 9 t1 t2).bind fun u1 => (if l2 = 0 then ((rdA u1 3 12 l1).bind fun x3 => bnd2 (FX4_tell_8_105 0 (x3 - 59) u1) fun x4 u5 => (FX3_held x4 120).bind fun x6 => some (x6, u5)) else ((if l2 = 1 then ((rdA u1 4 12 l1).bind fun x8 => bnd2 (FX4_tell_8_105 1 x8 u1) fun x9 u10 => (FX3_held x9 9).bind fun x11 => some (x11, u10)) else ((if l2 = 2 then (bnd2 (FX4_tell_8_105 2 0 u1) fun x13 u14 => (FX3_held x13 99).bind fun x15 => some (x15, u14)) else (bnd2 (FX4_tell_8_105 3 50 u1) fun x16 u17 => (FX3_held x16 1000).bind fun x18 => some (x18, u17)))))))
def FX3_asked_104_b132 (l1 l2 l3 t1 t2 : Int32) (u : Mem) : Option (Int32 × Mem) :=
  (wrA u 105 9 t1 t2).bind fun u1 => (some (mupd u1 105 6 (u1 97 7))).bind fun u2 => (some (mupd u2 105 7 (u2 1 8))).bind fun u3 => (if l3 = 0 then (FX3_asked_104_b195 l1 l2 8 0 u3) else ((rdA u3 102 12 l1).bind fun x5 => (FX9_isHill_1 x5 u3).bind fun x6 => (if x6 = 0 then (FX3_asked_104_b195 l1 l2 8 0 u3) else (FX3_asked_104_b195 l1 l2 8 1 u3))))
def FX3_asked_104_b31 (l1 l2 t0 : Int32) (u : Mem) : Option (Int32 × Mem) :=
  (rdA u 2 12 l1).bind fun x1 => (some (mupd u 105 0 x1)).bind fun u2 => (rdA u2 3 12 l1).bind fun x3 => (some (mupd u2 105 1 x3)).bind fun u4 => (rdA u4 4 12 l1).bind fun x5 => (some (mupd u4 105 2 x5)).bind fun u6 => (rdA u6 98 12 l1).bind fun x7 => (some (mupd u6 105 3 x7)).bind fun u8 => (rdA u8 99 12 l1).bind fun x9 => (FJ6_bitCount_0f7a4 x9).bind fun x10 => (some (mupd u8 105 4 x10)).bind fun u11 => (if t0 = 0 then (FX3_asked_104_b132 l1 l2 t0 5 0 u11) else ((rdA u11 102 12 l1).bind fun x13 => FX3_asked_104_b132 l1 l2 t0 5 x13 u11))
def FX3_asked_104 (p1 p2 : Int32) (u : Mem) : Option (Int32 × Mem) :=
  (FX9_hasMan_1 p1 u).bind fun x1 => (if x1 = 0 then (some (0, u)) else ((rdA u 101 12 p1).bind fun x3 => (if x3 = 1 then (FX3_asked_104_b31 p1 p2 1 u) else (FX3_asked_104_b31 p1 p2 0 u))))
def FX3_note_104 (p1 p2 p3 : Int32) (u : Mem) : Option Mem :=
  (if (u 104 3) = 0 then (some u) else ((if 150 ≤ (u 97 9) then (some u) else ((FX1_write_30 (u 97 9) (u 97 7) p1 p2 p3 u).bind fun u4 => (some (mupd u4 97 9 ((u4 97 9) + 1))).bind fun u5 => some u5))))
def FX3_callUp_104_b175 (l1 l2 : Int32) (u : Mem) : Option Mem :=
  (if l2 = (-1) then (some u) else ((wrA u 101 12 l2 1).bind fun u2 => (FX11_endOf l1).bind fun x3 => (wrA u2 102 12 l2 x3).bind fun u4 => (FX11_endOf l1).bind fun x5 => (FX3_note_104 0 l2 x5 u4).bind fun u7 => some u7))
def FX3_callUp_104_b169 (k32 : Int32 → Int32 → Int32 → Int32 → Mem → Option Mem) (l1 l2 l3 l4 : Int32) (u : Mem) : Option Mem :=
  k32 l1 l2 l3 (l4 + 1) u
def FX3_callUp_104_b163 (k32 : Int32 → Int32 → Int32 → Int32 → Mem → Option Mem) (l1 l4 l5 : Int32) (u : Mem) : Option Mem :=
  FX3_callUp_104_b169 k32 l1 l4 l5 l4 u
def FX3_callUp_104_b139 (k32 : Int32 → Int32 → Int32 → Int32 → Mem → Option Mem) (l1 l2 l3 l4 l5 t0 : Int32) (u : Mem) : Option Mem :=
  (if l3 < l5 then (FX3_callUp_104_b163 k32 l1 l4 l5 u) else ((if l2 = (-1) then (FX3_callUp_104_b169 k32 l1 l2 l3 l4 u) else ((if l5 = l3 then ((if t0 = 0 then (FX3_callUp_104_b169 k32 l1 l2 l3 l4 u) else (FX3_callUp_104_b163 k32 l1 l4 l5 u))) else (FX3_callUp_104_b169 k32 l1 l2 l3 l4 u))))))
def FX3_callUp_104_b32 (k32 : Int32 → Int32 → Int32 → Int32 → Mem → Option Mem) (l1 l2 l3 l4 : Int32) (u : Mem) : Option Mem :=
  (if 12 ≤ l4 then (FX3_callUp_104_b175 l1 l2 u) else ((if (u 1 0) ≤ l4 then (FX3_callUp_104_b175 l1 l2 u) else ((rdA u 2 12 l4).bind fun x3 => (if x3 = l1 then ((rdA u 101 12 l4).bind fun x5 => (if x5 = 0 then ((rdA u 3 12 l4).bind fun x7 => (if (u 104 5) ≤ x7 then (bnd2 (FX3_asked_104 l4 0 u) fun x9 u10 => (if l2 = (-1) then (FX3_callUp_104_b139 k32 l1 l2 l3 l4 x9 0 u10) else ((rdA u10 3 12 l4).bind fun x12 => (rdA u10 3 12 l2).bind fun x13 => (if x12 ≤ x13 then (FX3_callUp_104_b139 k32 l1 l2 l3 l4 x9 0 u10) else (FX3_callUp_104_b139 k32 l1 l2 l3 l4 x9 1 u10))))) else (FX3_callUp_104_b169 k32 l1 l2 l3 l4 u))) else (FX3_callUp_104_b169 k32 l1 l2 l3 l4 u))) else (FX3_callUp_104_b169 k32 l1 l2 l3 l4 u))))))
def FX3_callUp_104_L32 : Nat → Int32 → Int32 → Int32 → Int32 → Mem → Option Mem
  | 0, _, _, _, _, _ => none
  | n + 1, l1, l2, l3, l4, u => FX3_callUp_104_b32 (FX3_callUp_104_L32 n) l1 l2 l3 l4 u
def FX3_callUp_104 (p1 : Int32) (u : Mem) : Option Mem :=
  (FX11_isCountry p1).bind fun x1 => (if x1 = 0 then (some u) else ((FX3_howManyInField_104 p1 u).bind fun x3 => (rdA u 6 2 p1).bind fun x4 => (if x3 < x4 then (FX3_callUp_104_L32 FU p1 (-1) 0 0 u) else (some u))))
def FX3_cellsOf_104_b71 (l2 : Int32) (u : Mem) : Option Int32 :=
  some l2
def FX3_cellsOf_104_b63 (k4 : Int32 → Int32 → Int32 → Mem → Option Int32) (l1 l3 t0 t1 : Int32) (u : Mem) : Option Int32 :=
  k4 l1 (t0 ||| t1) (l3 + 1) u
def FX3_cellsOf_104_b4 (k4 : Int32 → Int32 → Int32 → Mem → Option Int32) (l1 l2 l3 : Int32) (u : Mem) : Option Int32 :=
  (if 12 ≤ l3 then (FX3_cellsOf_104_b71 l2 u) else ((if (u 1 0) ≤ l3 then (FX3_cellsOf_104_b71 l2 u) else ((rdA u 2 12 l3).bind fun x3 => (if x3 = l1 then ((rdA u 101 12 l3).bind fun x5 => (if x5 = 1 then ((rdA u 102 12 l3).bind fun x7 => FX3_cellsOf_104_b63 k4 l1 l3 l2 ((1 : Int32) <<< (x7 &&& 31)) u) else (FX3_cellsOf_104_b63 k4 l1 l3 l2 0 u))) else (FX3_cellsOf_104_b63 k4 l1 l3 l2 0 u))))))
def FX3_cellsOf_104_L4 : Nat → Int32 → Int32 → Int32 → Mem → Option Int32
  | 0, _, _, _, _ => none
  | n + 1, l1, l2, l3, u => FX3_cellsOf_104_b4 (FX3_cellsOf_104_L4 n) l1 l2 l3 u
def FX3_cellsOf_104 (p1 : Int32) (u : Mem) : Option Int32 :=
  FX3_cellsOf_104_L4 FU p1 0 0 u
def FX3_walk_104_b110 (k48 : Int32 → Int32 → Int32 → Int32 → Int32 → Mem → Option Mem) (l1 l4 l5 l6 l7 l8 l9 t0 : Int32) (u : Mem) : Option Mem :=
  (if t0 = 0 then ((if l6 < l9 then (some u) else ((rdA u 102 12 l1).bind fun x3 => (FX11_holds l5 x3).bind fun x4 => (if x4 = 0 then ((wrA u 102 12 l1 l8).bind fun u6 => k48 l1 l4 l5 (l6 - l9) (l7 + 1) u6) else (some u))))) else (some u))
def FX3_walk_104_b91 (k48 : Int32 → Int32 → Int32 → Int32 → Int32 → Mem → Option Mem) (l1 l4 l5 l6 l7 l8 t0 : Int32) (u : Mem) : Option Mem :=
  (if l8 < 0 then (FX3_walk_104_b110 k48 l1 l4 l5 l6 l7 l8 t0 1 u) else ((if l8 < 16 then (FX3_walk_104_b110 k48 l1 l4 l5 l6 l7 l8 t0 0 u) else (FX3_walk_104_b110 k48 l1 l4 l5 l6 l7 l8 t0 1 u))))
def FX3_walk_104_b48 (k48 : Int32 → Int32 → Int32 → Int32 → Int32 → Mem → Option Mem) (l1 l4 l5 l6 l7 : Int32) (u : Mem) : Option Mem :=
  (if 16 ≤ l7 then (some u) else ((if l6 ≤ 0 then (some u) else ((rdA u 102 12 l1).bind fun x3 => (FX9_isHill_1 (x3 + l4) u).bind fun x4 => (if x4 = 0 then (FX3_walk_104_b91 k48 l1 l4 l5 l6 l7 (x3 + l4) 1 u) else (FX3_walk_104_b91 k48 l1 l4 l5 l6 l7 (x3 + l4) 2 u))))))
def FX3_walk_104_L48 : Nat → Int32 → Int32 → Int32 → Int32 → Int32 → Mem → Option Mem
  | 0, _, _, _, _, _, _ => none
  | n + 1, l1, l4, l5, l6, l7, u => FX3_walk_104_b48 (FX3_walk_104_L48 n) l1 l4 l5 l6 l7 u
def FX3_walk_104_b31 (l1 l2 l3 t0 : Int32) (u : Mem) : Option Mem :=
  (FX3_cellsOf_104 (1 - l3) u).bind fun x1 => FX3_walk_104_L48 FU l1 t0 x1 l2 0 u
def FX3_walk_104 (p1 p2 : Int32) (u : Mem) : Option Mem :=
  (FX9_hasMan_1 p1 u).bind fun x1 => (if x1 = 0 then (some u) else ((rdA u 2 12 p1).bind fun x3 => (if x3 = 0 then (FX3_walk_104_b31 p1 p2 x3 1 u) else (FX3_walk_104_b31 p1 p2 x3 (-1) u))))
def FX3_goOn_104_b155 (k40 : Int32 → Int32 → Int32 → Mem → Option Mem) (l1 l2 l3 : Int32) (u : Mem) : Option Mem :=
  k40 l1 l2 (l3 + 1) u
def FX3_goOn_104_b108 (k40 : Int32 → Int32 → Int32 → Mem → Option Mem) (l1 l2 l3 t0 : Int32) (u : Mem) : Option Mem :=
  (if t0 ≤ 0 then (bnd2 (FX3_asked_104 l3 1 u) fun x2 u3 => (FX3_walk_104 l3 x2 u3).bind fun u5 => FX3_goOn_104_b155 k40 l1 l2 l3 u5) else ((rdA u 98 12 l3).bind fun x6 => (wrA u 98 12 l3 (if (x6 + t0) < 99 then (x6 + t0) else 99)).bind fun u7 => FX3_goOn_104_b155 k40 l1 l2 l3 u7))
def FX3_goOn_104_b90 (k40 : Int32 → Int32 → Int32 → Mem → Option Mem) (l1 l2 l3 t0 : Int32) (u : Mem) : Option Mem :=
  (if t0 = 0 then (bnd2 (FX3_asked_104 l3 2 u) fun x2 u3 => FX3_goOn_104_b108 k40 l1 l2 l3 x2 u3) else (FX3_goOn_104_b108 k40 l1 l2 l3 10 u))
def FX3_goOn_104_b40 (k40 : Int32 → Int32 → Int32 → Mem → Option Mem) (l1 l2 l3 : Int32) (u : Mem) : Option Mem :=
  (if 12 ≤ l3 then (some u) else ((if (u 1 0) ≤ l3 then (some u) else ((rdA u 101 12 l3).bind fun x3 => (if x3 = 1 then ((rdA u 2 12 l3).bind fun x5 => (if x5 = 0 then (FX3_goOn_104_b90 k40 l1 l2 l3 l1 u) else (FX3_goOn_104_b90 k40 l1 l2 l3 l2 u))) else (FX3_goOn_104_b155 k40 l1 l2 l3 u))))))
def FX3_goOn_104_L40 : Nat → Int32 → Int32 → Int32 → Mem → Option Mem
  | 0, _, _, _, _ => none
  | n + 1, l1, l2, l3, u => FX3_goOn_104_b40 (FX3_goOn_104_L40 n) l1 l2 l3 u
def FX3_goOn_104 (u : Mem) : Option Mem :=
  (FX5_rests_15 (u 97 7) 0 u).bind fun x1 => (FX5_rests_15 (u 97 7) 1 u).bind fun x2 => FX3_goOn_104_L40 FU x1 x2 0 u
def FX3_isAt_104 (p1 p2 : Int32) (u : Mem) : Option Int32 :=
  (FX9_hasMan_1 p1 u).bind fun x1 => (if x1 = 0 then (some 0) else ((rdA u 101 12 p1).bind fun x3 => (if x3 = 1 then ((rdA u 102 12 p1).bind fun x5 => (if x5 = p2 then (some 1) else (some 0))) else (some 0))))
def FX3_breathAt_104_b71 (l3 : Int32) (u : Mem) : Option Int32 :=
  some l3
def FX3_breathAt_104_b63 (k5 : Int32 → Int32 → Int32 → Int32 → Mem → Option Int32) (l1 l2 l4 t0 t1 : Int32) (u : Mem) : Option Int32 :=
  k5 l1 l2 (t0 + t1) (l4 + 1) u
def FX3_breathAt_104_b5 (k5 : Int32 → Int32 → Int32 → Int32 → Mem → Option Int32) (l1 l2 l3 l4 : Int32) (u : Mem) : Option Int32 :=
  (if 12 ≤ l4 then (FX3_breathAt_104_b71 l3 u) else ((if (u 1 0) ≤ l4 then (FX3_breathAt_104_b71 l3 u) else ((rdA u 2 12 l4).bind fun x3 => (if x3 = l1 then ((FX3_isAt_104 l4 l2 u).bind fun x5 => (if x5 = 0 then (FX3_breathAt_104_b63 k5 l1 l2 l4 l3 0 u) else ((rdA u 98 12 l4).bind fun x7 => FX3_breathAt_104_b63 k5 l1 l2 l4 l3 x7 u))) else (FX3_breathAt_104_b63 k5 l1 l2 l4 l3 0 u))))))
def FX3_breathAt_104_L5 : Nat → Int32 → Int32 → Int32 → Int32 → Mem → Option Int32
  | 0, _, _, _, _, _ => none
  | n + 1, l1, l2, l3, l4, u => FX3_breathAt_104_b5 (FX3_breathAt_104_L5 n) l1 l2 l3 l4 u
def FX3_breathAt_104 (p1 p2 : Int32) (u : Mem) : Option Int32 :=
  FX3_breathAt_104_L5 FU p1 p2 0 0 u
def FX3_halve_104_b41 (k2 : Int32 → Int32 → Mem → Option Mem) (l1 l2 : Int32) (u : Mem) : Option Mem :=
  k2 l1 (l2 + 1) u
def FX3_halve_104_b2 (k2 : Int32 → Int32 → Mem → Option Mem) (l1 l2 : Int32) (u : Mem) : Option Mem :=
  (if 12 ≤ l2 then (some u) else ((if (u 1 0) ≤ l2 then (some u) else ((FX3_isAt_104 l2 l1 u).bind fun x3 => (if x3 = 0 then (FX3_halve_104_b41 k2 l1 l2 u) else ((rdA u 98 12 l2).bind fun x5 => (dvI x5 2).bind fun x6 => (wrA u 98 12 l2 x6).bind fun u7 => FX3_halve_104_b41 k2 l1 l2 u7))))))
def FX3_halve_104_L2 : Nat → Int32 → Int32 → Mem → Option Mem
  | 0, _, _, _ => none
  | n + 1, l1, l2, u => FX3_halve_104_b2 (FX3_halve_104_L2 n) l1 l2 u
def FX3_halve_104 (p1 : Int32) (u : Mem) : Option Mem :=
  FX3_halve_104_L2 FU p1 0 u
def FX3_catchYoungest_104_b96 (l2 l3 : Int32) (u : Mem) : Option Mem :=
  (if l3 = (-1) then (some u) else ((wrA u 101 12 l3 2).bind fun u2 => (wrA u2 103 12 l3 (u2 97 7)).bind fun u3 => (some (mupd u3 104 6 ((u3 104 6) + 1))).bind fun u4 => (FX3_note_104 1 l3 l2 u4).bind fun u6 => some u6))
def FX3_catchYoungest_104_b90 (k5 : Int32 → Int32 → Int32 → Int32 → Mem → Option Mem) (l1 l2 l3 l4 : Int32) (u : Mem) : Option Mem :=
  k5 l1 l2 l3 (l4 + 1) u
def FX3_catchYoungest_104_b87 (k5 : Int32 → Int32 → Int32 → Int32 → Mem → Option Mem) (l1 l2 l4 : Int32) (u : Mem) : Option Mem :=
  FX3_catchYoungest_104_b90 k5 l1 l2 l4 l4 u
def FX3_catchYoungest_104_b53 (k5 : Int32 → Int32 → Int32 → Int32 → Mem → Option Mem) (l1 l2 l3 l4 t0 : Int32) (u : Mem) : Option Mem :=
  (if t0 = 0 then (FX3_catchYoungest_104_b90 k5 l1 l2 l3 l4 u) else ((if l3 = (-1) then (FX3_catchYoungest_104_b87 k5 l1 l2 l4 u) else ((rdA u 3 12 l4).bind fun x3 => (rdA u 3 12 l3).bind fun x4 => (if x4 ≤ x3 then (FX3_catchYoungest_104_b90 k5 l1 l2 l3 l4 u) else (FX3_catchYoungest_104_b87 k5 l1 l2 l4 u))))))
def FX3_catchYoungest_104_b5 (k5 : Int32 → Int32 → Int32 → Int32 → Mem → Option Mem) (l1 l2 l3 l4 : Int32) (u : Mem) : Option Mem :=
  (if 12 ≤ l4 then (FX3_catchYoungest_104_b96 l2 l3 u) else ((if (u 1 0) ≤ l4 then (FX3_catchYoungest_104_b96 l2 l3 u) else ((rdA u 2 12 l4).bind fun x3 => (if x3 = l1 then ((FX3_isAt_104 l4 l2 u).bind fun x5 => (if x5 = 0 then (FX3_catchYoungest_104_b53 k5 l1 l2 l3 l4 0 u) else (FX3_catchYoungest_104_b53 k5 l1 l2 l3 l4 1 u))) else (FX3_catchYoungest_104_b53 k5 l1 l2 l3 l4 0 u))))))
def FX3_catchYoungest_104_L5 : Nat → Int32 → Int32 → Int32 → Int32 → Mem → Option Mem
  | 0, _, _, _, _, _ => none
  | n + 1, l1, l2, l3, l4, u => FX3_catchYoungest_104_b5 (FX3_catchYoungest_104_L5 n) l1 l2 l3 l4 u
def FX3_catchYoungest_104 (p1 p2 : Int32) (u : Mem) : Option Mem :=
  FX3_catchYoungest_104_L5 FU p1 p2 (-1) 0 u
def FX3_beat_104_b102 (k2 : Int32 → Int32 → Int32 → Mem → Option Mem) (l1 l2 l3 : Int32) (u : Mem) : Option Mem :=
  k2 l1 l2 (l3 + 1) u
def FX3_beat_104_b2 (k2 : Int32 → Int32 → Int32 → Mem → Option Mem) (l1 l2 l3 : Int32) (u : Mem) : Option Mem :=
  (if 12 ≤ l3 then (some u) else ((if (u 1 0) ≤ l3 then (some u) else ((FX3_isAt_104 l3 l2 u).bind fun x3 => (if x3 = 0 then (FX3_beat_104_b102 k2 l1 l2 l3 u) else ((rdA u 2 12 l3).bind fun x5 => (if x5 = l1 then ((wrA u 101 12 l3 0).bind fun u7 => (rdA u7 98 12 l3).bind fun x8 => (dvI x8 2).bind fun x9 => (wrA u7 98 12 l3 x9).bind fun u10 => (FX3_note_104 2 l3 l2 u10).bind fun u12 => FX3_beat_104_b102 k2 l1 l2 l3 u12) else ((rdA u 98 12 l3).bind fun x13 => (wrA u 98 12 l3 (if 0 < (x13 - 10) then (x13 - 10) else 0)).bind fun u14 => FX3_beat_104_b102 k2 l1 l2 l3 u14))))))))
def FX3_beat_104_L2 : Nat → Int32 → Int32 → Int32 → Mem → Option Mem
  | 0, _, _, _, _ => none
  | n + 1, l1, l2, l3, u => FX3_beat_104_b2 (FX3_beat_104_L2 n) l1 l2 l3 u
def FX3_beat_104 (p1 p2 : Int32) (u : Mem) : Option Mem :=
  FX3_beat_104_L2 FU p1 p2 0 u
def FX3_fight_104_b85 (k14 : Int32 → Int32 → Mem → Option Mem) (l1 l2 : Int32) (u : Mem) : Option Mem :=
  k14 l1 (l2 + 1) u
def FX3_fight_104_b81 (k14 : Int32 → Int32 → Mem → Option Mem) (l1 l2 t1 : Int32) (u : Mem) : Option Mem :=
  (FX3_beat_104 t1 l2 u).bind fun u2 => FX3_fight_104_b85 k14 l1 l2 u2
def FX3_fight_104_b67 (k14 : Int32 → Int32 → Mem → Option Mem) (l1 l2 l3 t1 : Int32) (u : Mem) : Option Mem :=
  (FX3_catchYoungest_104 t1 l2 u).bind fun u2 => (if 0 ≤ l3 then (FX3_fight_104_b81 k14 l1 l2 1 u2) else (FX3_fight_104_b81 k14 l1 l2 0 u2))
def FX3_fight_104_b14 (k14 : Int32 → Int32 → Mem → Option Mem) (l1 l2 : Int32) (u : Mem) : Option Mem :=
  (if 16 ≤ l2 then (some u) else ((FX11_holds l1 l2).bind fun x2 => (if x2 = 0 then (FX3_fight_104_b85 k14 l1 l2 u) else ((FX3_breathAt_104 0 l2 u).bind fun x4 => (FX3_breathAt_104 1 l2 u).bind fun x5 => (if (x4 - x5) = 0 then ((FX3_halve_104 l2 u).bind fun u9 => FX3_fight_104_b85 k14 l1 l2 u9) else ((if 0 ≤ (x4 - x5) then (FX3_fight_104_b67 k14 l1 l2 (x4 - x5) 1 u) else (FX3_fight_104_b67 k14 l1 l2 (x4 - x5) 0 u))))))))
def FX3_fight_104_L14 : Nat → Int32 → Int32 → Mem → Option Mem
  | 0, _, _, _ => none
  | n + 1, l1, l2, u => FX3_fight_104_b14 (FX3_fight_104_L14 n) l1 l2 u
def FX3_fight_104 (u : Mem) : Option Mem :=
  (FX3_cellsOf_104 0 u).bind fun x1 => (FX3_cellsOf_104 1 u).bind fun x2 => FX3_fight_104_L14 FU (x1 &&& x2) 0 u
def FX3_arrive_104_b66 (u : Mem) : Option Mem :=
  (some (mupd u 97 6 0)).bind fun u1 => some u1
def FX3_arrive_104_b39 (l1 l2 t0 : Int32) (u : Mem) : Option Mem :=
  (if t0 = 0 then ((FX11_endOf 0).bind fun x2 => (FX11_holds l2 x2).bind fun x3 => (if x3 = 0 then (some u) else ((FX11_endOf 0).bind fun x5 => (FX11_holds l1 x5).bind fun x6 => (if x6 = 0 then (FX3_arrive_104_b66 u) else (some u))))) else (FX3_arrive_104_b66 u))
def FX3_arrive_104 (u : Mem) : Option Mem :=
  (FX3_cellsOf_104 0 u).bind fun x1 => (FX3_cellsOf_104 1 u).bind fun x2 => (FX11_endOf 1).bind fun x3 => (FX11_holds x1 x3).bind fun x4 => (if x4 = 0 then (FX3_arrive_104_b39 x1 x2 0 u) else ((FX11_endOf 1).bind fun x6 => (FX11_holds x2 x6).bind fun x7 => (if x7 = 0 then (FX3_arrive_104_b39 x1 x2 1 u) else (FX3_arrive_104_b39 x1 x2 0 u))))
def FX3_tellOn_104_b115 (k2 : Int32 → Mem → Option Mem) (l1 : Int32) (u : Mem) : Option Mem :=
  k2 (l1 + 1) u
def FX3_tellOn_104_b109 (k21 : Int32 → Int32 → Mem → Option Mem) (l1 l2 : Int32) (u : Mem) : Option Mem :=
  k21 l1 (l2 + 1) u
def FX3_tellOn_104_b67 (k21 : Int32 → Int32 → Mem → Option Mem) (l1 l2 t0 : Int32) (u : Mem) : Option Mem :=
  (if t0 = 0 then (FX3_tellOn_104_b109 k21 l1 l2 u) else ((rdA u 5 12 l1).bind fun x2 => (FX11_holds x2 l2).bind fun x3 => (if x3 = 0 then (FX3_tellOn_104_b109 k21 l1 l2 u) else ((rdA u 99 12 l2).bind fun x5 => (rdA u 99 12 l1).bind fun x6 => (wrA u 99 12 l2 (x5 ||| x6)).bind fun u7 => FX3_tellOn_104_b109 k21 l1 l2 u7))))
def FX3_tellOn_104_b21 (k2 : Int32 → Mem → Option Mem) (k21 : Int32 → Int32 → Mem → Option Mem) (l1 l2 : Int32) (u : Mem) : Option Mem :=
  (if 12 ≤ l2 then (FX3_tellOn_104_b115 k2 l1 u) else ((if (u 1 0) ≤ l2 then (FX3_tellOn_104_b115 k2 l1 u) else ((rdA u 101 12 l1).bind fun x3 => (if x3 = 0 then ((rdA u 101 12 l2).bind fun x5 => (if x5 = 0 then (FX3_tellOn_104_b67 k21 l1 l2 1 u) else (FX3_tellOn_104_b67 k21 l1 l2 0 u))) else (FX3_tellOn_104_b67 k21 l1 l2 0 u))))))
def FX3_tellOn_104_L21 (k2 : Int32 → Mem → Option Mem) : Nat → Int32 → Int32 → Mem → Option Mem
  | 0, _, _, _ => none
  | n + 1, l1, l2, u => FX3_tellOn_104_b21 k2 (FX3_tellOn_104_L21 k2 n) l1 l2 u
def FX3_tellOn_104_b2 (k2 : Int32 → Mem → Option Mem) (l1 : Int32) (u : Mem) : Option Mem :=
  (if 12 ≤ l1 then (some u) else ((if (u 1 0) ≤ l1 then (some u) else (FX3_tellOn_104_L21 k2 FU l1 0 u))))
def FX3_tellOn_104_L2 : Nat → Int32 → Mem → Option Mem
  | 0, _, _ => none
  | n + 1, l1, u => FX3_tellOn_104_b2 (FX3_tellOn_104_L2 n) l1 u
def FX3_tellOn_104 (u : Mem) : Option Mem :=
  FX3_tellOn_104_L2 FU 0 u
def FX0_draw_97 (p1 : Int32) (u : Mem) : Option (Int32 × Mem) :=
  (some (mupd u 97 8 (((u 97 8) * 1664525) + 1013904223))).bind fun u1 => (if p1 ≤ 0 then (some (0, u1)) else ((rmI (((u1 97 8 : Int32).toUInt32 >>> ((8 : Int32).toUInt32 &&& Int32.toUInt32 31)).toInt32) p1).bind fun x3 => some (x3, u1)))
def FX3_fade_104_b87 (k2 : Int32 → Mem → Option Mem) (l1 : Int32) (u : Mem) : Option Mem :=
  k2 (l1 + 1) u
def FX3_fade_104_b2 (k2 : Int32 → Mem → Option Mem) (l1 : Int32) (u : Mem) : Option Mem :=
  (if 12 ≤ l1 then (some u) else ((if (u 1 0) ≤ l1 then (some u) else ((rdA u 99 12 l1).bind fun x3 => (if x3 = 0 then (FX3_fade_104_b87 k2 l1 u) else (bnd2 (FX0_draw_97 1000 u) fun x5 u6 => bnd2 (FX3_asked_104 l1 3 u6) fun x7 u8 => (if x7 ≤ x5 then (FX3_fade_104_b87 k2 l1 u8) else ((rdA u8 99 12 l1).bind fun x10 => (FX3_leastOf x10).bind fun x11 => (rdA u8 99 12 l1).bind fun x12 => (wrA u8 99 12 l1 (x12 &&& (((1 : Int32) <<< (x11 &&& 31)) ^^^ (-1)))).bind fun u13 => (FX3_note_104 3 l1 x11 u13).bind fun u15 => FX3_fade_104_b87 k2 l1 u15))))))))
def FX3_fade_104_L2 : Nat → Int32 → Mem → Option Mem
  | 0, _, _ => none
  | n + 1, l1, u => FX3_fade_104_b2 (FX3_fade_104_L2 n) l1 u
def FX3_fade_104 (u : Mem) : Option Mem :=
  FX3_fade_104_L2 FU 0 u
def FX3_known_104_b56 (l2 : Int32) (u : Mem) : Option Int32 :=
  some l2
def FX3_known_104_b48 (k4 : Int32 → Int32 → Int32 → Mem → Option Int32) (l1 l3 t0 t1 : Int32) (u : Mem) : Option Int32 :=
  k4 l1 (t0 ||| t1) (l3 + 1) u
def FX3_known_104_b4 (k4 : Int32 → Int32 → Int32 → Mem → Option Int32) (l1 l2 l3 : Int32) (u : Mem) : Option Int32 :=
  (if 12 ≤ l3 then (FX3_known_104_b56 l2 u) else ((if (u 1 0) ≤ l3 then (FX3_known_104_b56 l2 u) else ((rdA u 2 12 l3).bind fun x3 => (if x3 = l1 then ((rdA u 99 12 l3).bind fun x5 => FX3_known_104_b48 k4 l1 l3 l2 x5 u) else (FX3_known_104_b48 k4 l1 l3 l2 0 u))))))
def FX3_known_104_L4 : Nat → Int32 → Int32 → Int32 → Mem → Option Int32
  | 0, _, _, _, _ => none
  | n + 1, l1, l2, l3, u => FX3_known_104_b4 (FX3_known_104_L4 n) l1 l2 l3 u
def FX3_known_104 (p1 : Int32) (u : Mem) : Option Int32 :=
  FX3_known_104_L4 FU p1 0 0 u
def FJ7_fill_53178_101_b5 (k5 : Int32 → Int32 → Int32 → Mem → Option Mem) (l1 l2 l3 : Int32) (u : Mem) : Option Mem :=
  (if l3 ≤ l2 then (some u) else ((wrA u 101 12 l2 l1).bind fun u2 => k5 l1 (l2 + 1) l3 u2))
def FJ7_fill_53178_101_L5 : Nat → Int32 → Int32 → Int32 → Mem → Option Mem
  | 0, _, _, _, _ => none
  | n + 1, l1, l2, l3, u => FJ7_fill_53178_101_b5 (FJ7_fill_53178_101_L5 n) l1 l2 l3 u
def FJ7_fill_53178_101 (p1 : Int32) (u : Mem) : Option Mem :=
  FJ7_fill_53178_101_L5 FU p1 0 12 u
def FX3_endDay_104_b134 (u : Mem) : Option Mem :=
  (if (u 97 6) = 0 then ((FJ7_fill_53178_101 0 u).bind fun u3 => (FX3_note_104 4 (-1) 0 u3).bind fun u5 => some u5) else (some u))
def FX3_endDay_104_b128 (k54 : Int32 → Mem → Option Mem) (l1 : Int32) (u : Mem) : Option Mem :=
  k54 (l1 + 1) u
def FX3_endDay_104_b54 (k54 : Int32 → Mem → Option Mem) (l1 : Int32) (u : Mem) : Option Mem :=
  (if 12 ≤ l1 then (FX3_endDay_104_b134 u) else ((if (u 1 0) ≤ l1 then (FX3_endDay_104_b134 u) else ((rdA u 101 12 l1).bind fun x3 => (if x3 = 2 then ((rdA u 103 12 l1).bind fun x5 => (if ((u 97 7) - x5) < (u 1 9) then (FX3_endDay_104_b128 k54 l1 u) else ((wrA u 101 12 l1 0).bind fun u7 => (FX3_note_104 5 l1 0 u7).bind fun u9 => FX3_endDay_104_b128 k54 l1 u9))) else (FX3_endDay_104_b128 k54 l1 u))))))
def FX3_endDay_104_L54 : Nat → Int32 → Mem → Option Mem
  | 0, _, _ => none
  | n + 1, l1, u => FX3_endDay_104_b54 (FX3_endDay_104_L54 n) l1 u
def FX3_endDay_104_b52 (u : Mem) : Option Mem :=
  FX3_endDay_104_L54 FU 0 u
def FX3_endDay_104_b44 (u : Mem) : Option Mem :=
  (some (mupd u 97 6 0)).bind fun u1 => FX3_endDay_104_b52 u1
def FX3_endDay_104 (u : Mem) : Option Mem :=
  (FX3_known_104 0 u).bind fun x1 => (FX9_weightOf_1 x1 u).bind fun x2 => (if x2 < (u 1 7) then (FX3_endDay_104_b44 u) else ((FX3_known_104 1 u).bind fun x4 => (FX9_weightOf_1 x4 u).bind fun x5 => (if (u 1 7) ≤ x5 then (FX3_endDay_104_b52 u) else (FX3_endDay_104_b44 u))))
def FX3_pass_104_b79 (u : Mem) : Option Mem :=
  (some (mupd u 97 7 ((u 97 7) + 1))).bind fun u1 => some u1
def FX3_pass_104_b71 (l1 : Int32) (u : Mem) : Option Mem :=
  (if l1 = 0 then (FX3_pass_104_b79 u) else ((FX3_endDay_104 u).bind fun u3 => FX3_pass_104_b79 u3))
def FX3_pass_104_b60 (l1 : Int32) (u : Mem) : Option Mem :=
  (if (u 104 3) = 0 then (FX3_pass_104_b71 l1 u) else ((FX3_fade_104 u).bind fun u3 => FX3_pass_104_b71 l1 u3))
def FX3_pass_104_b43 (l1 : Int32) (u : Mem) : Option Mem :=
  (rmI (u 97 7) 7).bind fun x1 => (if x1 = 0 then ((FX3_tellOn_104 u).bind fun u4 => FX3_pass_104_b60 l1 u4) else (FX3_pass_104_b60 l1 u))
def FX3_pass_104_b16 (t0 : Int32) (u : Mem) : Option Mem :=
  (if t0 = 0 then (FX3_pass_104_b43 t0 u) else ((FX3_callUp_104 0 u).bind fun u3 => (FX3_callUp_104 1 u3).bind fun u5 => (FX3_goOn_104 u5).bind fun u7 => (FX3_fight_104 u7).bind fun u9 => (FX3_arrive_104 u9).bind fun u11 => FX3_pass_104_b43 t0 u11))
def FX3_pass_104 (u : Mem) : Option Mem :=
  (if (u 97 6) = 1 then (FX3_pass_104_b16 1 u) else (FX3_pass_104_b16 0 u))
def FX2_until_96_b31 (l2 : Int32) (u : Mem) : Option (Int32 × Mem) :=
  (if (u 97 6) = 0 then (some (l2, u)) else (some ((-1), u)))
def FX2_until_96_b2 (k2 : Int32 → Int32 → Mem → Option (Int32 × Mem)) (l1 l2 : Int32) (u : Mem) : Option (Int32 × Mem) :=
  (if l1 ≤ l2 then (FX2_until_96_b31 l2 u) else ((if (u 97 6) = 1 then ((FX3_pass_104 u).bind fun u4 => k2 l1 (l2 + 1) u4) else (FX2_until_96_b31 l2 u))))
def FX2_until_96_L2 : Nat → Int32 → Int32 → Mem → Option (Int32 × Mem)
  | 0, _, _, _ => none
  | n + 1, l1, l2, u => FX2_until_96_b2 (FX2_until_96_L2 n) l1 l2 u
def FX2_until_96 (p1 : Int32) (u : Mem) : Option (Int32 × Mem) :=
  FX2_until_96_L2 FU p1 0 u
def FX3_breathOf_104_b56 (l2 : Int32) (u : Mem) : Option Int32 :=
  some l2
def FX3_breathOf_104_b48 (k4 : Int32 → Int32 → Int32 → Mem → Option Int32) (l1 l3 t0 t1 : Int32) (u : Mem) : Option Int32 :=
  k4 l1 (t0 + t1) (l3 + 1) u
def FX3_breathOf_104_b4 (k4 : Int32 → Int32 → Int32 → Mem → Option Int32) (l1 l2 l3 : Int32) (u : Mem) : Option Int32 :=
  (if 12 ≤ l3 then (FX3_breathOf_104_b56 l2 u) else ((if (u 1 0) ≤ l3 then (FX3_breathOf_104_b56 l2 u) else ((rdA u 2 12 l3).bind fun x3 => (if x3 = l1 then ((rdA u 98 12 l3).bind fun x5 => FX3_breathOf_104_b48 k4 l1 l3 l2 x5 u) else (FX3_breathOf_104_b48 k4 l1 l3 l2 0 u))))))
def FX3_breathOf_104_L4 : Nat → Int32 → Int32 → Int32 → Mem → Option Int32
  | 0, _, _, _, _ => none
  | n + 1, l1, l2, l3, u => FX3_breathOf_104_b4 (FX3_breathOf_104_L4 n) l1 l2 l3 u
def FX3_breathOf_104 (p1 : Int32) (u : Mem) : Option Int32 :=
  FX3_breathOf_104_L4 FU p1 0 0 u
def FX2_lasting_96 (p1 : Int32) (u : Mem) : Option (Int32 × Mem) :=
  (FX2_imagine_96 0 u).bind fun u2 => bnd2 (FX2_until_96 99 u2) fun x3 u4 => (if p1 = 0 then (some (x3, u4)) else ((if p1 = 1 then (some (u4 104 6, u4)) else ((FX3_breathOf_104 (p1 - 2) u4).bind fun x7 => some (x7, u4)))))
def FX11_lasts_0 (p1 : Int32) (u : Mem) : Option (Int32 × Mem) :=
  (if p1 < 0 then (some ((-1), u)) else ((if p1 ≤ 3 then (bnd2 (FX2_lasting_96 p1 u) fun x3 u4 => some (x3, u4)) else (some ((-1), u)))))
def FX12_lastsWith_146_b172 (k172 : Int32 → Int32 → Int32 → Mem → Option (Int32 × Mem)) (l3 l4 l5 : Int32) (u : Mem) : Option (Int32 × Mem) :=
  (if 78 ≤ l5 then ((some (mupd u 146 27 0)).bind fun u2 => (if l4 = 0 then (some (1000000, u2)) else (some (l3, u2)))) else ((rdA u 150 78 l5).bind fun x4 => (wrA u 147 1786 l5 x4).bind fun u5 => k172 l3 l4 (l5 + 1) u5))
def FX12_lastsWith_146_L172 : Nat → Int32 → Int32 → Int32 → Mem → Option (Int32 × Mem)
  | 0, _, _, _, _ => none
  | n + 1, l3, l4, l5, u => FX12_lastsWith_146_b172 (FX12_lastsWith_146_L172 n) l3 l4 l5 u
def FX12_lastsWith_146_b122 (k122 : Int32 → Int32 → Int32 → Mem → Option (Int32 × Mem)) (l3 l4 l5 : Int32) (u : Mem) : Option (Int32 × Mem) :=
  (if (u 147 78) ≤ l5 then (FX12_lastsWith_146_L172 FU l3 l4 0 u) else ((rdA u 147 1786 (90 + l5)).bind fun x2 => (rdA u 157 4 (2 + x2)).bind fun x3 => (rdA u 147 1786 (4 + l5)).bind fun x4 => (wrA u 157 4 (2 + x2) (x3 + x4)).bind fun u5 => k122 l3 l4 (l5 + 1) u5))
def FX12_lastsWith_146_L122 : Nat → Int32 → Int32 → Int32 → Mem → Option (Int32 × Mem)
  | 0, _, _, _, _ => none
  | n + 1, l3, l4, l5, u => FX12_lastsWith_146_b122 (FX12_lastsWith_146_L122 n) l3 l4 l5 u
def FX12_lastsWith_146_b93 (l3 t0 : Int32) (u : Mem) : Option (Int32 × Mem) :=
  (some (mupd u 157 1 (u 146 29))).bind fun u1 => (some (mupd u1 157 2 0)).bind fun u2 => (some (mupd u2 157 3 0)).bind fun u3 => FX12_lastsWith_146_L122 FU l3 t0 0 u3
def FX12_lastsWith_146_b79 (l3 : Int32) (u : Mem) : Option (Int32 × Mem) :=
  (if (u 147 1) = 0 then (FX12_lastsWith_146_b93 l3 1 u) else (FX12_lastsWith_146_b93 l3 0 u))
def FX12_lastsWith_146_b53 (k53 : Int32 → Mem → Option (Int32 × Mem)) (l3 : Int32) (u : Mem) : Option (Int32 × Mem) :=
  (if (u 147 1) = 1 then ((if 99 ≤ l3 then (FX12_lastsWith_146_b79 l3 u) else ((FX12_aDay_146 u).bind fun u4 => k53 (l3 + 1) u4))) else (FX12_lastsWith_146_b79 l3 u))
def FX12_lastsWith_146_L53 : Nat → Int32 → Mem → Option (Int32 × Mem)
  | 0, _, _ => none
  | n + 1, l3, u => FX12_lastsWith_146_b53 (FX12_lastsWith_146_L53 n) l3 u
def FX12_lastsWith_146_b51 (u : Mem) : Option (Int32 × Mem) :=
  FX12_lastsWith_146_L53 FU 0 u
def FX12_lastsWith_146_b2 (k2 : Int32 → Int32 → Int32 → Mem → Option (Int32 × Mem)) (l1 l2 l3 : Int32) (u : Mem) : Option (Int32 × Mem) :=
  (if 78 ≤ l3 then ((some (mupd u 146 28 0)).bind fun u2 => (some (mupd u2 146 27 l2)).bind fun u3 => (some (mupd u3 146 29 0)).bind fun u4 => (if l1 = (-1) then (FX12_lastsWith_146_b51 u4) else ((FX12_takesField_146 l1 u4).bind fun u7 => FX12_lastsWith_146_b51 u7))) else ((rdA u 147 1786 l3).bind fun x8 => (wrA u 150 78 l3 x8).bind fun u9 => k2 l1 l2 (l3 + 1) u9))
def FX12_lastsWith_146_L2 : Nat → Int32 → Int32 → Int32 → Mem → Option (Int32 × Mem)
  | 0, _, _, _, _ => none
  | n + 1, l1, l2, l3, u => FX12_lastsWith_146_b2 (FX12_lastsWith_146_L2 n) l1 l2 l3 u
def FX12_lastsWith_146 (p1 p2 : Int32) (u : Mem) : Option (Int32 × Mem) :=
  FX12_lastsWith_146_L2 FU p1 p2 0 u
def FX12_lasts_146 (p1 : Int32) (u : Mem) : Option (Int32 × Mem) :=
  (FX12_isIn p1 0 3).bind fun x1 => (if x1 = 0 then (some ((-1), u)) else (bnd2 (FX12_lastsWith_146 (-1) 0 u) fun x3 u4 => (if p1 ≤ 0 then ((if x3 = 1000000 then (some ((-1), u4)) else (some (x3, u4)))) else ((rdA u4 157 4 p1).bind fun x7 => some (x7, u4)))))
def FX2_take_96 (p1 p2 : Int32) (u : Mem) : Option Mem :=
  (if p2 = (-1) then (some u) else ((if (u 96 5) ≤ p2 then (some u) else ((some (mupd u 96 4 p1)).bind fun u3 => (some (mupd u3 96 5 p2)).bind fun u4 => some u4))))
def FX2_chooseMan_96_b101 (k13 : Int32 → Int32 → Mem → Option Mem) (l1 l2 : Int32) (u : Mem) : Option Mem :=
  k13 l1 (l2 + 1) u
def FX2_chooseMan_96_b13 (k13 : Int32 → Int32 → Mem → Option Mem) (l1 l2 : Int32) (u : Mem) : Option Mem :=
  (if 12 ≤ l2 then (some u) else ((if (u 1 0) ≤ l2 then (some u) else ((rdA u 2 12 l2).bind fun x3 => (if x3 = l1 then ((rdA u 27 12 l2).bind fun x5 => (if x5 = 0 then ((FX2_imagine_96 0 u).bind fun u8 => (wrA u8 101 12 l2 1).bind fun u9 => (FX11_endOf l1).bind fun x10 => (wrA u9 102 12 l2 x10).bind fun u11 => bnd2 (FX2_until_96 ((u11 96 5) - 1) u11) fun x12 u13 => (FX2_take_96 l2 x12 u13).bind fun u15 => FX2_chooseMan_96_b101 k13 l1 l2 u15) else (FX2_chooseMan_96_b101 k13 l1 l2 u))) else (FX2_chooseMan_96_b101 k13 l1 l2 u))))))
def FX2_chooseMan_96_L13 : Nat → Int32 → Int32 → Mem → Option Mem
  | 0, _, _, _ => none
  | n + 1, l1, l2, u => FX2_chooseMan_96_b13 (FX2_chooseMan_96_L13 n) l1 l2 u
def FX2_chooseMan_96 (p1 : Int32) (u : Mem) : Option Mem :=
  (some (mupd u 96 4 (-1))).bind fun u1 => (some (mupd u1 96 5 100)).bind fun u2 => FX2_chooseMan_96_L13 FU p1 0 u2
def FX2_answer_96_b12 (u : Mem) : Option Int32 :=
  some (u 96 4)
def FX2_answer_96 (p1 : Int32) (u : Mem) : Option Int32 :=
  (if p1 = 0 then (FX2_answer_96_b12 u) else ((if (u 96 4) = (-1) then (FX2_answer_96_b12 u) else (some (u 96 5)))))
def FX11_soonest_0 (p1 p2 : Int32) (u : Mem) : Option (Int32 × Mem) :=
  (FX11_isCountry p1).bind fun x1 => (if x1 = 0 then (some ((-1), u)) else ((if p2 < 0 then (some ((-1), u)) else ((if p2 ≤ 1 then ((FX2_chooseMan_96 p1 u).bind fun u6 => (FX2_answer_96 p2 u6).bind fun x7 => some (x7, u6)) else (some ((-1), u)))))))
def FX12_soonest_146_b95 (l3 : Int32) (u : Mem) : Option (Int32 × Mem) :=
  some (l3, u)
def FX12_soonest_146_b80 (k28 : Int32 → Int32 → Int32 → Int32 → Int32 → Mem → Option (Int32 × Mem)) (l1 l2 l3 l4 l5 : Int32) (u : Mem) : Option (Int32 × Mem) :=
  k28 l1 l2 l3 l4 (l5 + 1) u
def FX12_soonest_146_b28 (k28 : Int32 → Int32 → Int32 → Int32 → Int32 → Mem → Option (Int32 × Mem)) (l1 l2 l3 l4 l5 : Int32) (u : Mem) : Option (Int32 × Mem) :=
  (if (u 147 78) ≤ l5 then ((if l3 = (-1) then (FX12_soonest_146_b95 l3 u) else ((if l2 = 0 then (FX12_soonest_146_b95 l3 u) else (some (l4, u)))))) else ((FX12_isOf_146 l5 l1 0 u).bind fun x4 => (if x4 = 0 then (FX12_soonest_146_b80 k28 l1 l2 l3 l4 l5 u) else (bnd2 (FX12_lastsWith_146 l5 0 u) fun x6 u7 => (if x6 < l4 then (FX12_soonest_146_b80 k28 l1 l2 l5 x6 l5 u7) else (FX12_soonest_146_b80 k28 l1 l2 l3 l4 l5 u7))))))
def FX12_soonest_146_L28 : Nat → Int32 → Int32 → Int32 → Int32 → Int32 → Mem → Option (Int32 × Mem)
  | 0, _, _, _, _, _, _ => none
  | n + 1, l1, l2, l3, l4, l5, u => FX12_soonest_146_b28 (FX12_soonest_146_L28 n) l1 l2 l3 l4 l5 u
def FX12_soonest_146 (p1 p2 : Int32) (u : Mem) : Option (Int32 × Mem) :=
  (FX12_isCountry p1).bind fun x1 => (if x1 = 0 then (some ((-1), u)) else ((FX12_isIn p2 0 1).bind fun x3 => (if x3 = 0 then (some ((-1), u)) else (FX12_soonest_146_L28 FU p1 p2 (-1) 1000000 0 u))))
def FX2_chooseAge_96_b14 (k14 : Int32 → Mem → Option Mem) (l1 : Int32) (u : Mem) : Option Mem :=
  (if l1 < 0 then (some u) else ((FX2_imagine_96 l1 u).bind fun u3 => bnd2 (FX2_until_96 ((u3 96 5) - 1) u3) fun x4 u5 => (FX2_take_96 l1 x4 u5).bind fun u7 => k14 (l1 + (-10)) u7))
def FX2_chooseAge_96_L14 : Nat → Int32 → Mem → Option Mem
  | 0, _, _ => none
  | n + 1, l1, u => FX2_chooseAge_96_b14 (FX2_chooseAge_96_L14 n) l1 u
def FX2_chooseAge_96 (u : Mem) : Option Mem :=
  (some (mupd u 96 4 (-1))).bind fun u1 => (some (mupd u1 96 5 100)).bind fun u2 => FX2_chooseAge_96_L14 FU 120 u2
def FX11_from_0 (p1 : Int32) (u : Mem) : Option (Int32 × Mem) :=
  (if p1 < 0 then (some ((-1), u)) else ((if p1 ≤ 1 then ((FX2_chooseAge_96 u).bind fun u4 => (FX2_answer_96 p1 u4).bind fun x5 => some (x5, u4)) else (some ((-1), u)))))
def FX12_from_146_b65 (l2 : Int32) (u : Mem) : Option (Int32 × Mem) :=
  some (l2, u)
def FX12_from_146_b50 (k21 : Int32 → Int32 → Int32 → Int32 → Mem → Option (Int32 × Mem)) (l1 l2 l3 l4 : Int32) (u : Mem) : Option (Int32 × Mem) :=
  k21 l1 l2 l3 (l4 + (-10)) u
def FX12_from_146_b21 (k21 : Int32 → Int32 → Int32 → Int32 → Mem → Option (Int32 × Mem)) (l1 l2 l3 l4 : Int32) (u : Mem) : Option (Int32 × Mem) :=
  (if l4 < 0 then ((if l2 = (-1) then (FX12_from_146_b65 l2 u) else ((if l1 = 0 then (FX12_from_146_b65 l2 u) else (some (l3, u)))))) else (bnd2 (FX12_lastsWith_146 (-1) l4 u) fun x4 u5 => (if x4 < l3 then (FX12_from_146_b50 k21 l1 l4 x4 l4 u5) else (FX12_from_146_b50 k21 l1 l2 l3 l4 u5))))
def FX12_from_146_L21 : Nat → Int32 → Int32 → Int32 → Int32 → Mem → Option (Int32 × Mem)
  | 0, _, _, _, _, _ => none
  | n + 1, l1, l2, l3, l4, u => FX12_from_146_b21 (FX12_from_146_L21 n) l1 l2 l3 l4 u
def FX12_from_146 (p1 : Int32) (u : Mem) : Option (Int32 × Mem) :=
  (FX12_isIn p1 0 1).bind fun x1 => (if x1 = 0 then (some ((-1), u)) else (FX12_from_146_L21 FU p1 (-1) 1000000 120 u))
def FX7_knowers_106_b53 (l2 : Int32) (u : Mem) : Option Int32 :=
  some l2
def FX7_knowers_106_b45 (k4 : Int32 → Int32 → Int32 → Mem → Option Int32) (l1 l3 t0 t1 : Int32) (u : Mem) : Option Int32 :=
  k4 l1 (t0 ||| t1) (l3 + 1) u
def FX7_knowers_106_b4 (k4 : Int32 → Int32 → Int32 → Mem → Option Int32) (l1 l2 l3 : Int32) (u : Mem) : Option Int32 :=
  (if 12 ≤ l3 then (FX7_knowers_106_b53 l2 u) else ((if (u 1 0) ≤ l3 then (FX7_knowers_106_b53 l2 u) else ((rdA u 25 12 l3).bind fun x3 => (FX11_holds x3 l1).bind fun x4 => (if x4 = 0 then (FX7_knowers_106_b45 k4 l1 l3 l2 0 u) else (FX7_knowers_106_b45 k4 l1 l3 l2 ((1 : Int32) <<< (l3 &&& 31)) u))))))
def FX7_knowers_106_L4 : Nat → Int32 → Int32 → Int32 → Mem → Option Int32
  | 0, _, _, _, _ => none
  | n + 1, l1, l2, l3, u => FX7_knowers_106_b4 (FX7_knowers_106_L4 n) l1 l2 l3 u
def FX7_knowers_106 (p1 : Int32) (u : Mem) : Option Int32 :=
  FX7_knowers_106_L4 FU p1 0 0 u
def FX7_hearers_106_b68 (k8 : Int32 → Int32 → Mem → Option Int32) (l2 l3 : Int32) (u : Mem) : Option Int32 :=
  k8 l2 (l3 + 1) u
def FX7_hearers_106_b60 (k17 : Int32 → Int32 → Int32 → Mem → Option Int32) (l3 l4 t0 t1 : Int32) (u : Mem) : Option Int32 :=
  k17 (t0 ||| t1) l3 (l4 + 1) u
def FX7_hearers_106_b17 (k8 : Int32 → Int32 → Mem → Option Int32) (k17 : Int32 → Int32 → Int32 → Mem → Option Int32) (l2 l3 l4 : Int32) (u : Mem) : Option Int32 :=
  (if 12 ≤ l4 then (FX7_hearers_106_b68 k8 l2 l3 u) else ((if (u 1 0) ≤ l4 then (FX7_hearers_106_b68 k8 l2 l3 u) else ((FX11_holds l2 l4).bind fun x3 => (if x3 = 0 then (FX7_hearers_106_b60 k17 l3 l4 l2 0 u) else ((rdA u 5 12 l4).bind fun x5 => FX7_hearers_106_b60 k17 l3 l4 l2 x5 u))))))
def FX7_hearers_106_L17 (k8 : Int32 → Int32 → Mem → Option Int32) : Nat → Int32 → Int32 → Int32 → Mem → Option Int32
  | 0, _, _, _, _ => none
  | n + 1, l2, l3, l4, u => FX7_hearers_106_b17 k8 (FX7_hearers_106_L17 k8 n) l2 l3 l4 u
def FX7_hearers_106_b8 (k8 : Int32 → Int32 → Mem → Option Int32) (l2 l3 : Int32) (u : Mem) : Option Int32 :=
  (if 12 ≤ l3 then (some l2) else (FX7_hearers_106_L17 k8 FU l2 l3 0 u))
def FX7_hearers_106_L8 : Nat → Int32 → Int32 → Mem → Option Int32
  | 0, _, _, _ => none
  | n + 1, l2, l3, u => FX7_hearers_106_b8 (FX7_hearers_106_L8 n) l2 l3 u
def FX7_hearers_106 (p1 : Int32) (u : Mem) : Option Int32 :=
  (FX7_knowers_106 p1 u).bind fun x1 => FX7_hearers_106_L8 FU x1 0 u
def FX11_hears_0 (p1 : Int32) (u : Mem) : Option Int32 :=
  (FX11_isFact p1).bind fun x1 => (if x1 = 0 then (some (-1)) else ((FX7_hearers_106 p1 u).bind fun x3 => some x3))
def FX12_knowers_146_b4 (k4 : Int32 → Int32 → Int32 → Mem → Option Int32) (l1 l2 l3 : Int32) (u : Mem) : Option Int32 :=
  (if (u 147 78) ≤ l3 then (some l2) else ((rdA u 147 1786 (16 + l3)).bind fun x2 => k4 l1 (l2 ||| (((x2 >>> (l1 &&& 31)) &&& 1) <<< (l3 &&& 31))) (l3 + 1) u))
def FX12_knowers_146_L4 : Nat → Int32 → Int32 → Int32 → Mem → Option Int32
  | 0, _, _, _, _ => none
  | n + 1, l1, l2, l3, u => FX12_knowers_146_b4 (FX12_knowers_146_L4 n) l1 l2 l3 u
def FX12_knowers_146 (p1 : Int32) (u : Mem) : Option Int32 :=
  FX12_knowers_146_L4 FU p1 0 0 u
def FX12_hears_146_b62 (k29 : Int32 → Int32 → Int32 → Mem → Option Int32) (l3 l4 t0 t1 : Int32) (u : Mem) : Option Int32 :=
  k29 (t0 ||| t1) l3 (l4 + 1) u
def FX12_hears_146_b29 (k20 : Int32 → Int32 → Mem → Option Int32) (k29 : Int32 → Int32 → Int32 → Mem → Option Int32) (l2 l3 l4 : Int32) (u : Mem) : Option Int32 :=
  (if (u 147 78) ≤ l4 then (k20 l2 (l3 + 1) u) else ((if ((l2 >>> (l4 &&& 31)) &&& 1) = 1 then ((FX12_toldBy_146 l4 u).bind fun x3 => FX12_hears_146_b62 k29 l3 l4 l2 x3 u) else (FX12_hears_146_b62 k29 l3 l4 l2 0 u))))
def FX12_hears_146_L29 (k20 : Int32 → Int32 → Mem → Option Int32) : Nat → Int32 → Int32 → Int32 → Mem → Option Int32
  | 0, _, _, _, _ => none
  | n + 1, l2, l3, l4, u => FX12_hears_146_b29 k20 (FX12_hears_146_L29 k20 n) l2 l3 l4 u
def FX12_hears_146_b20 (k20 : Int32 → Int32 → Mem → Option Int32) (l2 l3 : Int32) (u : Mem) : Option Int32 :=
  (if 12 ≤ l3 then (some l2) else (FX12_hears_146_L29 k20 FU l2 l3 0 u))
def FX12_hears_146_L20 : Nat → Int32 → Int32 → Mem → Option Int32
  | 0, _, _, _ => none
  | n + 1, l2, l3, u => FX12_hears_146_b20 (FX12_hears_146_L20 n) l2 l3 u
def FX12_hears_146 (p1 : Int32) (u : Mem) : Option Int32 :=
  (FX12_isIn p1 0 7).bind fun x1 => (if x1 = 0 then (some (-1)) else ((FX12_knowers_146 p1 u).bind fun x3 => FX12_hears_146_L20 FU x3 0 u))
def FX7_findWay_106_b189 (l2 l3 : Int32) (u : Mem) : Option (Int32 × Mem) :=
  (FX11_holds l3 l2).bind fun x1 => (bchk x1).bind fun x2 => some (x2, u)
def FX7_findWay_106_b177 (k86 : Int32 → Int32 → Int32 → Int32 → Int32 → Int32 → Mem → Option (Int32 × Mem)) (l2 l3 l4 l5 l6 l7 : Int32) (u : Mem) : Option (Int32 × Mem) :=
  k86 l2 l3 l4 l5 l6 (l7 + 1) u
def FX7_findWay_106_b126 (k86 : Int32 → Int32 → Int32 → Int32 → Int32 → Int32 → Mem → Option (Int32 × Mem)) (l2 l3 l4 l5 l6 l7 t0 : Int32) (u : Mem) : Option (Int32 × Mem) :=
  (if t0 = 0 then (FX7_findWay_106_b177 k86 l2 l3 l4 l5 l6 l7 u) else ((FX11_holds l3 l7).bind fun x2 => (if x2 = 0 then ((if 12 ≤ l4 then (FX7_findWay_106_b177 k86 l2 l3 l4 l5 l6 l7 u) else ((wrA u 108 12 l7 l6).bind fun u5 => (wrA u5 109 12 l4 l7).bind fun u6 => FX7_findWay_106_b177 k86 l2 (l3 ||| ((1 : Int32) <<< (l7 &&& 31))) (l4 + 1) l5 l6 l7 u6))) else (FX7_findWay_106_b177 k86 l2 l3 l4 l5 l6 l7 u))))
def FX7_findWay_106_b86 (k60 : Int32 → Int32 → Int32 → Int32 → Mem → Option (Int32 × Mem)) (k86 : Int32 → Int32 → Int32 → Int32 → Int32 → Int32 → Mem → Option (Int32 × Mem)) (l2 l3 l4 l5 l6 l7 : Int32) (u : Mem) : Option (Int32 × Mem) :=
  (if 12 ≤ l7 then (k60 l2 l3 l4 (l5 + 1) u) else ((if l6 < 0 then (FX7_findWay_106_b126 k86 l2 l3 l4 l5 l6 l7 0 u) else ((if 12 ≤ l6 then (FX7_findWay_106_b126 k86 l2 l3 l4 l5 l6 l7 0 u) else ((rdA u 107 144 ((l6 * 12) + l7)).bind fun x4 => (if x4 ≤ 0 then (FX7_findWay_106_b126 k86 l2 l3 l4 l5 l6 l7 0 u) else (FX7_findWay_106_b126 k86 l2 l3 l4 l5 l6 l7 1 u))))))))
def FX7_findWay_106_L86 (k60 : Int32 → Int32 → Int32 → Int32 → Mem → Option (Int32 × Mem)) : Nat → Int32 → Int32 → Int32 → Int32 → Int32 → Int32 → Mem → Option (Int32 × Mem)
  | 0, _, _, _, _, _, _, _ => none
  | n + 1, l2, l3, l4, l5, l6, l7, u => FX7_findWay_106_b86 k60 (FX7_findWay_106_L86 k60 n) l2 l3 l4 l5 l6 l7 u
def FX7_findWay_106_b60 (k60 : Int32 → Int32 → Int32 → Int32 → Mem → Option (Int32 × Mem)) (l2 l3 l4 l5 : Int32) (u : Mem) : Option (Int32 × Mem) :=
  (if l4 ≤ l5 then (FX7_findWay_106_b189 l2 l3 u) else ((if 12 ≤ l5 then (FX7_findWay_106_b189 l2 l3 u) else ((rdA u 109 12 l5).bind fun x3 => FX7_findWay_106_L86 k60 FU l2 l3 l4 l5 x3 0 u))))
def FX7_findWay_106_L60 : Nat → Int32 → Int32 → Int32 → Int32 → Mem → Option (Int32 × Mem)
  | 0, _, _, _, _, _ => none
  | n + 1, l2, l3, l4, l5, u => FX7_findWay_106_b60 (FX7_findWay_106_L60 n) l2 l3 l4 l5 u
def FX7_findWay_106_b51 (k8 : Int32 → Int32 → Int32 → Int32 → Int32 → Mem → Option (Int32 × Mem)) (l1 l2 l3 l4 l5 : Int32) (u : Mem) : Option (Int32 × Mem) :=
  k8 l1 l2 l3 l4 (l5 + 1) u
def FX7_findWay_106_b8 (k8 : Int32 → Int32 → Int32 → Int32 → Int32 → Mem → Option (Int32 × Mem)) (l1 l2 l3 l4 l5 : Int32) (u : Mem) : Option (Int32 × Mem) :=
  (if 12 ≤ l5 then (FX7_findWay_106_L60 FU l2 l3 l4 0 u) else ((wrA u 108 12 l5 (-1)).bind fun u2 => (FX11_holds l1 l5).bind fun x3 => (if x3 = 0 then (FX7_findWay_106_b51 k8 l1 l2 l3 l4 l5 u2) else ((if 12 ≤ l4 then (FX7_findWay_106_b51 k8 l1 l2 l3 l4 l5 u2) else ((wrA u2 109 12 l4 l5).bind fun u6 => FX7_findWay_106_b51 k8 l1 l2 l3 (l4 + 1) l5 u6))))))
def FX7_findWay_106_L8 : Nat → Int32 → Int32 → Int32 → Int32 → Int32 → Mem → Option (Int32 × Mem)
  | 0, _, _, _, _, _, _ => none
  | n + 1, l1, l2, l3, l4, l5, u => FX7_findWay_106_b8 (FX7_findWay_106_L8 n) l1 l2 l3 l4 l5 u
def FX7_findWay_106 (p1 p2 : Int32) (u : Mem) : Option (Int32 × Mem) :=
  FX7_findWay_106_L8 FU p1 p2 p1 0 0 u
def FX7_useWay_106_b4 (k4 : Int32 → Int32 → Mem → Option Mem) (l2 l3 : Int32) (u : Mem) : Option Mem :=
  (if 12 ≤ l3 then (some u) else ((if l2 < 0 then (some u) else ((if 12 ≤ l2 then (some u) else ((rdA u 108 12 l2).bind fun x4 => (if x4 < 0 then (some u) else ((if x4 < 12 then ((rdA u 107 144 ((x4 * 12) + l2)).bind fun x7 => (wrA u 107 144 ((x4 * 12) + l2) (x7 - 1)).bind fun u8 => (rdA u8 107 144 ((l2 * 12) + x4)).bind fun x9 => (wrA u8 107 144 ((l2 * 12) + x4) (x9 + 1)).bind fun u10 => k4 x4 (l3 + 1) u10) else (some u))))))))))
def FX7_useWay_106_L4 : Nat → Int32 → Int32 → Mem → Option Mem
  | 0, _, _, _ => none
  | n + 1, l2, l3, u => FX7_useWay_106_b4 (FX7_useWay_106_L4 n) l2 l3 u
def FX7_useWay_106 (p1 : Int32) (u : Mem) : Option Mem :=
  FX7_useWay_106_L4 FU p1 0 u
def FX7_fewestTellings_106_b96 (l3 : Int32) (u : Mem) : Option (Int32 × Mem) :=
  some (l3, u)
def FX7_fewestTellings_106_b66 (k66 : Int32 → Int32 → Int32 → Mem → Option (Int32 × Mem)) (l1 l2 l3 : Int32) (u : Mem) : Option (Int32 × Mem) :=
  (if 12 ≤ l3 then (FX7_fewestTellings_106_b96 l3 u) else ((FX7_knowers_106 l1 u).bind fun x2 => bnd2 (FX7_findWay_106 x2 l2 u) fun x3 u4 => (if x3 = 0 then (FX7_fewestTellings_106_b96 l3 u4) else ((FX7_useWay_106 l2 u4).bind fun u7 => k66 l1 l2 (l3 + 1) u7))))
def FX7_fewestTellings_106_L66 : Nat → Int32 → Int32 → Int32 → Mem → Option (Int32 × Mem)
  | 0, _, _, _, _ => none
  | n + 1, l1, l2, l3, u => FX7_fewestTellings_106_b66 (FX7_fewestTellings_106_L66 n) l1 l2 l3 u
def FX7_fewestTellings_106_b51 (k11 : Int32 → Int32 → Int32 → Int32 → Mem → Option (Int32 × Mem)) (l1 l2 l3 l4 t1 t2 : Int32) (u : Mem) : Option (Int32 × Mem) :=
  (wrA u 107 144 t1 t2).bind fun u1 => k11 l1 l2 l3 (l4 + 1) u1
def FX7_fewestTellings_106_b11 (k2 : Int32 → Int32 → Int32 → Mem → Option (Int32 × Mem)) (k11 : Int32 → Int32 → Int32 → Int32 → Mem → Option (Int32 × Mem)) (l1 l2 l3 l4 : Int32) (u : Mem) : Option (Int32 × Mem) :=
  (if 12 ≤ l4 then (k2 l1 l2 (l3 + 1) u) else ((rdA u 5 12 l3).bind fun x2 => (FX11_holds x2 l4).bind fun x3 => (if x3 = 0 then (FX7_fewestTellings_106_b51 k11 l1 l2 l3 l4 ((l3 * 12) + l4) 0 u) else (FX7_fewestTellings_106_b51 k11 l1 l2 l3 l4 ((l3 * 12) + l4) 1 u))))
def FX7_fewestTellings_106_L11 (k2 : Int32 → Int32 → Int32 → Mem → Option (Int32 × Mem)) : Nat → Int32 → Int32 → Int32 → Int32 → Mem → Option (Int32 × Mem)
  | 0, _, _, _, _, _ => none
  | n + 1, l1, l2, l3, l4, u => FX7_fewestTellings_106_b11 k2 (FX7_fewestTellings_106_L11 k2 n) l1 l2 l3 l4 u
def FX7_fewestTellings_106_b2 (k2 : Int32 → Int32 → Int32 → Mem → Option (Int32 × Mem)) (l1 l2 l3 : Int32) (u : Mem) : Option (Int32 × Mem) :=
  (if 12 ≤ l3 then (FX7_fewestTellings_106_L66 FU l1 l2 0 u) else (FX7_fewestTellings_106_L11 k2 FU l1 l2 l3 0 u))
def FX7_fewestTellings_106_L2 : Nat → Int32 → Int32 → Int32 → Mem → Option (Int32 × Mem)
  | 0, _, _, _, _ => none
  | n + 1, l1, l2, l3, u => FX7_fewestTellings_106_b2 (FX7_fewestTellings_106_L2 n) l1 l2 l3 u
def FX7_fewestTellings_106 (p1 p2 : Int32) (u : Mem) : Option (Int32 × Mem) :=
  FX7_fewestTellings_106_L2 FU p1 p2 0 u
def FX11_knees_0_b35 (l1 l2 t0 : Int32) (u : Mem) : Option (Int32 × Mem) :=
  (if t0 = 0 then (some ((-1), u)) else (bnd2 (FX7_fewestTellings_106 l1 l2 u) fun x2 u3 => some (x2, u3)))
def FX11_knees_0 (p1 p2 : Int32) (u : Mem) : Option (Int32 × Mem) :=
  (FX11_isFact p1).bind fun x1 => (if x1 = 0 then (FX11_knees_0_b35 p1 p2 0 u) else ((FX9_hasMan_1 p2 u).bind fun x3 => (if x3 = 0 then (FX11_knees_0_b35 p1 p2 0 u) else ((FX0_knows_23 p2 p1 u).bind fun x5 => (if x5 = 0 then (FX11_knees_0_b35 p1 p2 1 u) else (FX11_knees_0_b35 p1 p2 0 u))))))
def FX12_knees_146_b153 (k51 : Int32 → Int32 → Int32 → Int32 → Mem → Option Int32) (l2 l3 l4 l5 : Int32) (u : Mem) : Option Int32 :=
  k51 l2 l3 l4 (l5 + 1) u
def FX12_knees_146_b135 (k92 : Int32 → Int32 → Int32 → Int32 → Int32 → Int32 → Mem → Option Int32) (l2 l3 l4 l5 l7 t0 t1 : Int32) (u : Mem) : Option Int32 :=
  k92 l2 l3 l4 l5 (t0 + t1) (l7 + 1) u
def FX12_knees_146_b92 (k51 : Int32 → Int32 → Int32 → Int32 → Mem → Option Int32) (k92 : Int32 → Int32 → Int32 → Int32 → Int32 → Int32 → Mem → Option Int32) (l2 l3 l4 l5 l6 l7 : Int32) (u : Mem) : Option Int32 :=
  (if (u 147 78) ≤ l7 then ((FX12_lesser l4 l6).bind fun x2 => FX12_knees_146_b153 k51 l2 l3 x2 l5 u) else ((if ((l5 >>> (l7 &&& 31)) &&& 1) = 1 then ((FX12_toldBy_146 l7 u).bind fun x4 => (FX12_count (x4 &&& (l5 ^^^ (-1)))).bind fun x5 => FX12_knees_146_b135 k92 l2 l3 l4 l5 l7 l6 x5 u) else (FX12_knees_146_b135 k92 l2 l3 l4 l5 l7 l6 0 u))))
def FX12_knees_146_L92 (k51 : Int32 → Int32 → Int32 → Int32 → Mem → Option Int32) : Nat → Int32 → Int32 → Int32 → Int32 → Int32 → Int32 → Mem → Option Int32
  | 0, _, _, _, _, _, _, _ => none
  | n + 1, l2, l3, l4, l5, l6, l7, u => FX12_knees_146_b92 k51 (FX12_knees_146_L92 k51 n) l2 l3 l4 l5 l6 l7 u
def FX12_knees_146_b51 (k51 : Int32 → Int32 → Int32 → Int32 → Mem → Option Int32) (l2 l3 l4 l5 : Int32) (u : Mem) : Option Int32 :=
  (if ((1 : Int32) <<< ((u 147 78) &&& 31)) ≤ l5 then (some l4) else ((if (l5 &&& l3) = l3 then ((if ((l5 >>> (l2 &&& 31)) &&& 1) = 1 then (FX12_knees_146_b153 k51 l2 l3 l4 l5 u) else (FX12_knees_146_L92 k51 FU l2 l3 l4 l5 0 0 u))) else (FX12_knees_146_b153 k51 l2 l3 l4 l5 u))))
def FX12_knees_146_L51 : Nat → Int32 → Int32 → Int32 → Int32 → Mem → Option Int32
  | 0, _, _, _, _, _ => none
  | n + 1, l2, l3, l4, l5, u => FX12_knees_146_b51 (FX12_knees_146_L51 n) l2 l3 l4 l5 u
def FX12_knees_146 (p1 p2 : Int32) (u : Mem) : Option Int32 :=
  (FX12_isIn p1 0 7).bind fun x1 => (if x1 = 0 then (some (-1)) else ((FX12_isMan_146 p2 u).bind fun x3 => (if x3 = 0 then (some (-1)) else ((rdA u 147 1786 (16 + p2)).bind fun x5 => (if ((x5 >>> (p1 &&& 31)) &&& 1) = 1 then (some (-1)) else ((FX12_knowers_146 p1 u).bind fun x7 => FX12_knees_146_L51 FU p2 x7 1000000 0 u))))))
def FX7_turned_b29 (k4 : Int32 → Int32 → Int32 → Int32 → Option Int32) (l0 l1 l3 t0 t1 : Int32) : Option Int32 :=
  k4 l0 l1 (t0 ||| t1) (l3 + 1)
def FX7_turned_b4 (k4 : Int32 → Int32 → Int32 → Int32 → Option Int32) (l0 l1 l2 l3 : Int32) : Option Int32 :=
  (if l1 ≤ l3 then (some l2) else ((FX11_holds l0 l3).bind fun x2 => (if x2 = 0 then (FX7_turned_b29 k4 l0 l1 l3 l2 0) else (FX7_turned_b29 k4 l0 l1 l3 l2 ((1 : Int32) <<< (((l1 - 1) - l3) &&& 31))))))
def FX7_turned_L4 : Nat → Int32 → Int32 → Int32 → Int32 → Option Int32
  | 0, _, _, _, _ => none
  | n + 1, l0, l1, l2, l3 => FX7_turned_b4 (FX7_turned_L4 n) l0 l1 l2 l3
def FX7_turned (p0 p1 : Int32) : Option Int32 :=
  FX7_turned_L4 FU p0 p1 0 0
def FX7_breathBehind_106_b92 (l5 : Int32) (u : Mem) : Option Int32 :=
  (if 0 ≤ l5 then (some l5) else (some (-1)))
def FX7_breathBehind_106_b86 (k19 : Int32 → Int32 → Int32 → Int32 → Int32 → Mem → Option Int32) (l1 l4 l5 l6 l7 : Int32) (u : Mem) : Option Int32 :=
  k19 l1 l4 l5 l6 (l7 + (-1)) u
def FX7_breathBehind_106_b19 (k19 : Int32 → Int32 → Int32 → Int32 → Int32 → Mem → Option Int32) (l1 l4 l5 l6 l7 : Int32) (u : Mem) : Option Int32 :=
  (if l7 < 0 then (FX7_breathBehind_106_b92 l5 u) else ((if l5 < 0 then (FX7_breathBehind_106_b92 l5 u) else ((FX11_holds l4 l7).bind fun x3 => (if x3 = 0 then (FX7_breathBehind_106_b86 k19 l1 l4 (if (l5 + 10) < 99 then (l5 + 10) else 99) l6 l7 u) else ((rdA u 4 12 l1).bind fun x5 => FX7_breathBehind_106_b86 k19 l1 l4 (l5 - (5 * (if x5 < l6 then x5 else l6))) (l6 - (if x5 < l6 then x5 else l6)) l7 u))))))
def FX7_breathBehind_106_L19 : Nat → Int32 → Int32 → Int32 → Int32 → Int32 → Mem → Option Int32
  | 0, _, _, _, _, _, _ => none
  | n + 1, l1, l4, l5, l6, l7, u => FX7_breathBehind_106_b19 (FX7_breathBehind_106_L19 n) l1 l4 l5 l6 l7 u
def FX7_breathBehind_106 (p1 p2 p3 p4 : Int32) (u : Mem) : Option Int32 :=
  (rdA u 24 12 p1).bind fun x1 => FX7_breathBehind_106_L19 FU p1 p4 x1 p2 (p3 - 1) u
def FX7_bestMarch_106_b124 (l6 : Int32) (u : Mem) : Option Int32 :=
  some l6
def FX7_bestMarch_106_b107 (k59 : Int32 → Int32 → Int32 → Int32 → Int32 → Int32 → Int32 → Int32 → Mem → Option Int32) (l1 l2 l3 l4 l5 l6 l7 l8 : Int32) (u : Mem) : Option Int32 :=
  k59 l1 l2 l3 l4 l5 l6 l7 (l8 + 1) u
def FX7_bestMarch_106_b90 (k59 : Int32 → Int32 → Int32 → Int32 → Int32 → Int32 → Int32 → Int32 → Mem → Option Int32) (l1 l2 l3 l4 l5 l6 l7 l8 t0 : Int32) (u : Mem) : Option Int32 :=
  (if t0 ≤ l6 then (FX7_bestMarch_106_b107 k59 l1 l2 l3 l4 l5 l6 l7 l8 u) else (FX7_bestMarch_106_b107 k59 l1 l2 l3 l4 l5 t0 l8 l8 u))
def FX7_bestMarch_106_b59 (k59 : Int32 → Int32 → Int32 → Int32 → Int32 → Int32 → Int32 → Int32 → Mem → Option Int32) (l1 l2 l3 l4 l5 l6 l7 l8 : Int32) (u : Mem) : Option Int32 :=
  (if ((1 : Int32) <<< (l3 &&& 31)) ≤ l8 then ((if l4 = 0 then (FX7_bestMarch_106_b124 l6 u) else ((if l7 = (-1) then (FX7_bestMarch_106_b124 l6 u) else ((FX7_turned l7 l3).bind fun x4 => some x4))))) else ((FJ6_bitCount_0f7a4 l8).bind fun x5 => (if x5 = l5 then ((FX7_breathBehind_106 l1 l2 l3 l8 u).bind fun x7 => FX7_bestMarch_106_b90 k59 l1 l2 l3 l4 l5 l6 l7 l8 x7 u) else (FX7_bestMarch_106_b90 k59 l1 l2 l3 l4 l5 l6 l7 l8 (-1) u))))
def FX7_bestMarch_106_L59 : Nat → Int32 → Int32 → Int32 → Int32 → Int32 → Int32 → Int32 → Int32 → Mem → Option Int32
  | 0, _, _, _, _, _, _, _, _, _ => none
  | n + 1, l1, l2, l3, l4, l5, l6, l7, l8, u => FX7_bestMarch_106_b59 (FX7_bestMarch_106_L59 n) l1 l2 l3 l4 l5 l6 l7 l8 u
def FX7_bestMarch_106 (p1 p2 p3 p4 : Int32) (u : Mem) : Option Int32 :=
  (FX9_hasMan_1 p1 u).bind fun x1 => (if x1 = 0 then (some (-1)) else ((rdA u 4 12 p1).bind fun x3 => (if 0 < x3 then ((rdA u 4 12 p1).bind fun x5 => (rdA u 4 12 p1).bind fun x6 => (dvI ((p2 + x5) - 1) x6).bind fun x7 => FX7_bestMarch_106_L59 FU p1 p2 p3 p4 x7 (-1) (-1) 0 u) else (some (-1)))))
def FX11_march_0_b37 (l1 l2 l3 l4 t0 : Int32) (u : Mem) : Option Int32 :=
  (if t0 = 0 then (some (-1)) else ((if l4 < 0 then (some (-1)) else ((if l4 ≤ 1 then ((FX7_bestMarch_106 l1 l2 l3 l4 u).bind fun x4 => some x4) else (some (-1)))))))
def FX11_march_0 (p1 p2 p3 p4 : Int32) (u : Mem) : Option Int32 :=
  (FX9_hasMan_1 p1 u).bind fun x1 => (if x1 = 0 then (FX11_march_0_b37 p1 p2 p3 p4 0 u) else ((if p2 < 0 then (FX11_march_0_b37 p1 p2 p3 p4 0 u) else ((if 16 ≤ p2 then (FX11_march_0_b37 p1 p2 p3 p4 0 u) else ((if p3 < 1 then (FX11_march_0_b37 p1 p2 p3 p4 0 u) else ((if 12 < p3 then (FX11_march_0_b37 p1 p2 p3 p4 0 u) else (FX11_march_0_b37 p1 p2 p3 p4 1 u))))))))))
def FX12_turned_b4 (k4 : Int32 → Int32 → Int32 → Int32 → Option Int32) (l0 l1 l2 l3 : Int32) : Option Int32 :=
  (if l1 ≤ l3 then (some l2) else (k4 l0 l1 (l2 ||| (((l0 >>> (((l1 - 1) - l3) &&& 31)) &&& 1) <<< (l3 &&& 31))) (l3 + 1)))
def FX12_turned_L4 : Nat → Int32 → Int32 → Int32 → Int32 → Option Int32
  | 0, _, _, _, _ => none
  | n + 1, l0, l1, l2, l3 => FX12_turned_b4 (FX12_turned_L4 n) l0 l1 l2 l3
def FX12_turned (p0 p1 : Int32) : Option Int32 :=
  FX12_turned_L4 FU p0 p1 0 0
def FX12_marched_146_b95 (k16 : Int32 → Int32 → Int32 → Int32 → Int32 → Int32 → Mem → Option Int32) (l1 l3 l4 l5 l6 l7 : Int32) (u : Mem) : Option Int32 :=
  k16 l1 l3 l4 l5 l6 (l7 + 1) u
def FX12_marched_146_b16 (k16 : Int32 → Int32 → Int32 → Int32 → Int32 → Int32 → Mem → Option Int32) (l1 l3 l4 l5 l6 l7 : Int32) (u : Mem) : Option Int32 :=
  (if l3 ≤ l7 then ((if l6 = 0 then (some l5) else (some (-1)))) else ((if ((l4 >>> (((l3 - 1) - l7) &&& 31)) &&& 1) = 0 then ((FX12_lesser 99 (l5 + 10)).bind fun x8 => FX12_marched_146_b95 k16 l1 l3 l4 x8 l6 l7 u) else ((rdA u 147 1786 (114 + l1)).bind fun x4 => (FX12_lesser l6 x4).bind fun x5 => (if x5 = 0 then (some (-1)) else ((if 0 ≤ (l5 - (5 * x5)) then (FX12_marched_146_b95 k16 l1 l3 l4 (l5 - (5 * x5)) (l6 - x5) l7 u) else (some (-1)))))))))
def FX12_marched_146_L16 : Nat → Int32 → Int32 → Int32 → Int32 → Int32 → Int32 → Mem → Option Int32
  | 0, _, _, _, _, _, _, _ => none
  | n + 1, l1, l3, l4, l5, l6, l7, u => FX12_marched_146_b16 (FX12_marched_146_L16 n) l1 l3 l4 l5 l6 l7 u
def FX12_marched_146 (p1 p2 p3 p4 : Int32) (u : Mem) : Option Int32 :=
  (rdA u 147 1786 (4 + p1)).bind fun x1 => FX12_marched_146_L16 FU p1 p3 p4 x1 p2 0 u
def FX12_march_146_b103 (l5 : Int32) (u : Mem) : Option Int32 :=
  some l5
def FX12_march_146_b86 (k49 : Int32 → Int32 → Int32 → Int32 → Int32 → Int32 → Int32 → Mem → Option Int32) (l1 l2 l3 l4 l5 l6 l7 : Int32) (u : Mem) : Option Int32 :=
  k49 l1 l2 l3 l4 l5 l6 (l7 + 1) u
def FX12_march_146_b49 (k49 : Int32 → Int32 → Int32 → Int32 → Int32 → Int32 → Int32 → Mem → Option Int32) (l1 l2 l3 l4 l5 l6 l7 : Int32) (u : Mem) : Option Int32 :=
  (if ((1 : Int32) <<< (l3 &&& 31)) ≤ l7 then ((if l5 = (-1) then (FX12_march_146_b103 l5 u) else ((if l4 = 0 then (FX12_march_146_b103 l5 u) else ((FX12_turned l6 l3).bind fun x4 => some x4))))) else ((FX12_marched_146 l1 l2 l3 l7 u).bind fun x5 => (if l5 < x5 then (FX12_march_146_b86 k49 l1 l2 l3 l4 x5 l7 l7 u) else (FX12_march_146_b86 k49 l1 l2 l3 l4 l5 l6 l7 u))))
def FX12_march_146_L49 : Nat → Int32 → Int32 → Int32 → Int32 → Int32 → Int32 → Int32 → Mem → Option Int32
  | 0, _, _, _, _, _, _, _, _ => none
  | n + 1, l1, l2, l3, l4, l5, l6, l7, u => FX12_march_146_b49 (FX12_march_146_L49 n) l1 l2 l3 l4 l5 l6 l7 u
def FX12_march_146 (p1 p2 p3 p4 : Int32) (u : Mem) : Option Int32 :=
  (FX12_isMan_146 p1 u).bind fun x1 => (if x1 = 0 then (some (-1)) else ((FX12_isIn p2 0 15).bind fun x3 => (if x3 = 0 then (some (-1)) else ((FX12_isIn p3 1 12).bind fun x5 => (if x5 = 0 then (some (-1)) else ((FX12_isIn p4 0 1).bind fun x7 => (if x7 = 0 then (some (-1)) else (FX12_march_146_L49 FU p1 p2 p3 p4 (-1) (-1) 0 u))))))))
def FX7_gather_106_b141 (k12 : Int32 → Int32 → Mem → Option Mem) (l1 l2 : Int32) (u : Mem) : Option Mem :=
  k12 l1 (l2 + 1) u
def FX7_gather_106_b87 (k12 : Int32 → Int32 → Mem → Option Mem) (l1 l2 : Int32) (u : Mem) : Option Mem :=
  (rdA u 2 12 l2).bind fun x1 => (if x1 = l1 then ((rdA u 27 12 l2).bind fun x3 => (if x3 = 0 then ((if 12 ≤ (u 106 12) then (FX7_gather_106_b141 k12 l1 l2 u) else ((wrA u 111 12 (u 106 12) l2).bind fun u6 => (some (mupd u6 106 12 ((u6 106 12) + 1))).bind fun u7 => FX7_gather_106_b141 k12 l1 l2 u7))) else (FX7_gather_106_b141 k12 l1 l2 u))) else (FX7_gather_106_b141 k12 l1 l2 u))
def FX7_gather_106_b12 (k12 : Int32 → Int32 → Mem → Option Mem) (l1 l2 : Int32) (u : Mem) : Option Mem :=
  (if 12 ≤ l2 then (some u) else ((if (u 1 0) ≤ l2 then (some u) else ((rdA u 2 12 l2).bind fun x3 => (if x3 = l1 then ((rdA u 27 12 l2).bind fun x5 => (if x5 = 1 then ((if 12 ≤ (u 106 11) then (FX7_gather_106_b87 k12 l1 l2 u) else ((wrA u 110 12 (u 106 11) l2).bind fun u8 => (some (mupd u8 106 11 ((u8 106 11) + 1))).bind fun u9 => FX7_gather_106_b141 k12 l1 l2 u9))) else (FX7_gather_106_b87 k12 l1 l2 u))) else (FX7_gather_106_b87 k12 l1 l2 u))))))
def FX7_gather_106_L12 : Nat → Int32 → Int32 → Mem → Option Mem
  | 0, _, _, _ => none
  | n + 1, l1, l2, u => FX7_gather_106_b12 (FX7_gather_106_L12 n) l1 l2 u
def FX7_gather_106 (p1 : Int32) (u : Mem) : Option Mem :=
  (some (mupd u 106 11 0)).bind fun u1 => (some (mupd u1 106 12 0)).bind fun u2 => FX7_gather_106_L12 FU p1 0 u2
def FX7_way_106 (p1 p2 : Int32) (u : Mem) : Option Int32 :=
  (if (u 106 11) ≤ p1 then (some 0) else ((if ((p1 <<< ((u 106 12) &&& 31)) + p2) < 0 then (some 0) else ((if ((p1 <<< ((u 106 12) &&& 31)) + p2) < 4096 then ((rdA u 113 4096 ((p1 <<< ((u 106 12) &&& 31)) + p2)).bind fun x4 => some x4) else (some 0))))))
def FX9_ageOf_1 (p1 : Int32) (u : Mem) : Option Int32 :=
  (FX9_hasMan_1 p1 u).bind fun x1 => (if x1 = 0 then (some (-1)) else ((rdA u 3 12 p1).bind fun x3 => some x3))
def FX7_worth_106 (p1 p2 : Int32) (u : Mem) : Option Int32 :=
  (if p1 < 0 then (some 0) else ((if (u 106 11) ≤ p1 then (some 0) else ((if 12 ≤ p1 then (some 0) else ((if p2 < 0 then (some 0) else ((if (u 106 12) ≤ p2 then (some 0) else ((if p2 < 12 then ((rdA u 111 12 p2).bind fun x7 => (FX9_ageOf_1 x7 u).bind fun x8 => (rdA u 110 12 p1).bind fun x9 => (FX9_ageOf_1 x9 u).bind fun x10 => (if (x8 - x10) ≤ 0 then (some 0) else (some (10000 - (x8 - x10))))) else (some 0))))))))))))
def FX7_weighWays_106_b135 (k13 : Int32 → Int32 → Mem → Option Mem) (l1 l2 : Int32) (u : Mem) : Option Mem :=
  k13 l1 (l2 + 1) u
def FX7_weighWays_106_b95 (k35 : Int32 → Int32 → Int32 → Int32 → Mem → Option Mem) (l1 l2 l4 t0 : Int32) (u : Mem) : Option Mem :=
  k35 l1 l2 t0 (l4 + 1) u
def FX7_weighWays_106_b64 (k35 : Int32 → Int32 → Int32 → Int32 → Mem → Option Mem) (l1 l2 l3 l4 t0 : Int32) (u : Mem) : Option Mem :=
  (if t0 = 0 then (FX7_weighWays_106_b95 k35 l1 l2 l4 l3 u) else ((FX7_way_106 (l1 + 1) (l2 ||| ((1 : Int32) <<< (l4 &&& 31))) u).bind fun x2 => FX7_weighWays_106_b95 k35 l1 l2 l4 (if l3 < (t0 + x2) then (t0 + x2) else l3) u))
def FX7_weighWays_106_b35 (k13 : Int32 → Int32 → Mem → Option Mem) (k35 : Int32 → Int32 → Int32 → Int32 → Mem → Option Mem) (l1 l2 l3 l4 : Int32) (u : Mem) : Option Mem :=
  (if (u 106 12) ≤ l4 then ((if ((l1 <<< ((u 106 12) &&& 31)) + l2) < 0 then (FX7_weighWays_106_b135 k13 l1 l2 u) else ((if 4096 ≤ ((l1 <<< ((u 106 12) &&& 31)) + l2) then (FX7_weighWays_106_b135 k13 l1 l2 u) else ((wrA u 113 4096 ((l1 <<< ((u 106 12) &&& 31)) + l2) l3).bind fun u4 => FX7_weighWays_106_b135 k13 l1 l2 u4))))) else ((FX11_holds l2 l4).bind fun x5 => (if x5 = 0 then ((FX7_worth_106 l1 l4 u).bind fun x7 => FX7_weighWays_106_b64 k35 l1 l2 l3 l4 x7 u) else (FX7_weighWays_106_b64 k35 l1 l2 l3 l4 0 u))))
def FX7_weighWays_106_L35 (k13 : Int32 → Int32 → Mem → Option Mem) : Nat → Int32 → Int32 → Int32 → Int32 → Mem → Option Mem
  | 0, _, _, _, _, _ => none
  | n + 1, l1, l2, l3, l4, u => FX7_weighWays_106_b35 k13 (FX7_weighWays_106_L35 k13 n) l1 l2 l3 l4 u
def FX7_weighWays_106_b13 (k7 : Int32 → Mem → Option Mem) (k13 : Int32 → Int32 → Mem → Option Mem) (l1 l2 : Int32) (u : Mem) : Option Mem :=
  (if ((1 : Int32) <<< ((u 106 12) &&& 31)) ≤ l2 then (k7 (l1 + (-1)) u) else ((FX7_way_106 (l1 + 1) l2 u).bind fun x2 => FX7_weighWays_106_L35 k13 FU l1 l2 x2 0 u))
def FX7_weighWays_106_L13 (k7 : Int32 → Mem → Option Mem) : Nat → Int32 → Int32 → Mem → Option Mem
  | 0, _, _, _ => none
  | n + 1, l1, l2, u => FX7_weighWays_106_b13 k7 (FX7_weighWays_106_L13 k7 n) l1 l2 u
def FX7_weighWays_106_b7 (k7 : Int32 → Mem → Option Mem) (l1 : Int32) (u : Mem) : Option Mem :=
  (if l1 < 0 then (some u) else (FX7_weighWays_106_L13 k7 FU l1 0 u))
def FX7_weighWays_106_L7 : Nat → Int32 → Mem → Option Mem
  | 0, _, _ => none
  | n + 1, l1, u => FX7_weighWays_106_b7 (FX7_weighWays_106_L7 n) l1 u
def FX7_weighWays_106 (u : Mem) : Option Mem :=
  FX7_weighWays_106_L7 FU ((u 106 11) - 1) u
def FJ7_fill_53178_112_b5 (k5 : Int32 → Int32 → Int32 → Mem → Option Mem) (l1 l2 l3 : Int32) (u : Mem) : Option Mem :=
  (if l3 ≤ l2 then (some u) else ((wrA u 112 12 l2 l1).bind fun u2 => k5 l1 (l2 + 1) l3 u2))
def FJ7_fill_53178_112_L5 : Nat → Int32 → Int32 → Int32 → Mem → Option Mem
  | 0, _, _, _, _ => none
  | n + 1, l1, l2, l3, u => FJ7_fill_53178_112_b5 (FJ7_fill_53178_112_L5 n) l1 l2 l3 u
def FJ7_fill_53178_112 (p1 : Int32) (u : Mem) : Option Mem :=
  FJ7_fill_53178_112_L5 FU p1 0 12 u
def FX7_goerFor_106_b2 (k2 : Int32 → Int32 → Mem → Option Int32) (l1 l2 : Int32) (u : Mem) : Option Int32 :=
  (if (u 106 11) ≤ l2 then (some (-1)) else ((if 12 ≤ l2 then (some (-1)) else ((rdA u 110 12 l2).bind fun x3 => (if x3 = l1 then ((rdA u 112 12 l2).bind fun x5 => some x5) else (k2 l1 (l2 + 1) u))))))
def FX7_goerFor_106_L2 : Nat → Int32 → Int32 → Mem → Option Int32
  | 0, _, _, _ => none
  | n + 1, l1, l2, u => FX7_goerFor_106_b2 (FX7_goerFor_106_L2 n) l1 l2 u
def FX7_goerFor_106 (p1 : Int32) (u : Mem) : Option Int32 :=
  FX7_goerFor_106_L2 FU p1 0 u
def FX7_chooseGoers_106_b158 (l1 l3 l4 : Int32) (u : Mem) : Option (Int32 × Mem) :=
  (if l1 = 0 then (some (l3, u)) else ((if l1 = 1 then (some (l4, u)) else ((FX7_goerFor_106 (l1 - 10) u).bind fun x3 => some (x3, u)))))
def FX7_chooseGoers_106_b152 (k18 : Int32 → Int32 → Int32 → Int32 → Int32 → Mem → Option (Int32 × Mem)) (l1 l2 l3 l4 l5 : Int32) (u : Mem) : Option (Int32 × Mem) :=
  k18 l1 l2 l3 l4 (l5 + 1) u
def FX7_chooseGoers_106_b146 (k37 : Int32 → Int32 → Int32 → Int32 → Int32 → Int32 → Mem → Option (Int32 × Mem)) (l1 l2 l3 l4 l5 l6 : Int32) (u : Mem) : Option (Int32 × Mem) :=
  k37 l1 l2 l3 l4 l5 (l6 + 1) u
def FX7_chooseGoers_106_b74 (k18 : Int32 → Int32 → Int32 → Int32 → Int32 → Mem → Option (Int32 × Mem)) (k37 : Int32 → Int32 → Int32 → Int32 → Int32 → Int32 → Mem → Option (Int32 × Mem)) (l1 l2 l3 l4 l5 l6 t0 : Int32) (u : Mem) : Option (Int32 × Mem) :=
  (if t0 = 0 then (FX7_chooseGoers_106_b146 k37 l1 l2 l3 l4 l5 l6 u) else ((FX7_way_106 (l5 + 1) (l2 ||| ((1 : Int32) <<< (l6 &&& 31))) u).bind fun x2 => (FX7_way_106 l5 l2 u).bind fun x3 => (if (t0 + x2) = x3 then ((rdA u 111 12 l6).bind fun x5 => (wrA u 112 12 l5 x5).bind fun u6 => FX7_chooseGoers_106_b152 k18 l1 (l2 ||| ((1 : Int32) <<< (l6 &&& 31))) (l3 + 1) (l4 + (10000 - t0)) l5 u6) else (FX7_chooseGoers_106_b146 k37 l1 l2 l3 l4 l5 l6 u))))
def FX7_chooseGoers_106_b37 (k18 : Int32 → Int32 → Int32 → Int32 → Int32 → Mem → Option (Int32 × Mem)) (k37 : Int32 → Int32 → Int32 → Int32 → Int32 → Int32 → Mem → Option (Int32 × Mem)) (l1 l2 l3 l4 l5 l6 : Int32) (u : Mem) : Option (Int32 × Mem) :=
  (if (u 106 12) ≤ l6 then (FX7_chooseGoers_106_b152 k18 l1 l2 l3 l4 l5 u) else ((if 12 ≤ l6 then (FX7_chooseGoers_106_b152 k18 l1 l2 l3 l4 l5 u) else ((FX11_holds l2 l6).bind fun x3 => (if x3 = 0 then ((FX7_worth_106 l5 l6 u).bind fun x5 => FX7_chooseGoers_106_b74 k18 k37 l1 l2 l3 l4 l5 l6 x5 u) else (FX7_chooseGoers_106_b74 k18 k37 l1 l2 l3 l4 l5 l6 0 u))))))
def FX7_chooseGoers_106_L37 (k18 : Int32 → Int32 → Int32 → Int32 → Int32 → Mem → Option (Int32 × Mem)) : Nat → Int32 → Int32 → Int32 → Int32 → Int32 → Int32 → Mem → Option (Int32 × Mem)
  | 0, _, _, _, _, _, _, _ => none
  | n + 1, l1, l2, l3, l4, l5, l6, u => FX7_chooseGoers_106_b37 k18 (FX7_chooseGoers_106_L37 k18 n) l1 l2 l3 l4 l5 l6 u
def FX7_chooseGoers_106_b18 (k18 : Int32 → Int32 → Int32 → Int32 → Int32 → Mem → Option (Int32 × Mem)) (l1 l2 l3 l4 l5 : Int32) (u : Mem) : Option (Int32 × Mem) :=
  (if (u 106 11) ≤ l5 then (FX7_chooseGoers_106_b158 l1 l3 l4 u) else ((if 12 ≤ l5 then (FX7_chooseGoers_106_b158 l1 l3 l4 u) else (FX7_chooseGoers_106_L37 k18 FU l1 l2 l3 l4 l5 0 u))))
def FX7_chooseGoers_106_L18 : Nat → Int32 → Int32 → Int32 → Int32 → Int32 → Mem → Option (Int32 × Mem)
  | 0, _, _, _, _, _, _ => none
  | n + 1, l1, l2, l3, l4, l5, u => FX7_chooseGoers_106_b18 (FX7_chooseGoers_106_L18 n) l1 l2 l3 l4 l5 u
def FX7_chooseGoers_106 (p1 : Int32) (u : Mem) : Option (Int32 × Mem) :=
  (FJ7_fill_53178_112 (-1) u).bind fun u2 => FX7_chooseGoers_106_L18 FU p1 0 0 0 0 u2
def FX7_standIns_106 (p1 p2 : Int32) (u : Mem) : Option (Int32 × Mem) :=
  (FX7_gather_106 p1 u).bind fun u2 => (FX7_weighWays_106 u2).bind fun u4 => bnd2 (FX7_chooseGoers_106 p2 u4) fun x5 u6 => some (x5, u6)
def FX11_stands_0 (p1 p2 : Int32) (u : Mem) : Option (Int32 × Mem) :=
  (FX11_isCountry p1).bind fun x1 => (if x1 = 0 then (some ((-1), u)) else (bnd2 (FX7_standIns_106 p1 p2 u) fun x3 u4 => some (x3, u4)))
def FX12_canStand_146 (p1 p2 p3 : Int32) (u : Mem) : Option Int32 :=
  (FX12_isOf_146 p2 p1 0 u).bind fun x1 => (if x1 = 0 then (some 0) else ((rdA u 147 1786 (102 + p2)).bind fun x3 => (rdA u 147 1786 (102 + p3)).bind fun x4 => (if x3 ≤ x4 then (some 0) else (some 1))))
def FX12_standWorth_146 (p1 p2 : Int32) (u : Mem) : Option Int32 :=
  (rdA u 147 1786 (102 + p1)).bind fun x1 => (rdA u 147 1786 (102 + p2)).bind fun x2 => some ((10000 - x1) + x2)
def FX12_laysStands_146_b176 (k25 : Int32 → Int32 → Int32 → Int32 → Mem → Option Mem) (l1 l2 l3 l4 l5 : Int32) (u : Mem) : Option Mem :=
  (wrA u 158 53248 ((4096 * l3) + l4) l5).bind fun u1 => k25 l1 l2 l3 (l4 + 1) u1
def FX12_laysStands_146_b170 (k94 : Int32 → Int32 → Int32 → Int32 → Int32 → Int32 → Int32 → Mem → Option Mem) (l1 l2 l3 l4 l5 l6 l7 : Int32) (u : Mem) : Option Mem :=
  k94 l1 l2 l3 l4 l5 l6 (l7 + 1) u
def FX12_laysStands_146_b94 (k25 : Int32 → Int32 → Int32 → Int32 → Mem → Option Mem) (k94 : Int32 → Int32 → Int32 → Int32 → Int32 → Int32 → Int32 → Mem → Option Mem) (l1 l2 l3 l4 l5 l6 l7 : Int32) (u : Mem) : Option Mem :=
  (if (u 147 78) ≤ l7 then (FX12_laysStands_146_b176 k25 l1 l2 l3 l4 l5 u) else ((if l6 = 0 then (FX12_laysStands_146_b176 k25 l1 l2 l3 l4 l5 u) else ((if ((l4 >>> (l7 &&& 31)) &&& 1) = 1 then ((FX12_canStand_146 l1 l7 l3 u).bind fun x4 => (if x4 = 0 then (FX12_laysStands_146_b170 k94 l1 l2 l3 l4 l5 l6 l7 u) else ((FX12_standWorth_146 l7 l3 u).bind fun x6 => (rdA u 158 53248 ((4096 * (l3 + 1)) + (l4 &&& (((1 : Int32) <<< (l7 &&& 31)) ^^^ (-1))))).bind fun x7 => (FX12_greater l5 (x6 + x7)).bind fun x8 => FX12_laysStands_146_b170 k94 l1 l2 l3 l4 x8 l6 l7 u))) else (FX12_laysStands_146_b170 k94 l1 l2 l3 l4 l5 l6 l7 u))))))
def FX12_laysStands_146_L94 (k25 : Int32 → Int32 → Int32 → Int32 → Mem → Option Mem) : Nat → Int32 → Int32 → Int32 → Int32 → Int32 → Int32 → Int32 → Mem → Option Mem
  | 0, _, _, _, _, _, _, _, _ => none
  | n + 1, l1, l2, l3, l4, l5, l6, l7, u => FX12_laysStands_146_b94 k25 (FX12_laysStands_146_L94 k25 n) l1 l2 l3 l4 l5 l6 l7 u
def FX12_laysStands_146_b89 (k25 : Int32 → Int32 → Int32 → Int32 → Mem → Option Mem) (l1 l2 l3 l4 l5 t0 : Int32) (u : Mem) : Option Mem :=
  FX12_laysStands_146_L94 k25 FU l1 l2 l3 l4 l5 t0 0 u
def FX12_laysStands_146_b61 (k25 : Int32 → Int32 → Int32 → Int32 → Mem → Option Mem) (l1 l2 l3 l4 t0 : Int32) (u : Mem) : Option Mem :=
  (if (u 147 78) ≤ l3 then (FX12_laysStands_146_b89 k25 l1 l2 l3 l4 t0 0 u) else ((FX12_isOf_146 l3 l1 1 u).bind fun x2 => (if x2 = 0 then (FX12_laysStands_146_b89 k25 l1 l2 l3 l4 t0 0 u) else (FX12_laysStands_146_b89 k25 l1 l2 l3 l4 t0 1 u))))
def FX12_laysStands_146_b25 (k18 : Int32 → Int32 → Int32 → Mem → Option Mem) (k25 : Int32 → Int32 → Int32 → Int32 → Mem → Option Mem) (l1 l2 l3 l4 : Int32) (u : Mem) : Option Mem :=
  (if l2 ≤ l4 then (k18 l1 l2 (l3 + (-1)) u) else ((if l3 = (u 147 78) then (FX12_laysStands_146_b61 k25 l1 l2 l3 l4 0 u) else ((rdA u 158 53248 ((4096 * (l3 + 1)) + l4)).bind fun x3 => FX12_laysStands_146_b61 k25 l1 l2 l3 l4 x3 u))))
def FX12_laysStands_146_L25 (k18 : Int32 → Int32 → Int32 → Mem → Option Mem) : Nat → Int32 → Int32 → Int32 → Int32 → Mem → Option Mem
  | 0, _, _, _, _, _ => none
  | n + 1, l1, l2, l3, l4, u => FX12_laysStands_146_b25 k18 (FX12_laysStands_146_L25 k18 n) l1 l2 l3 l4 u
def FX12_laysStands_146_b18 (k18 : Int32 → Int32 → Int32 → Mem → Option Mem) (l1 l2 l3 : Int32) (u : Mem) : Option Mem :=
  (if l3 < 0 then (some u) else (FX12_laysStands_146_L25 k18 FU l1 l2 l3 0 u))
def FX12_laysStands_146_L18 : Nat → Int32 → Int32 → Int32 → Mem → Option Mem
  | 0, _, _, _, _ => none
  | n + 1, l1, l2, l3, u => FX12_laysStands_146_b18 (FX12_laysStands_146_L18 n) l1 l2 l3 u
def FX12_laysStands_146 (p1 : Int32) (u : Mem) : Option Mem :=
  FX12_laysStands_146_L18 FU p1 ((1 : Int32) <<< ((u 147 78) &&& 31)) (u 147 78) u
def FX12_standIn_146_b93 (k3 : Int32 → Int32 → Int32 → Int32 → Mem → Option Int32) (l1 l2 l3 l4 : Int32) (u : Mem) : Option Int32 :=
  k3 l1 l2 l3 (l4 + 1) u
def FX12_standIn_146_b3 (k3 : Int32 → Int32 → Int32 → Int32 → Mem → Option Int32) (l1 l2 l3 l4 : Int32) (u : Mem) : Option Int32 :=
  (if (u 147 78) ≤ l4 then (some (-1)) else ((FX12_isOf_146 l2 l1 1 u).bind fun x2 => (if x2 = 0 then (some (-1)) else ((if ((l3 >>> (l4 &&& 31)) &&& 1) = 1 then ((FX12_canStand_146 l1 l4 l2 u).bind fun x5 => (if x5 = 0 then (FX12_standIn_146_b93 k3 l1 l2 l3 l4 u) else ((FX12_standWorth_146 l4 l2 u).bind fun x7 => (rdA u 158 53248 ((4096 * (l2 + 1)) + (l3 &&& (((1 : Int32) <<< (l4 &&& 31)) ^^^ (-1))))).bind fun x8 => (rdA u 158 53248 ((4096 * l2) + l3)).bind fun x9 => (if (x7 + x8) = x9 then (some l4) else (FX12_standIn_146_b93 k3 l1 l2 l3 l4 u))))) else (FX12_standIn_146_b93 k3 l1 l2 l3 l4 u))))))
def FX12_standIn_146_L3 : Nat → Int32 → Int32 → Int32 → Int32 → Mem → Option Int32
  | 0, _, _, _, _, _ => none
  | n + 1, l1, l2, l3, l4, u => FX12_standIn_146_b3 (FX12_standIn_146_L3 n) l1 l2 l3 l4 u
def FX12_standIn_146 (p1 p2 p3 : Int32) (u : Mem) : Option Int32 :=
  FX12_standIn_146_L3 FU p1 p2 p3 0 u
def FX12_stands_146_b142 (k106 : Int32 → Int32 → Int32 → Int32 → Int32 → Mem → Option (Int32 × Mem)) (l1 l2 l6 l7 t0 t1 : Int32) (u : Mem) : Option (Int32 × Mem) :=
  k106 l1 l2 (t0 &&& t1) l6 (l7 + 1) u
def FX12_stands_146_b106 (k106 : Int32 → Int32 → Int32 → Int32 → Int32 → Mem → Option (Int32 × Mem)) (l1 l2 l3 l6 l7 : Int32) (u : Mem) : Option (Int32 × Mem) :=
  (if (l2 - 10) < l7 then (some (l6, u)) else ((FX12_standIn_146 l1 l7 l3 u).bind fun x2 => (if x2 = (-1) then (FX12_stands_146_b142 k106 l1 l2 x2 l7 l3 l3 u) else (FX12_stands_146_b142 k106 l1 l2 x2 l7 l3 (((1 : Int32) <<< (x2 &&& 31)) ^^^ (-1)) u))))
def FX12_stands_146_L106 : Nat → Int32 → Int32 → Int32 → Int32 → Int32 → Mem → Option (Int32 × Mem)
  | 0, _, _, _, _, _, _ => none
  | n + 1, l1, l2, l3, l6, l7, u => FX12_stands_146_b106 (FX12_stands_146_L106 n) l1 l2 l3 l6 l7 u
def FX12_stands_146_b37 (l1 l2 : Int32) (u : Mem) : Option (Int32 × Mem) :=
  (FX12_laysStands_146 l1 u).bind fun u2 => (rdA u2 158 53248 (((1 : Int32) <<< ((u2 147 78) &&& 31)) - 1)).bind fun x3 => (dvI ((x3 + 10000) - 1) 10000).bind fun x4 => (if 2 ≤ l2 then (FX12_stands_146_L106 FU l1 l2 (((1 : Int32) <<< ((u2 147 78) &&& 31)) - 1) (-1) 0 u2) else ((if l2 = 0 then (some (x4, u2)) else (some ((x4 * 10000) - x3, u2)))))
def FX12_stands_146 (p1 p2 : Int32) (u : Mem) : Option (Int32 × Mem) :=
  (FX12_isCountry p1).bind fun x1 => (if x1 = 0 then (some ((-1), u)) else ((FX12_isIn p2 0 1).bind fun x3 => (if x3 = 0 then ((FX12_isIn p2 10 (9 + (u 147 78))).bind fun x5 => (if x5 = 0 then (some ((-1), u)) else (FX12_stands_146_b37 p1 p2 u))) else (FX12_stands_146_b37 p1 p2 u))))
def FX8_find_19_b47 (l1 l2 l3 t0 : Int32) (u : Mem) : Option (Int32 × Mem) :=
  (if t0 = 0 then (some ((-1), u)) else ((if (u 19 3) < 0 then (some ((-1), u)) else ((if (u 19 3) < 10 then ((wrA u 20 10 (u 19 3) l1).bind fun u4 => (wrA u4 21 10 (u4 19 3) l2).bind fun u5 => (wrA u5 22 10 (u5 19 3) l3).bind fun u6 => (some (mupd u6 19 3 ((u6 19 3) + 1))).bind fun u7 => some (u7 19 3, u7)) else (some ((-1), u)))))))
def FX8_find_19 (p1 p2 p3 : Int32) (u : Mem) : Option (Int32 × Mem) :=
  (if p1 = (-1) then ((some (mupd u 19 3 0)).bind fun u8 => some (0, u8)) else ((if p1 < 0 then (FX8_find_19_b47 p1 p2 p3 0 u) else ((if 30 < p1 then (FX8_find_19_b47 p1 p2 p3 0 u) else ((if p2 < 0 then (FX8_find_19_b47 p1 p2 p3 0 u) else ((if 16 ≤ p2 then (FX8_find_19_b47 p1 p2 p3 0 u) else ((if p3 < 0 then (FX8_find_19_b47 p1 p2 p3 0 u) else ((if 9 < p3 then (FX8_find_19_b47 p1 p2 p3 0 u) else (FX8_find_19_b47 p1 p2 p3 1 u))))))))))))))
def FX11_slipper_0 (p1 p2 p3 : Int32) (u : Mem) : Option (Int32 × Mem) :=
  bnd2 (FX8_find_19 p1 p2 p3 u) fun x1 u2 => some (x1, u2)
def FX12_slipper_146 (p1 p2 p3 : Int32) (u : Mem) : Option (Int32 × Mem) :=
  (if p1 = (-1) then ((some (mupd u 147 88 0)).bind fun u13 => some (0, u13)) else ((FX12_isIn p1 0 30).bind fun x2 => (if x2 = 0 then (some ((-1), u)) else ((FX12_isIn p2 0 15).bind fun x4 => (if x4 = 0 then (some ((-1), u)) else ((FX12_isIn p3 0 9).bind fun x6 => (if x6 = 0 then (some ((-1), u)) else ((if (u 147 88) = 10 then (some ((-1), u)) else ((wrA u 147 1786 (270 + (3 * (u 147 88))) p1).bind fun u9 => (wrA u9 147 1786 ((270 + (3 * (u 147 88))) + 1) p2).bind fun u10 => (wrA u10 147 1786 ((270 + (3 * (u 147 88))) + 2) p3).bind fun u11 => (some (mupd u11 147 88 ((u11 147 88) + 1))).bind fun u12 => some (u12 147 88, u12)))))))))))
def FX8_couldBeOf_19_b54 (k2 : Int32 → Int32 → Mem → Option Int32) (l1 l2 : Int32) (u : Mem) : Option Int32 :=
  k2 l1 (l2 + 1) u
def FX8_couldBeOf_19_b2 (k2 : Int32 → Int32 → Mem → Option Int32) (l1 l2 : Int32) (u : Mem) : Option Int32 :=
  (if (u 19 3) ≤ l2 then (some 1) else ((if 10 ≤ l2 then (some 1) else ((rdA u 21 10 l2).bind fun x3 => (rdA u 20 10 l2).bind fun x4 => (if (l1 * x4) < x3 then (some 0) else ((rdA u 22 10 l2).bind fun x6 => (if x6 = 0 then (FX8_couldBeOf_19_b54 k2 l1 l2 u) else ((rdA u 22 10 l2).bind fun x8 => (if x8 = l1 then (FX8_couldBeOf_19_b54 k2 l1 l2 u) else (some 0))))))))))
def FX8_couldBeOf_19_L2 : Nat → Int32 → Int32 → Mem → Option Int32
  | 0, _, _, _ => none
  | n + 1, l1, l2, u => FX8_couldBeOf_19_b2 (FX8_couldBeOf_19_L2 n) l1 l2 u
def FX8_couldBeOf_19 (p1 : Int32) (u : Mem) : Option Int32 :=
  FX8_couldBeOf_19_L2 FU p1 0 u
def FX9_couldHaveLeft_1_b50 (l1 : Int32) (u : Mem) : Option Int32 :=
  some l1
def FX9_couldHaveLeft_1_b42 (k4 : Int32 → Int32 → Mem → Option Int32) (l2 t0 t1 : Int32) (u : Mem) : Option Int32 :=
  k4 (t0 ||| t1) (l2 + 1) u
def FX9_couldHaveLeft_1_b4 (k4 : Int32 → Int32 → Mem → Option Int32) (l1 l2 : Int32) (u : Mem) : Option Int32 :=
  (if 12 ≤ l2 then (FX9_couldHaveLeft_1_b50 l1 u) else ((if (u 1 0) ≤ l2 then (FX9_couldHaveLeft_1_b50 l1 u) else ((rdA u 4 12 l2).bind fun x3 => (FX8_couldBeOf_19 x3 u).bind fun x4 => (if x4 = 0 then (FX9_couldHaveLeft_1_b42 k4 l2 l1 0 u) else (FX9_couldHaveLeft_1_b42 k4 l2 l1 ((1 : Int32) <<< (l2 &&& 31)) u))))))
def FX9_couldHaveLeft_1_L4 : Nat → Int32 → Int32 → Mem → Option Int32
  | 0, _, _, _ => none
  | n + 1, l1, l2, u => FX9_couldHaveLeft_1_b4 (FX9_couldHaveLeft_1_L4 n) l1 l2 u
def FX9_couldHaveLeft_1 (u : Mem) : Option Int32 :=
  FX9_couldHaveLeft_1_L4 FU 0 0 u
def FX11_left_0 (u : Mem) : Option Int32 :=
  (FX9_couldHaveLeft_1 u).bind fun x1 => some x1
def FX12_couldLeave_146_b81 (k2 : Int32 → Int32 → Mem → Option Int32) (l1 l2 : Int32) (u : Mem) : Option Int32 :=
  k2 l1 (l2 + 1) u
def FX12_couldLeave_146_b2 (k2 : Int32 → Int32 → Mem → Option Int32) (l1 l2 : Int32) (u : Mem) : Option Int32 :=
  (if (u 147 88) ≤ l2 then (some 1) else ((rdA u 147 1786 ((270 + (3 * l2)) + 1)).bind fun x2 => (rdA u 147 1786 (114 + l1)).bind fun x3 => (rdA u 147 1786 (270 + (3 * l2))).bind fun x4 => (if (x3 * x4) < x2 then (some 0) else ((rdA u 147 1786 ((270 + (3 * l2)) + 2)).bind fun x6 => (if x6 ≤ 0 then (FX12_couldLeave_146_b81 k2 l1 l2 u) else ((rdA u 147 1786 ((270 + (3 * l2)) + 2)).bind fun x8 => (rdA u 147 1786 (114 + l1)).bind fun x9 => (if x8 = x9 then (FX12_couldLeave_146_b81 k2 l1 l2 u) else (some 0))))))))
def FX12_couldLeave_146_L2 : Nat → Int32 → Int32 → Mem → Option Int32
  | 0, _, _, _ => none
  | n + 1, l1, l2, u => FX12_couldLeave_146_b2 (FX12_couldLeave_146_L2 n) l1 l2 u
def FX12_couldLeave_146 (p1 : Int32) (u : Mem) : Option Int32 :=
  FX12_couldLeave_146_L2 FU p1 0 u
def FX12_left_146_b31 (k4 : Int32 → Int32 → Mem → Option Int32) (l2 t0 t1 : Int32) (u : Mem) : Option Int32 :=
  k4 (t0 ||| t1) (l2 + 1) u
def FX12_left_146_b4 (k4 : Int32 → Int32 → Mem → Option Int32) (l1 l2 : Int32) (u : Mem) : Option Int32 :=
  (if (u 147 78) ≤ l2 then (some l1) else ((FX12_couldLeave_146 l2 u).bind fun x2 => (if x2 = 0 then (FX12_left_146_b31 k4 l2 l1 0 u) else (FX12_left_146_b31 k4 l2 l1 ((1 : Int32) <<< (l2 &&& 31)) u))))
def FX12_left_146_L4 : Nat → Int32 → Int32 → Mem → Option Int32
  | 0, _, _, _ => none
  | n + 1, l1, l2, u => FX12_left_146_b4 (FX12_left_146_L4 n) l1 l2 u
def FX12_left_146 (u : Mem) : Option Int32 :=
  FX12_left_146_L4 FU 0 0 u
def FX7_firstAsked_106_b116 (k18 : Int32 → Int32 → Int32 → Int32 → Mem → Option Int32) (l1 l2 l3 l4 : Int32) (u : Mem) : Option Int32 :=
  k18 l1 l2 l3 (l4 + 1) u
def FX7_firstAsked_106_b90 (k18 : Int32 → Int32 → Int32 → Int32 → Mem → Option Int32) (l1 l2 l3 l4 l5 : Int32) (u : Mem) : Option Int32 :=
  (FJ6_bitCount_0f7a4 l1).bind fun x1 => (if l3 ≤ (if l5 < (x1 - l5) then (x1 - l5) else l5) then (FX7_firstAsked_106_b116 k18 l1 l2 l3 l4 u) else (FX7_firstAsked_106_b116 k18 l1 l4 (if l5 < (x1 - l5) then (x1 - l5) else l5) l4 u))
def FX7_firstAsked_106_b81 (k31 : Int32 → Int32 → Int32 → Int32 → Int32 → Int32 → Mem → Option Int32) (l1 l2 l3 l4 l6 t0 t1 : Int32) (u : Mem) : Option Int32 :=
  k31 l1 l2 l3 l4 (t0 + t1) (l6 + 1) u
def FX7_firstAsked_106_b31 (k18 : Int32 → Int32 → Int32 → Int32 → Mem → Option Int32) (k31 : Int32 → Int32 → Int32 → Int32 → Int32 → Int32 → Mem → Option Int32) (l1 l2 l3 l4 l5 l6 : Int32) (u : Mem) : Option Int32 :=
  (if 12 ≤ l6 then (FX7_firstAsked_106_b90 k18 l1 l2 l3 l4 l5 u) else ((if (u 1 0) ≤ l6 then (FX7_firstAsked_106_b90 k18 l1 l2 l3 l4 l5 u) else ((FX11_holds l1 l6).bind fun x3 => (if x3 = 0 then (FX7_firstAsked_106_b81 k31 l1 l2 l3 l4 l6 l5 0 u) else ((rdA u 4 12 l6).bind fun x5 => (if l4 < x5 then (FX7_firstAsked_106_b81 k31 l1 l2 l3 l4 l6 l5 0 u) else (FX7_firstAsked_106_b81 k31 l1 l2 l3 l4 l6 l5 1 u))))))))
def FX7_firstAsked_106_L31 (k18 : Int32 → Int32 → Int32 → Int32 → Mem → Option Int32) : Nat → Int32 → Int32 → Int32 → Int32 → Int32 → Int32 → Mem → Option Int32
  | 0, _, _, _, _, _, _, _ => none
  | n + 1, l1, l2, l3, l4, l5, l6, u => FX7_firstAsked_106_b31 k18 (FX7_firstAsked_106_L31 k18 n) l1 l2 l3 l4 l5 l6 u
def FX7_firstAsked_106_b18 (k18 : Int32 → Int32 → Int32 → Int32 → Mem → Option Int32) (l1 l2 l3 l4 : Int32) (u : Mem) : Option Int32 :=
  (if 9 < l4 then (some l2) else (FX7_firstAsked_106_L31 k18 FU l1 l2 l3 l4 0 0 u))
def FX7_firstAsked_106_L18 : Nat → Int32 → Int32 → Int32 → Int32 → Mem → Option Int32
  | 0, _, _, _, _, _ => none
  | n + 1, l1, l2, l3, l4, u => FX7_firstAsked_106_b18 (FX7_firstAsked_106_L18 n) l1 l2 l3 l4 u
def FX7_firstAsked_106 (p1 : Int32) (u : Mem) : Option Int32 :=
  (FJ6_bitCount_0f7a4 p1).bind fun x1 => (if 2 ≤ x1 then (FX7_firstAsked_106_L18 FU p1 (-1) 13 1 u) else (some (-1)))
def FX11_ask_0 (u : Mem) : Option Int32 :=
  (FX9_couldHaveLeft_1 u).bind fun x1 => (FX7_firstAsked_106 x1 u).bind fun x2 => some x2
def FX12_greaterBy_146_b47 (k5 : Int32 → Int32 → Int32 → Int32 → Mem → Option Int32) (l1 l2 l4 t0 t1 : Int32) (u : Mem) : Option Int32 :=
  k5 l1 l2 (t0 + t1) (l4 + 1) u
def FX12_greaterBy_146_b5 (k5 : Int32 → Int32 → Int32 → Int32 → Mem → Option Int32) (l1 l2 l3 l4 : Int32) (u : Mem) : Option Int32 :=
  (if (u 147 78) ≤ l4 then ((FX12_count l2).bind fun x2 => (FX12_greater l3 (x2 - l3)).bind fun x3 => some x3) else ((if ((l2 >>> (l4 &&& 31)) &&& 1) = 1 then ((rdA u 147 1786 (114 + l4)).bind fun x5 => (if l1 < x5 then (FX12_greaterBy_146_b47 k5 l1 l2 l4 l3 0 u) else (FX12_greaterBy_146_b47 k5 l1 l2 l4 l3 1 u))) else (FX12_greaterBy_146_b47 k5 l1 l2 l4 l3 0 u))))
def FX12_greaterBy_146_L5 : Nat → Int32 → Int32 → Int32 → Int32 → Mem → Option Int32
  | 0, _, _, _, _, _ => none
  | n + 1, l1, l2, l3, l4, u => FX12_greaterBy_146_b5 (FX12_greaterBy_146_L5 n) l1 l2 l3 l4 u
def FX12_greaterBy_146 (p1 p2 : Int32) (u : Mem) : Option Int32 :=
  FX12_greaterBy_146_L5 FU p1 p2 0 0 u
def FX12_ask_146_b42 (k19 : Int32 → Int32 → Int32 → Mem → Option Int32) (l1 l2 l3 : Int32) (u : Mem) : Option Int32 :=
  k19 l1 l2 (l3 + 1) u
def FX12_ask_146_b19 (k19 : Int32 → Int32 → Int32 → Mem → Option Int32) (l1 l2 l3 : Int32) (u : Mem) : Option Int32 :=
  (if 9 < l3 then (some l2) else ((FX12_greaterBy_146 l3 l1 u).bind fun x2 => (FX12_greaterBy_146 l2 l1 u).bind fun x3 => (if x3 ≤ x2 then (FX12_ask_146_b42 k19 l1 l2 l3 u) else (FX12_ask_146_b42 k19 l1 l3 l3 u))))
def FX12_ask_146_L19 : Nat → Int32 → Int32 → Int32 → Mem → Option Int32
  | 0, _, _, _, _ => none
  | n + 1, l1, l2, l3, u => FX12_ask_146_b19 (FX12_ask_146_L19 n) l1 l2 l3 u
def FX12_ask_146 (u : Mem) : Option Int32 :=
  (FX12_left_146 u).bind fun x1 => (FX12_count x1).bind fun x2 => (if 2 ≤ x2 then (FX12_ask_146_L19 FU x1 1 2 u) else (some (-1)))
def FJ7_fill_53178_114_b5 (k5 : Int32 → Int32 → Int32 → Mem → Option Mem) (l1 l2 l3 : Int32) (u : Mem) : Option Mem :=
  (if l3 ≤ l2 then (some u) else ((wrA u 114 9 l2 l1).bind fun u2 => k5 l1 (l2 + 1) l3 u2))
def FJ7_fill_53178_114_L5 : Nat → Int32 → Int32 → Int32 → Mem → Option Mem
  | 0, _, _, _, _ => none
  | n + 1, l1, l2, l3, u => FJ7_fill_53178_114_b5 (FJ7_fill_53178_114_L5 n) l1 l2 l3 u
def FJ7_fill_53178_114 (p1 : Int32) (u : Mem) : Option Mem :=
  FJ7_fill_53178_114_L5 FU p1 0 9 u
def FX7_forgotten_106_b71 (k62 : Int32 → Int32 → Int32 → Mem → Option (Int32 × Mem)) (k71 : Int32 → Int32 → Int32 → Int32 → Mem → Option (Int32 × Mem)) (l2 l3 l5 l6 : Int32) (u : Mem) : Option (Int32 × Mem) :=
  (if 8 < l6 then (k62 l2 l3 (l5 + 1) u) else ((rdA u 114 9 l6).bind fun x2 => (dvI (x2 * l3) 1000).bind fun x3 => (rdA u 114 9 l6).bind fun x4 => (wrA u 114 9 l6 (x4 - x3)).bind fun u5 => (rdA u5 114 9 (l6 - 1)).bind fun x6 => (wrA u5 114 9 (l6 - 1) (x6 + x3)).bind fun u7 => k71 l2 l3 l5 (l6 + 1) u7))
def FX7_forgotten_106_L71 (k62 : Int32 → Int32 → Int32 → Mem → Option (Int32 × Mem)) : Nat → Int32 → Int32 → Int32 → Int32 → Mem → Option (Int32 × Mem)
  | 0, _, _, _, _, _ => none
  | n + 1, l2, l3, l5, l6, u => FX7_forgotten_106_b71 k62 (FX7_forgotten_106_L71 k62 n) l2 l3 l5 l6 u
def FX7_forgotten_106_b62 (k62 : Int32 → Int32 → Int32 → Mem → Option (Int32 × Mem)) (l2 l3 l5 : Int32) (u : Mem) : Option (Int32 × Mem) :=
  (if l2 ≤ l5 then (some (u 114 0, u)) else (FX7_forgotten_106_L71 k62 FU l2 l3 l5 1 u))
def FX7_forgotten_106_L62 : Nat → Int32 → Int32 → Int32 → Mem → Option (Int32 × Mem)
  | 0, _, _, _, _ => none
  | n + 1, l2, l3, l5, u => FX7_forgotten_106_b62 (FX7_forgotten_106_L62 n) l2 l3 l5 u
def FX7_forgotten_106 (p1 p2 : Int32) (u : Mem) : Option (Int32 × Mem) :=
  (FX9_hasMan_1 p1 u).bind fun x1 => (if x1 = 0 then (some ((-1), u)) else (bnd2 (FX3_asked_32 p1 3 u) fun x3 u4 => (rdA u4 25 12 p1).bind fun x5 => (FJ6_bitCount_0f7a4 x5).bind fun x6 => (FJ7_fill_53178_114 0 u4).bind fun u8 => (wrA u8 114 9 (if x6 < 8 then x6 else 8) 1000000).bind fun u9 => FX7_forgotten_106_L62 FU p2 x3 0 u9))
def FX11_forgets_0 (p1 p2 : Int32) (u : Mem) : Option (Int32 × Mem) :=
  (FX9_hasMan_1 p1 u).bind fun x1 => (if x1 = 0 then (some ((-1), u)) else ((if p2 < 0 then (some ((-1), u)) else ((if 60 < p2 then (some ((-1), u)) else (bnd2 (FX7_forgotten_106 p1 p2 u) fun x5 u6 => some (x5, u6)))))))
def FX12_forgets_146_b85 (k76 : Int32 → Int32 → Int32 → Mem → Option (Int32 × Mem)) (k85 : Int32 → Int32 → Int32 → Int32 → Mem → Option (Int32 × Mem)) (l2 l3 l4 l5 : Int32) (u : Mem) : Option (Int32 × Mem) :=
  (if 8 < l5 then (k76 l2 l3 (l4 + 1) u) else ((rdA u 159 10 l5).bind fun x2 => (dvI x2 1000).bind fun x3 => (rdA u 159 10 l5).bind fun x4 => (rmI x4 1000).bind fun x5 => (dvI (x5 * l3) 1000).bind fun x6 => (rdA u 159 10 l5).bind fun x7 => (wrA u 159 10 l5 (x7 - ((x3 * l3) + x6))).bind fun u8 => (rdA u8 159 10 (l5 - 1)).bind fun x9 => (wrA u8 159 10 (l5 - 1) (x9 + ((x3 * l3) + x6))).bind fun u10 => k85 l2 l3 l4 (l5 + 1) u10))
def FX12_forgets_146_L85 (k76 : Int32 → Int32 → Int32 → Mem → Option (Int32 × Mem)) : Nat → Int32 → Int32 → Int32 → Int32 → Mem → Option (Int32 × Mem)
  | 0, _, _, _, _, _ => none
  | n + 1, l2, l3, l4, l5, u => FX12_forgets_146_b85 k76 (FX12_forgets_146_L85 k76 n) l2 l3 l4 l5 u
def FX12_forgets_146_b76 (k76 : Int32 → Int32 → Int32 → Mem → Option (Int32 × Mem)) (l2 l3 l4 : Int32) (u : Mem) : Option (Int32 × Mem) :=
  (if l2 ≤ l4 then (some (u 159 0, u)) else (FX12_forgets_146_L85 k76 FU l2 l3 l4 1 u))
def FX12_forgets_146_L76 : Nat → Int32 → Int32 → Int32 → Mem → Option (Int32 × Mem)
  | 0, _, _, _, _ => none
  | n + 1, l2, l3, l4, u => FX12_forgets_146_b76 (FX12_forgets_146_L76 n) l2 l3 l4 u
def FX12_forgets_146_b66 (k29 : Int32 → Int32 → Int32 → Int32 → Mem → Option (Int32 × Mem)) (l1 l2 l3 l4 t1 t2 : Int32) (u : Mem) : Option (Int32 × Mem) :=
  (wrA u 159 10 t1 t2).bind fun u1 => k29 l1 l2 l3 (l4 + 1) u1
def FX12_forgets_146_b29 (k29 : Int32 → Int32 → Int32 → Int32 → Mem → Option (Int32 × Mem)) (l1 l2 l3 l4 : Int32) (u : Mem) : Option (Int32 × Mem) :=
  (if 10 ≤ l4 then (FX12_forgets_146_L76 FU l2 l3 0 u) else ((rdA u 147 1786 (16 + l1)).bind fun x2 => (FX12_count x2).bind fun x3 => (if l4 = x3 then (FX12_forgets_146_b66 k29 l1 l2 l3 l4 l4 1000000 u) else (FX12_forgets_146_b66 k29 l1 l2 l3 l4 l4 0 u))))
def FX12_forgets_146_L29 : Nat → Int32 → Int32 → Int32 → Int32 → Mem → Option (Int32 × Mem)
  | 0, _, _, _, _, _ => none
  | n + 1, l1, l2, l3, l4, u => FX12_forgets_146_b29 (FX12_forgets_146_L29 n) l1 l2 l3 l4 u
def FX12_forgets_146 (p1 p2 : Int32) (u : Mem) : Option (Int32 × Mem) :=
  (FX12_isMan_146 p1 u).bind fun x1 => (if x1 = 0 then (some ((-1), u)) else ((FX12_isIn p2 0 60).bind fun x3 => (if x3 = 0 then (some ((-1), u)) else (bnd2 (FX12_fadeOf_146 p1 u) fun x5 u6 => FX12_forgets_146_L29 FU p1 p2 x5 0 u6))))
def FX7_lastToRemember_106_b98 (l1 : Int32) (u : Mem) : Option Int32 :=
  some l1
def FX7_lastToRemember_106_b92 (k6 : Int32 → Int32 → Int32 → Mem → Option Int32) (l1 l2 l3 : Int32) (u : Mem) : Option Int32 :=
  k6 l1 l2 (l3 + 1) u
def FX7_lastToRemember_106_b87 (k6 : Int32 → Int32 → Int32 → Mem → Option Int32) (l3 l4 : Int32) (u : Mem) : Option Int32 :=
  FX7_lastToRemember_106_b92 k6 l3 l4 l3 u
def FX7_lastToRemember_106_b68 (k6 : Int32 → Int32 → Int32 → Mem → Option Int32) (l1 l2 l3 l4 t0 : Int32) (u : Mem) : Option Int32 :=
  (if l2 < l4 then (FX7_lastToRemember_106_b87 k6 l3 l4 u) else ((if l4 = l2 then ((if t0 = 0 then (FX7_lastToRemember_106_b92 k6 l1 l2 l3 u) else (FX7_lastToRemember_106_b87 k6 l3 l4 u))) else (FX7_lastToRemember_106_b92 k6 l1 l2 l3 u))))
def FX7_lastToRemember_106_b6 (k6 : Int32 → Int32 → Int32 → Mem → Option Int32) (l1 l2 l3 : Int32) (u : Mem) : Option Int32 :=
  (if 12 ≤ l3 then (FX7_lastToRemember_106_b98 l1 u) else ((if (u 1 0) ≤ l3 then (FX7_lastToRemember_106_b98 l1 u) else ((rdA u 25 12 l3).bind fun x3 => (FJ6_bitCount_0f7a4 x3).bind fun x4 => (if l1 = (-1) then (FX7_lastToRemember_106_b68 k6 l1 l2 l3 x4 0 u) else ((rdA u 3 12 l3).bind fun x6 => (rdA u 3 12 l1).bind fun x7 => (if x6 ≤ x7 then (FX7_lastToRemember_106_b68 k6 l1 l2 l3 x4 0 u) else (FX7_lastToRemember_106_b68 k6 l1 l2 l3 x4 1 u))))))))
def FX7_lastToRemember_106_L6 : Nat → Int32 → Int32 → Int32 → Mem → Option Int32
  | 0, _, _, _, _ => none
  | n + 1, l1, l2, l3, u => FX7_lastToRemember_106_b6 (FX7_lastToRemember_106_L6 n) l1 l2 l3 u
def FX7_lastToRemember_106 (u : Mem) : Option Int32 :=
  FX7_lastToRemember_106_L6 FU (-1) (-1) 0 u
def FX11_last_0 (u : Mem) : Option Int32 :=
  (FX7_lastToRemember_106 u).bind fun x1 => some x1
def FX12_isLaster_146 (p1 p2 : Int32) (u : Mem) : Option Int32 :=
  (if p2 = (-1) then (some 1) else ((rdA u 147 1786 (16 + p1)).bind fun x2 => (FX12_count x2).bind fun x3 => (rdA u 147 1786 (16 + p2)).bind fun x4 => (FX12_count x4).bind fun x5 => (if 0 < (x3 - x5) then (some 1) else ((if (x3 - x5) = 0 then ((rdA u 147 1786 (102 + p1)).bind fun x8 => (rdA u 147 1786 (102 + p2)).bind fun x9 => (if x8 ≤ x9 then (some 0) else (some 1))) else (some 0))))))
def FX12_last_146_b26 (k4 : Int32 → Int32 → Mem → Option Int32) (l1 l2 : Int32) (u : Mem) : Option Int32 :=
  k4 l1 (l2 + 1) u
def FX12_last_146_b4 (k4 : Int32 → Int32 → Mem → Option Int32) (l1 l2 : Int32) (u : Mem) : Option Int32 :=
  (if (u 147 78) ≤ l2 then (some l1) else ((FX12_isLaster_146 l2 l1 u).bind fun x2 => (if x2 = 0 then (FX12_last_146_b26 k4 l1 l2 u) else (FX12_last_146_b26 k4 l2 l2 u))))
def FX12_last_146_L4 : Nat → Int32 → Int32 → Mem → Option Int32
  | 0, _, _, _ => none
  | n + 1, l1, l2, u => FX12_last_146_b4 (FX12_last_146_L4 n) l1 l2 u
def FX12_last_146 (u : Mem) : Option Int32 :=
  FX12_last_146_L4 FU (-1) 0 u
def FX7_endsWar_106 (p1 : Int32) (u : Mem) : Option Int32 :=
  (FX3_known_32 0 u).bind fun x1 => (FX9_weightOf_1 (x1 &&& (p1 ^^^ (-1))) u).bind fun x2 => (if x2 < (u 1 7) then (some 1) else ((FX3_known_32 1 u).bind fun x4 => (FX9_weightOf_1 (x4 &&& (p1 ^^^ (-1))) u).bind fun x5 => (if (u 1 7) ≤ x5 then (some 0) else (some 1))))
def FX7_bestTreaty_106_b116 (k26 : Int32 → Int32 → Int32 → Int32 → Int32 → Mem → Option Int32) (l1 l2 l3 l4 l5 : Int32) (u : Mem) : Option Int32 :=
  k26 l1 l2 l3 l4 (l5 + 1) u
def FX7_bestTreaty_106_b109 (k26 : Int32 → Int32 → Int32 → Int32 → Int32 → Mem → Option Int32) (l1 l2 l5 l6 : Int32) (u : Mem) : Option Int32 :=
  FX7_bestTreaty_106_b116 k26 l1 l2 l5 l6 l5 u
def FX7_bestTreaty_106_b83 (k26 : Int32 → Int32 → Int32 → Int32 → Int32 → Mem → Option Int32) (l1 l2 l3 l4 l5 l6 t0 : Int32) (u : Mem) : Option Int32 :=
  (if l3 = (-1) then (FX7_bestTreaty_106_b109 k26 l1 l2 l5 l6 u) else ((if l6 < l4 then (FX7_bestTreaty_106_b109 k26 l1 l2 l5 l6 u) else ((if l6 = l4 then ((if t0 = 0 then (FX7_bestTreaty_106_b116 k26 l1 l2 l3 l4 l5 u) else (FX7_bestTreaty_106_b109 k26 l1 l2 l5 l6 u))) else (FX7_bestTreaty_106_b116 k26 l1 l2 l3 l4 l5 u))))))
def FX7_bestTreaty_106_b26 (k26 : Int32 → Int32 → Int32 → Int32 → Int32 → Mem → Option Int32) (l1 l2 l3 l4 l5 : Int32) (u : Mem) : Option Int32 :=
  (if 256 ≤ l5 then ((if l1 = 0 then (some l4) else (some l3))) else ((if (l5 &&& (l2 ^^^ (-1))) = 0 then ((FX7_endsWar_106 l5 u).bind fun x4 => (if x4 = 0 then (FX7_bestTreaty_106_b116 k26 l1 l2 l3 l4 l5 u) else ((FX9_weightOf_1 l5 u).bind fun x6 => (FJ6_bitCount_0f7a4 l5).bind fun x7 => (FJ6_bitCount_0f7a4 l3).bind fun x8 => (if x8 ≤ x7 then (FX7_bestTreaty_106_b83 k26 l1 l2 l3 l4 l5 x6 0 u) else (FX7_bestTreaty_106_b83 k26 l1 l2 l3 l4 l5 x6 1 u))))) else (FX7_bestTreaty_106_b116 k26 l1 l2 l3 l4 l5 u))))
def FX7_bestTreaty_106_L26 : Nat → Int32 → Int32 → Int32 → Int32 → Int32 → Mem → Option Int32
  | 0, _, _, _, _, _, _ => none
  | n + 1, l1, l2, l3, l4, l5, u => FX7_bestTreaty_106_b26 (FX7_bestTreaty_106_L26 n) l1 l2 l3 l4 l5 u
def FX7_bestTreaty_106 (p1 : Int32) (u : Mem) : Option Int32 :=
  (FX3_known_32 0 u).bind fun x1 => (FX3_known_32 1 u).bind fun x2 => FX7_bestTreaty_106_L26 FU p1 (x1 ||| x2) (-1) (-1) 0 u
def FX11_treaty_0 (p1 : Int32) (u : Mem) : Option Int32 :=
  (if p1 < 0 then (some (-1)) else ((if p1 ≤ 1 then ((FX7_bestTreaty_106 p1 u).bind fun x3 => some x3) else (some (-1)))))
def FX12_makesPeace_146 (p1 : Int32) (u : Mem) : Option Int32 :=
  (FX12_knownIn_146 0 u).bind fun x1 => (FX12_weightOfSet_146 (x1 &&& (p1 ^^^ (-1))) u).bind fun x2 => (if x2 < (u 147 79) then (some 1) else ((FX12_knownIn_146 1 u).bind fun x4 => (FX12_weightOfSet_146 (x4 &&& (p1 ^^^ (-1))) u).bind fun x5 => (if (u 147 79) ≤ x5 then (some 0) else (some 1))))
def FX12_treaty_146_b121 (l3 : Int32) (u : Mem) : Option Int32 :=
  some l3
def FX12_treaty_146_b105 (k28 : Int32 → Int32 → Int32 → Int32 → Mem → Option Int32) (l1 l2 l3 l4 : Int32) (u : Mem) : Option Int32 :=
  k28 l1 l2 l3 (l4 + 1) u
def FX12_treaty_146_b102 (k28 : Int32 → Int32 → Int32 → Int32 → Mem → Option Int32) (l1 l2 l4 : Int32) (u : Mem) : Option Int32 :=
  FX12_treaty_146_b105 k28 l1 l2 l4 l4 u
def FX12_treaty_146_b78 (k28 : Int32 → Int32 → Int32 → Int32 → Mem → Option Int32) (l1 l2 l3 l4 t0 : Int32) (u : Mem) : Option Int32 :=
  (if t0 < 0 then (FX12_treaty_146_b102 k28 l1 l2 l4 u) else ((if t0 = 0 then ((FX12_count l4).bind fun x3 => (FX12_count l3).bind fun x4 => (if x4 ≤ x3 then (FX12_treaty_146_b105 k28 l1 l2 l3 l4 u) else (FX12_treaty_146_b102 k28 l1 l2 l4 u))) else (FX12_treaty_146_b105 k28 l1 l2 l3 l4 u))))
def FX12_treaty_146_b28 (k28 : Int32 → Int32 → Int32 → Int32 → Mem → Option Int32) (l1 l2 l3 l4 : Int32) (u : Mem) : Option Int32 :=
  (if 256 ≤ l4 then ((if l3 = (-1) then (FX12_treaty_146_b121 l3 u) else ((if l1 = 1 then (FX12_treaty_146_b121 l3 u) else ((FX12_weightOfSet_146 l3 u).bind fun x4 => some x4))))) else ((if (l4 &&& (l2 ^^^ (-1))) = 0 then ((FX12_makesPeace_146 l4 u).bind fun x6 => (if x6 = 0 then (FX12_treaty_146_b105 k28 l1 l2 l3 l4 u) else ((if l3 = (-1) then (FX12_treaty_146_b78 k28 l1 l2 l3 l4 (-1) u) else ((FX12_weightOfSet_146 l4 u).bind fun x9 => (FX12_weightOfSet_146 l3 u).bind fun x10 => FX12_treaty_146_b78 k28 l1 l2 l3 l4 (x9 - x10) u))))) else (FX12_treaty_146_b105 k28 l1 l2 l3 l4 u))))
def FX12_treaty_146_L28 : Nat → Int32 → Int32 → Int32 → Int32 → Mem → Option Int32
  | 0, _, _, _, _, _ => none
  | n + 1, l1, l2, l3, l4, u => FX12_treaty_146_b28 (FX12_treaty_146_L28 n) l1 l2 l3 l4 u
def FX12_treaty_146 (p1 : Int32) (u : Mem) : Option Int32 :=
  (FX12_isIn p1 0 1).bind fun x1 => (if x1 = 0 then (some (-1)) else ((FX12_knownIn_146 0 u).bind fun x3 => (FX12_knownIn_146 1 u).bind fun x4 => FX12_treaty_146_L28 FU p1 (x3 ||| x4) (-1) 0 u))
def FX12_undo_146_b21 (k21 : Int32 → Mem → Option (Int32 × Mem)) (l1 : Int32) (u : Mem) : Option (Int32 × Mem) :=
  (if 78 ≤ l1 then (some (1, u)) else ((rdA u 149 468 ((78 * (u 146 4)) + l1)).bind fun x2 => (wrA u 147 1786 l1 x2).bind fun u3 => k21 (l1 + 1) u3))
def FX12_undo_146_L21 : Nat → Int32 → Mem → Option (Int32 × Mem)
  | 0, _, _ => none
  | n + 1, l1, u => FX12_undo_146_b21 (FX12_undo_146_L21 n) l1 u
def FX12_undo_146 (u : Mem) : Option (Int32 × Mem) :=
  (if (u 146 4) = 0 then (some (0, u)) else ((some (mupd u 146 4 ((u 146 4) - 1))).bind fun u2 => FX12_undo_146_L21 FU 0 u2))
def FX4_become_8_122 (u : Mem) : Option Mem :=
  (some (cpM u 123 9 400)).bind fun u1 => (some (cpM u1 124 10 16)).bind fun u2 => (some (cpM u2 125 11 16)).bind fun u3 => (some (cpM u3 126 12 16)).bind fun u4 => (some (cpM u4 127 13 16)).bind fun u5 => (some (mupd u5 8 6 (u5 122 6))).bind fun u6 => (some (mupd u6 8 7 (u6 122 7))).bind fun u7 => some u7
def FX5_become_15_129 (u : Mem) : Option Mem :=
  (some (cpM u 130 16 16)).bind fun u1 => (some (cpM u1 131 17 16)).bind fun u2 => (some (cpM u2 132 18 16)).bind fun u3 => (some (mupd u3 15 3 (u3 129 3))).bind fun u4 => some u4
def FX8_become_19_133 (u : Mem) : Option Mem :=
  (some (cpM u 134 20 10)).bind fun u1 => (some (cpM u1 135 21 10)).bind fun u2 => (some (cpM u2 136 22 10)).bind fun u3 => (some (mupd u3 19 3 (u3 133 3))).bind fun u4 => some u4
def FX9_become_1_115 (u : Mem) : Option Mem :=
  (some (mupd u 1 0 (u 115 0))).bind fun u1 => (some (cpM u1 116 2 12)).bind fun u2 => (some (cpM u2 117 3 12)).bind fun u3 => (some (cpM u3 118 4 12)).bind fun u4 => (some (cpM u4 119 5 12)).bind fun u5 => (some (cpM u5 120 6 2)).bind fun u6 => (some (cpM u6 121 7 8)).bind fun u7 => (some (mupd u7 1 7 (u7 115 7))).bind fun u8 => (some (mupd u8 1 8 (u8 115 8))).bind fun u9 => (some (mupd u9 1 9 (u9 115 9))).bind fun u10 => (some (mupd u10 1 10 (u10 115 10))).bind fun u11 => (some (mupd u11 1 11 (u11 115 11))).bind fun u12 => (some (mupd u12 1 12 (u12 115 12))).bind fun u13 => (FX4_become_8_122 u13).bind fun u15 => (FX5_become_15_129 u15).bind fun u17 => (FX8_become_19_133 u17).bind fun u19 => some u19
def FX0_become_23_137 (u : Mem) : Option Mem :=
  (some (cpM u 138 24 12)).bind fun u1 => (some (cpM u1 139 25 12)).bind fun u2 => (some (cpM u2 140 26 12)).bind fun u3 => (some (cpM u3 141 27 12)).bind fun u4 => (some (cpM u4 142 28 12)).bind fun u5 => (some (cpM u5 143 29 12)).bind fun u6 => (some (mupd u6 23 6 (u6 137 6))).bind fun u7 => (some (mupd u7 23 7 (u7 137 7))).bind fun u8 => (some (mupd u8 23 8 (u8 137 8))).bind fun u9 => (some (mupd u9 23 9 (u9 137 9))).bind fun u10 => some u10
def FX1_become_30_144 (u : Mem) : Option Mem :=
  (some (cpM u 145 31 600)).bind fun u1 => some u1
def FX4_become_122_8 (u : Mem) : Option Mem :=
  (some (cpM u 9 123 400)).bind fun u1 => (some (cpM u1 10 124 16)).bind fun u2 => (some (cpM u2 11 125 16)).bind fun u3 => (some (cpM u3 12 126 16)).bind fun u4 => (some (cpM u4 13 127 16)).bind fun u5 => (some (mupd u5 122 6 (u5 8 6))).bind fun u6 => (some (mupd u6 122 7 (u6 8 7))).bind fun u7 => some u7
def FX5_become_129_15 (u : Mem) : Option Mem :=
  (some (cpM u 16 130 16)).bind fun u1 => (some (cpM u1 17 131 16)).bind fun u2 => (some (cpM u2 18 132 16)).bind fun u3 => (some (mupd u3 129 3 (u3 15 3))).bind fun u4 => some u4
def FX8_become_133_19 (u : Mem) : Option Mem :=
  (some (cpM u 20 134 10)).bind fun u1 => (some (cpM u1 21 135 10)).bind fun u2 => (some (cpM u2 22 136 10)).bind fun u3 => (some (mupd u3 133 3 (u3 19 3))).bind fun u4 => some u4
def FX9_become_115_1 (u : Mem) : Option Mem :=
  (some (mupd u 115 0 (u 1 0))).bind fun u1 => (some (cpM u1 2 116 12)).bind fun u2 => (some (cpM u2 3 117 12)).bind fun u3 => (some (cpM u3 4 118 12)).bind fun u4 => (some (cpM u4 5 119 12)).bind fun u5 => (some (cpM u5 6 120 2)).bind fun u6 => (some (cpM u6 7 121 8)).bind fun u7 => (some (mupd u7 115 7 (u7 1 7))).bind fun u8 => (some (mupd u8 115 8 (u8 1 8))).bind fun u9 => (some (mupd u9 115 9 (u9 1 9))).bind fun u10 => (some (mupd u10 115 10 (u10 1 10))).bind fun u11 => (some (mupd u11 115 11 (u11 1 11))).bind fun u12 => (some (mupd u12 115 12 (u12 1 12))).bind fun u13 => (FX4_become_122_8 u13).bind fun u15 => (FX5_become_129_15 u15).bind fun u17 => (FX8_become_133_19 u17).bind fun u19 => some u19
def FX0_become_137_23 (u : Mem) : Option Mem :=
  (some (cpM u 24 138 12)).bind fun u1 => (some (cpM u1 25 139 12)).bind fun u2 => (some (cpM u2 26 140 12)).bind fun u3 => (some (cpM u3 27 141 12)).bind fun u4 => (some (cpM u4 28 142 12)).bind fun u5 => (some (cpM u5 29 143 12)).bind fun u6 => (some (mupd u6 137 6 (u6 23 6))).bind fun u7 => (some (mupd u7 137 7 (u7 23 7))).bind fun u8 => (some (mupd u8 137 8 (u8 23 8))).bind fun u9 => (some (mupd u9 137 9 (u9 23 9))).bind fun u10 => some u10
def FX1_become_144_30 (u : Mem) : Option Mem :=
  (some (cpM u 31 145 600)).bind fun u1 => some u1
def FX11_image_0_b92 (u : Mem) : Option (Int32 × Mem) :=
  (bchk (u 0 11)).bind fun x1 => some (x1, u)
def FX11_image_0 (p1 : Int32) (u : Mem) : Option (Int32 × Mem) :=
  (if p1 = 0 then ((if (u 0 11) = 0 then (FX11_image_0_b92 u) else ((FX9_become_1_115 u).bind fun u4 => (FX0_become_23_137 u4).bind fun u6 => (FX1_become_30_144 u6).bind fun u8 => (FX10_forgetAll_52 u8).bind fun u10 => FX11_image_0_b92 u10))) else ((FX9_become_115_1 u).bind fun u12 => (FX0_become_137_23 u12).bind fun u14 => (FX1_become_144_30 u14).bind fun u16 => (some (mupd u16 0 11 1)).bind fun u17 => FX11_image_0_b92 u17))
def FX12_image_146_b67 (u : Mem) : Option (Int32 × Mem) :=
  (some (mupd u 146 5 1)).bind fun u1 => some (1, u1)
def FX12_image_146_b53 (k15 : Int32 → Int32 → Mem → Option (Int32 × Mem)) (l1 l2 : Int32) (u : Mem) : Option (Int32 × Mem) :=
  k15 l1 (l2 + 1) u
def FX12_image_146_b15 (k15 : Int32 → Int32 → Mem → Option (Int32 × Mem)) (l1 l2 : Int32) (u : Mem) : Option (Int32 × Mem) :=
  (if 1786 ≤ l2 then ((if l1 = 0 then ((FX12_forgetsActs_146 u).bind fun u4 => FX12_image_146_b67 u4) else (FX12_image_146_b67 u))) else ((if l1 = 0 then ((rdA u 148 1786 l2).bind fun x6 => (wrA u 147 1786 l2 x6).bind fun u7 => FX12_image_146_b53 k15 l1 l2 u7) else ((rdA u 147 1786 l2).bind fun x8 => (wrA u 148 1786 l2 x8).bind fun u9 => FX12_image_146_b53 k15 l1 l2 u9))))
def FX12_image_146_L15 : Nat → Int32 → Int32 → Mem → Option (Int32 × Mem)
  | 0, _, _, _ => none
  | n + 1, l1, l2, u => FX12_image_146_b15 (FX12_image_146_L15 n) l1 l2 u
def FX12_image_146_b13 (l1 : Int32) (u : Mem) : Option (Int32 × Mem) :=
  FX12_image_146_L15 FU l1 0 u
def FX12_image_146 (p1 : Int32) (u : Mem) : Option (Int32 × Mem) :=
  (if p1 = 0 then ((if (u 146 5) = 0 then (some (0, u)) else (FX12_image_146_b13 p1 u))) else (FX12_image_146_b13 p1 u))
def FX12_hills_146_b4 (k4 : Int32 → Int32 → Mem → Option Int32) (l1 l2 : Int32) (u : Mem) : Option Int32 :=
  (if 16 ≤ l2 then (some l1) else ((rdA u 147 1786 (126 + l2)).bind fun x2 => k4 (l1 ||| (x2 <<< (l2 &&& 31))) (l2 + 1) u))
def FX12_hills_146_L4 : Nat → Int32 → Int32 → Mem → Option Int32
  | 0, _, _, _ => none
  | n + 1, l1, l2, u => FX12_hills_146_b4 (FX12_hills_146_L4 n) l1 l2 u
def FX12_hills_146 (u : Mem) : Option Int32 :=
  FX12_hills_146_L4 FU 0 0 u
def FX12_look_146 (p1 : Int32) (u : Mem) : Option Int32 :=
  (if p1 = 0 then (some (u 147 78)) else ((if p1 = 1 then (some (u 147 0)) else ((if p1 = 2 then (some (u 147 1)) else ((if p1 = 3 then (some (u 147 79)) else ((if p1 = 4 then (some (u 147 80)) else ((if p1 = 5 then (some (u 147 81)) else ((if p1 = 6 then ((FX12_hills_146 u).bind fun x8 => some x8) else ((if p1 = 7 then (some (u 147 3)) else ((if p1 = 8 then (some (u 147 2)) else ((if p1 = 9 then (some (u 147 84)) else ((if p1 = 10 then (some (u 147 85)) else ((if p1 = 11 then (some (u 147 86)) else ((if p1 = 12 then (some (u 147 87)) else ((if p1 = 13 then (some (u 147 88)) else ((if p1 = 14 then (some (u 146 4)) else (some (-1)))))))))))))))))))))))))))))))
