/-! ===== the tables' words, the graph of cells ===== -/
abbrev Mem : Type := Nat → Nat → Int32
abbrev Rf : Type := Nat → Nat → Option Nat
abbrev Shp : Type := Nat ⊕ (Nat ⊕ (Nat × Nat))
def fkind (ci : Nat) : List Bool := match ci with
  | 0 => [true, true, true, true, true, true, false, false, false, false]
  | 1 => [true]
  | 2 => [true, true, true, true, false, false]
  | 3 => [true, true, true, false, true, false, false]
  | 4 => [true, true, true, true, true, true, false, false]
  | 5 => [true, true, true, false]
  | 6 => [true, true, true, true, true, true, true, true, false, false, false, false, false, false, false]
  | 7 => [true, true, true, true, true, true, true, true, true, true, true, false, false]
  | 8 => [true, true, true, false]
  | 9 => [false, true, true, true, true, true, true, false, false, false, false, false, false, true, true, true]
  | 10 => [true, false, false]
  | 11 => [true, true, true, true, true, true, true, true, true, true, true, false]
  | 12 => [false, false, false, false, false, false, false, false, false, false, false, false, false, true, true, true, true, true, true, true]
  | 13 => [true, false, false, false]
  | 14 => [true, false, false, false]
  | _ => []
/-- the tables' words that hold at every state: those of the good kinds -/
def TW : List Cond := lw_tbl.filter goodWord
theorem tw_of {w : Cond} (i : Nat) (h : lw_tbl[i]? = some w) (hg : goodWord w = true) : w ∈ TW := List.mem_filter.mpr ⟨List.mem_of_getElem? h, hg⟩
theorem tw_good {w : Cond} (h : w ∈ TW) : w ∈ TW ∧ ((w.onTables && w.keeps) = true ∨ ∃ ty, w = .arrayClass ty) := ⟨h, good_of_word (List.mem_filter.mp h).2⟩
def isNest (w : Cond) : Bool := match w with
  | .methodLinkNest .. => true
  | .fieldLinkNest .. => true
  | .castable .. => true
  | .privateMethod .. => true
  | _ => false
def NW : List Cond := lw_tbl.filter isNest
theorem nw_of {w : Cond} (i : Nat) (h : lw_tbl[i]? = some w) (hg : isNest w = true) : w ∈ NW := List.mem_filter.mpr ⟨List.mem_of_getElem? h, hg⟩
def strN : Nat := 23
def strTab : List (String × Nat × String × List Int32) := [("OldestDown$Reader", 127, "call step nap fade when or and not country age legs breath facts cell day rain hill", [99, 97, 108, 108, 32, 115, 116, 101, 112, 32, 110, 97, 112, 32, 102, 97, 100, 101, 32, 119, 104, 101, 110, 32, 111, 114, 32, 97, 110, 100, 32, 110, 111, 116, 32, 99, 111, 117, 110, 116, 114, 121, 32, 97, 103, 101, 32, 108, 101, 103, 115, 32, 98, 114, 101, 97, 116, 104, 32, 102, 97, 99, 116, 115, 32, 99, 101, 108, 108, 32, 100, 97, 121, 32, 114, 97, 105, 110, 32, 104, 105, 108, 108]), ("OldestDown$Reader", 129, "tells and", [116, 101, 108, 108, 115, 32, 97, 110, 100]), ("OldestDown$Reader", 131, "fact weighs", [102, 97, 99, 116, 32, 119, 101, 105, 103, 104, 115]), ("OldestDown$Reader", 133, "on rest go", [111, 110, 32, 114, 101, 115, 116, 32, 103, 111]), ("OldestDown$Reader", 166, ";+-*/()<=>", [59, 43, 45, 42, 47, 40, 41, 60, 61, 62]), ("OldestDownLaw", 63, " tells ", [32, 116, 101, 108, 108, 115, 32]), ("OldestDownLaw", 68, " and ", [32, 97, 110, 100, 32]), ("OldestDownLaw", 74, "", []), ("OldestDownLaw", 76, ";", [59]), ("OldestDownLaw", 89, "fact ", [102, 97, 99, 116, 32]), ("OldestDownLaw", 91, " weighs ", [32, 119, 101, 105, 103, 104, 115, 32]), ("OldestDownLaw", 104, "on ", [111, 110, 32]), ("OldestDownLaw", 106, " rest ", [32, 114, 101, 115, 116, 32]), ("OldestDownLaw", 108, " go ", [32, 103, 111, 32]), ("OldestDownLaw", 118, "call age-", [99, 97, 108, 108, 32, 97, 103, 101, 45]), ("OldestDownLaw", 120, "+legs when age>", [43, 108, 101, 103, 115, 32, 119, 104, 101, 110, 32, 97, 103, 101, 62]), ("OldestDownLaw", 122, " and not (facts>3 or country=1 and rain>5);call age/9-", [32, 97, 110, 100, 32, 110, 111, 116, 32, 40, 102, 97, 99, 116, 115, 62, 51, 32, 111, 114, 32, 99, 111, 117, 110, 116, 114, 121, 61, 49, 32, 97, 110, 100, 32, 114, 97, 105, 110, 62, 53, 41, 59, 99, 97, 108, 108, 32, 97, 103, 101, 47, 57, 45]), ("OldestDownLaw", 124, ";step legs/2 when hill=1 or rain>", [59, 115, 116, 101, 112, 32, 108, 101, 103, 115, 47, 50, 32, 119, 104, 101, 110, 32, 104, 105, 108, 108, 61, 49, 32, 111, 114, 32, 114, 97, 105, 110, 62]), ("OldestDownLaw", 126, ";step legs+", [59, 115, 116, 101, 112, 32, 108, 101, 103, 115, 43]), ("OldestDownLaw", 128, "-3;nap ", [45, 51, 59, 110, 97, 112, 32]), ("OldestDownLaw", 130, " when breath<", [32, 119, 104, 101, 110, 32, 98, 114, 101, 97, 116, 104, 60]), ("OldestDownLaw", 132, " and day-day/2*2=0;fade ", [32, 97, 110, 100, 32, 100, 97, 121, 45, 100, 97, 121, 47, 50, 42, 50, 61, 48, 59, 102, 97, 100, 101, 32]), ("OldestDownLaw", 134, "+cell*3;", [43, 99, 101, 108, 108, 42, 51, 59])]
def strOwn (i : Nat) : String := (strTab.getD i ("", 0, "", [])).1
def strIdx (i : Nat) : Nat := (strTab.getD i ("", 0, "", [])).2.1
def strTx (i : Nat) : String := (strTab.getD i ("", 0, "", [])).2.2.1
def strLen : List Nat := strTab.map (fun q => q.2.2.2.length)
def strByt : List (List Int32) := strTab.map (fun q => q.2.2.2)
/-- what a method needs of the tables, whoever calls it -/
def MI (y : MethodName) (b : ByteArray) (nL : Nat) (ret : Option FieldType) (n : Nat) : Prop := Cond.code y b nL ret ∈ TW ∧ Cond.initialized y.cls ∈ TW ∧ (y.cls ≠ "java/lang/invoke/MethodHandle" ∧ y.cls ≠ "java/lang/invoke/VarHandle" ∧ (parseMethodDescriptor y.desc).map (fun d => d.parameters.length) = some n) ∧ nL ≤ 40
def MV (y : MethodName) : Prop := Cond.instanceMethod y ∈ TW ∧ Cond.selects y.cls y y ∈ TW
def CI (ci : Nat) (R : String) (F : u_T) (N : Nat) (ty : Nat → FieldType) : Prop := vwCl[ci]? = some (R, F, N) ∧ (∀ w ∈ u_ws R F N, w ∈ TW) ∧ (∀ k, k < N → parseFieldDescriptor (F k).2.2.1 = some (ty k)) ∧ (∀ a, a < N → ∀ b, b < N → a ≠ b → (F a).2.1 ≠ (F b).2.1) ∧ (fkind ci).length = N
