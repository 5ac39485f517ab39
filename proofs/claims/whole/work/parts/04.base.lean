/-! ===== the tables' words, the graph of cells ===== -/
abbrev Mem : Type := Nat → Nat → Int32
abbrev Rf : Type := Nat → Nat → Option Nat
abbrev Shp : Type := Nat ⊕ (Nat ⊕ Nat)
def fkind (ci : Nat) : List Bool := match ci with
  | 0 => [true, true, true, true, true, true, false, false, false, false]
  | 1 => [true]
  | 2 => [true, true, true, true, false, false]
  | 3 => [true, true, true, false, true, false, false]
  | 4 => [true, true, true, true, true, true, false, false]
  | 5 => [true, true, true, false]
  | 6 => [true, true, true, true, true, true, true, true, false, false, false, false, false, false, false]
  | 7 => [true, true, true, true, true, true, true, true, true, true, true, false, false]
  | 8 => [true, true, true, false]
  | 9 => [false, true, true, true, true, true, true, false, false, false, false, false, false, true, true, true]
  | 10 => [true, false, false]
  | 11 => [true, true, true, true, true, true, true, true, true, true, true, false]
  | 12 => [true, true, true, true, false, false, true, true, true, true, true, true, false, false, false, false, false, false, false, false, false, false, false, false, false, false, false, false, false, false, true, true, true]
  | _ => []
/-- the tables' words that hold at every state: those of the good kinds -/
def TW : List Cond := lw_tbl.filter goodWord
theorem tw_of {w : Cond} (i : Nat) (h : lw_tbl[i]? = some w) (hg : goodWord w = true) : w ∈ TW := List.mem_filter.mpr ⟨List.mem_of_getElem? h, hg⟩
theorem tw_good {w : Cond} (h : w ∈ TW) : w ∈ TW ∧ ((w.onTables && w.keeps) = true ∨ ∃ ty, w = .arrayClass ty) := ⟨h, good_of_word (List.mem_filter.mp h).2⟩
def isNest (w : Cond) : Bool := match w with
  | .methodLinkNest .. => true
  | _ => false
def NW : List Cond := lw_tbl.filter isNest
theorem nw_of {w : Cond} (i : Nat) (h : lw_tbl[i]? = some w) (hg : isNest w = true) : w ∈ NW := List.mem_filter.mpr ⟨List.mem_of_getElem? h, hg⟩
def strN : Nat := 28
def strTab : List (String × Nat × String × List Int32) := [("OldestDown$Reader", 127, "call step nap fade when or and not country age legs breath facts cell day rain hill", [99, 97, 108, 108, 32, 115, 116, 101, 112, 32, 110, 97, 112, 32, 102, 97, 100, 101, 32, 119, 104, 101, 110, 32, 111, 114, 32, 97, 110, 100, 32, 110, 111, 116, 32, 99, 111, 117, 110, 116, 114, 121, 32, 97, 103, 101, 32, 108, 101, 103, 115, 32, 98, 114, 101, 97, 116, 104, 32, 102, 97, 99, 116, 115, 32, 99, 101, 108, 108, 32, 100, 97, 121, 32, 114, 97, 105, 110, 32, 104, 105, 108, 108]), ("OldestDown$Reader", 129, "tells and", [116, 101, 108, 108, 115, 32, 97, 110, 100]), ("OldestDown$Reader", 131, "fact weighs", [102, 97, 99, 116, 32, 119, 101, 105, 103, 104, 115]), ("OldestDown$Reader", 133, "on rest go", [111, 110, 32, 114, 101, 115, 116, 32, 103, 111]), ("OldestDown$Reader", 166, ";+-*/()<=>", [59, 43, 45, 42, 47, 40, 41, 60, 61, 62]), ("OldestDownModel", 120, "when", [119, 104, 101, 110]), ("OldestDownModel", 122, "or", [111, 114]), ("OldestDownModel", 124, "and", [97, 110, 100]), ("OldestDownModel", 126, "not", [110, 111, 116]), ("OldestDownModel", 128, "call", [99, 97, 108, 108]), ("OldestDownModel", 130, "step", [115, 116, 101, 112]), ("OldestDownModel", 132, "nap", [110, 97, 112]), ("OldestDownModel", 134, "fade", [102, 97, 100, 101]), ("OldestDownModel", 99, "country", [99, 111, 117, 110, 116, 114, 121]), ("OldestDownModel", 105, "age", [97, 103, 101]), ("OldestDownModel", 107, "legs", [108, 101, 103, 115]), ("OldestDownModel", 109, "breath", [98, 114, 101, 97, 116, 104]), ("OldestDownModel", 111, "facts", [102, 97, 99, 116, 115]), ("OldestDownModel", 112, "cell", [99, 101, 108, 108]), ("OldestDownModel", 114, "day", [100, 97, 121]), ("OldestDownModel", 116, "rain", [114, 97, 105, 110]), ("OldestDownModel", 118, "hill", [104, 105, 108, 108]), ("OldestDownModel", 139, "tells", [116, 101, 108, 108, 115]), ("OldestDownModel", 141, "fact", [102, 97, 99, 116]), ("OldestDownModel", 143, "weighs", [119, 101, 105, 103, 104, 115]), ("OldestDownModel", 145, "on", [111, 110]), ("OldestDownModel", 147, "rest", [114, 101, 115, 116]), ("OldestDownModel", 149, "go", [103, 111])]
def strOwn (i : Nat) : String := (strTab.getD i ("", 0, "", [])).1
def strIdx (i : Nat) : Nat := (strTab.getD i ("", 0, "", [])).2.1
def strTx (i : Nat) : String := (strTab.getD i ("", 0, "", [])).2.2.1
def strLen : List Nat := strTab.map (fun q => q.2.2.2.length)
def strByt : List (List Int32) := strTab.map (fun q => q.2.2.2)
/-- what a method needs of the tables, whoever calls it -/
def MI (y : MethodName) (b : ByteArray) (nL : Nat) (ret : Option FieldType) (n : Nat) : Prop := Cond.code y b nL ret ∈ TW ∧ Cond.initialized y.cls ∈ TW ∧ (y.cls ≠ "java/lang/invoke/MethodHandle" ∧ y.cls ≠ "java/lang/invoke/VarHandle" ∧ (parseMethodDescriptor y.desc).map (fun d => d.parameters.length) = some n) ∧ nL ≤ 40
def MV (y : MethodName) : Prop := Cond.instanceMethod y ∈ TW ∧ Cond.selects y.cls y y ∈ TW
def CI (ci : Nat) (R : String) (F : u_T) (N : Nat) (ty : Nat → FieldType) : Prop := vwCl[ci]? = some (R, F, N) ∧ (∀ w ∈ u_ws R F N, w ∈ TW) ∧ (∀ k, k < N → parseFieldDescriptor (F k).2.2.1 = some (ty k)) ∧ (∀ a, a < N → ∀ b, b < N → a ≠ b → (F a).2.1 ≠ (F b).2.1) ∧ (fkind ci).length = N
