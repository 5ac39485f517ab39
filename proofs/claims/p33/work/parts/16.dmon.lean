/-! ===== a world, and steps over it that may grow it ===== -/
abbrev Wd : Type := List Shp × Rf × Mem
def Le (w w' : Wd) : Prop := w.1.length ≤ w'.1.length ∧ ssum w.1 ≤ ssum w'.1
theorem Le.rf (w : Wd) : Le w w := ⟨Nat.le_refl _, Nat.le_refl _⟩
theorem Le.tr {a b c : Wd} (h : Le a b) (k : Le b c) : Le a c := ⟨Nat.le_trans h.1 k.1, Nat.le_trans h.2 k.2⟩
def Bd (w : Wd) : Prop := w.1.length ≤ 590000 ∧ ssum w.1 ≤ 7080000
abbrev Dm (α : Type) : Type := { f : Wd → Option (α × Wd) // ∀ w p, f w = some p → Le w p.2 ∧ (Bd w → Bd p.2) }
def dret {α : Type} (x : α) : Dm α := ⟨fun w => some (x, w), fun w p h => by cases h; exact ⟨Le.rf w, id⟩⟩
def dno {α : Type} : Dm α := ⟨fun _ => none, fun w p h => by cases h⟩
def dbind {α β : Type} (m : Dm α) (k : α → Dm β) : Dm β := ⟨fun w => (m.1 w).bind fun p => (k p.1).1 p.2, fun w p h => by
  obtain ⟨q, h1, h2⟩ := o_bind h
  exact ⟨Le.tr (m.2 w q h1).1 ((k q.1).2 q.2 p h2).1, fun z => ((k q.1).2 q.2 p h2).2 ((m.2 w q h1).2 z)⟩⟩
/-- a step that only reads -/
def dread {α : Type} (f : Wd → Option α) : Dm α := ⟨fun w => (f w).map fun x => (x, w), fun w p h => by
  obtain ⟨x, -, h2⟩ := Option.map_eq_some_iff.mp h
  rw [← h2]
  exact ⟨Le.rf w, id⟩⟩
def dlift {α : Type} (o : Option α) : Dm α := dread fun _ => o
/-- a step that writes references or numbers -/
def dput (f : Wd → Option (Rf × Mem)) : Dm Unit := ⟨fun w => (f w).map fun q => ((), (w.1, q)), fun w p h => by
  obtain ⟨x, -, h2⟩ := Option.map_eq_some_iff.mp h
  rw [← h2]
  exact ⟨Le.rf w, id⟩⟩
def rrow (r : Rf) (n : Nat) (ρ : Nat → Option Nat) : Rf := fun a => if a = n then ρ else r a
/-- a step that makes a cell -/
def dnew (f : Wd → Option (Shp × (Nat → Option Nat) × (Nat → Int32))) : Dm Nat := ⟨fun w => (f w).bind fun q => if w.1.length + 1 ≤ 590000 ∧ ssum w.1 + ssz q.1 ≤ 7080000 then some (w.1.length, (w.1 ++ [q.1], rrow w.2.1 w.1.length q.2.1, mset w.2.2 w.1.length q.2.2)) else none, fun w p h => by
  obtain ⟨q, h1, h2⟩ := o_bind h
  by_cases c : w.1.length + 1 ≤ 590000 ∧ ssum w.1 + ssz q.1 ≤ 7080000
  · rw [if_pos c] at h2
    rw [← Option.some.inj h2]
    exact ⟨⟨by simp, by simp [ssum]⟩, fun _ => ⟨by simp; omega, by have c2 := c.2; simp [ssum] at c2 ⊢; omega⟩⟩
  · rw [if_neg c] at h2
    cases h2⟩
theorem d_bind {α β : Type} {m : Dm α} {k : α → Dm β} {w : Wd} {p : β × Wd} (h : (dbind m k).1 w = some p) : ∃ x w1, m.1 w = some (x, w1) ∧ (k x).1 w1 = some p := by
  obtain ⟨q, h1, h2⟩ := o_bind h
  exact ⟨q.1, q.2, h1, h2⟩
theorem d_rd {α β : Type} {f : Wd → Option α} {k : α → Dm β} {w : Wd} {p : β × Wd} (h : (dbind (dread f) k).1 w = some p) : ∃ x, f w = some x ∧ (k x).1 w = some p := by
  obtain ⟨x, w1, h1, h2⟩ := d_bind h
  obtain ⟨y, h3, h4⟩ := Option.map_eq_some_iff.mp h1
  cases h4
  exact ⟨_, h3, h2⟩
theorem d_lf {α β : Type} {o : Option α} {k : α → Dm β} {w : Wd} {p : β × Wd} (h : (dbind (dlift o) k).1 w = some p) : ∃ x, o = some x ∧ (k x).1 w = some p := d_rd h
theorem d_pt {β : Type} {f : Wd → Option (Rf × Mem)} {k : Unit → Dm β} {w : Wd} {p : β × Wd} (h : (dbind (dput f) k).1 w = some p) : ∃ q, f w = some q ∧ (k ()).1 (w.1, q) = some p := by
  obtain ⟨x, w1, h1, h2⟩ := d_bind h
  obtain ⟨y, h3, h4⟩ := Option.map_eq_some_iff.mp h1
  cases h4
  exact ⟨_, h3, h2⟩
theorem d_le {α : Type} {m : Dm α} {w w' : Wd} {x : α} (h : m.1 w = some (x, w')) : Le w w' := (m.2 w _ h).1
theorem d_bd {α : Type} {m : Dm α} {w w' : Wd} {x : α} (h : m.1 w = some (x, w')) (z : Bd w) : Bd w' := (m.2 w _ h).2 z
theorem d_ret {α : Type} {x v : α} {w w' : Wd} (h : (dret x).1 w = some (v, w')) : v = x ∧ w' = w := by
  cases h
  exact ⟨rfl, rfl⟩
theorem dn_ {α : Type} {w : Wd} {p : α × Wd} {P : Prop} (h : (dno : Dm α).1 w = some p) : P := by cases h
theorem dit {α : Type} {c : Prop} [Decidable c] {a b : Dm α} {w : Wd} {z : Option (α × Wd)} (h : (if c then a else b).1 w = z) (k : c) : a.1 w = z := by rw [if_pos k] at h; exact h
theorem die {α : Type} {c : Prop} [Decidable c] {a b : Dm α} {w : Wd} {z : Option (α × Wd)} (h : (if c then a else b).1 w = z) (k : ¬ c) : b.1 w = z := by rw [if_neg k] at h; exact h
def dopt {α β : Type} (o : Option α) (a : Dm β) (b : α → Dm β) : Dm β := match o with
  | none => a
  | some x => b x
def ov (o : Option Nat) : Value := match o with
  | none => .null
  | some b => .ref b
def isC (a ci : Nat) (w : Wd) : Option Unit := if w.1[a]? = some (.inr (.inl ci)) then some () else none
def gfI (a ci j : Nat) (w : Wd) : Option Int32 := if w.1[a]? = some (.inr (.inl ci)) then some (w.2.2 a j) else none
def gfR (a ci j : Nat) (w : Wd) : Option Nat := if w.1[a]? = some (.inr (.inl ci)) then w.2.1 a j else none
def gfO (a ci j : Nat) (w : Wd) : Option (Option Nat) := if w.1[a]? = some (.inr (.inl ci)) then some (w.2.1 a j) else none
def isS (a : Nat) (w : Wd) : Option Unit := if 2000000 ≤ a ∧ a < 2000000 + strN then some () else isC a 13 w
def sVal (a : Nat) (w : Wd) : Option Nat := if 2000000 ≤ a ∧ a < 2000000 + strN then some (a + 1000000) else gfR a 13 0 w
def sCod (a : Nat) (w : Wd) : Option Int32 := if 2000000 ≤ a ∧ a < 2000000 + strN then some 0 else gfI a 13 1 w
def iald (a : Nat) (i : Int32) (w : Wd) : Option Int32 := match w.1[a]? with
  | some (.inl n) => rdA w.2.2 a n i
  | _ => none
def alen (a : Nat) (w : Wd) : Option Int32 := match w.1[a]? with
  | some (.inl n) => some (nI n)
  | some (.inr (.inr (κ, n))) => if κ < 4 then some (nI n) else none
  | _ => none
def aald (a : Nat) (i : Int32) (w : Wd) : Option Nat := match w.1[a]? with
  | some (.inr (.inr (1, n))) => if i < 0 ∨ n ≤ i.toNatClampNeg then none else w.2.1 a i.toNatClampNeg
  | some (.inr (.inr (2, n))) => if i < 0 ∨ n ≤ i.toNatClampNeg then none else w.2.1 a i.toNatClampNeg
  | _ => none
/-- a row of bytes: how long, its bytes -/
def bLen (a : Nat) (w : Wd) : Option Nat := if 3000000 ≤ a ∧ a < 3000000 + strN then some (strLen.getD (a - 3000000) 0) else match w.1[a]? with
  | some (.inr (.inr (3, n))) => some n
  | _ => none
def bAt (a : Nat) (w : Wd) (j : Nat) : Int32 := if 3000000 ≤ a ∧ a < 3000000 + strN then (strByt.getD (a - 3000000) []).getD j 0 else w.2.2 a j
def blen (a : Nat) (w : Wd) : Option Int32 := (bLen a w).map nI
def bald (a : Nat) (i : Int32) (w : Wd) : Option Int32 := (bLen a w).bind fun n => if i < 0 ∨ n ≤ i.toNatClampNeg then none else some (bAt a w i.toNatClampNeg)
def dgO (i : Int32) : Option Int32 := if i < 0 ∨ 100 ≤ i.toNatClampNeg then none else some (digO i.toNatClampNeg)
def dgT (i : Int32) : Option Int32 := if i < 0 ∨ 100 ≤ i.toNatClampNeg then none else some (digT i.toNatClampNeg)
def roset (r : Rf) (a k : Nat) (o : Option Nat) : Rf := fun b i => if b = a ∧ i = k then o else r b i
def pfI (a ci j : Nat) (x : Int32) (w : Wd) : Option (Rf × Mem) := if w.1[a]? = some (.inr (.inl ci)) then some (w.2.1, mupd w.2.2 a j x) else none
def pfO (a ci j : Nat) (o : Option Nat) (w : Wd) : Option (Rf × Mem) := if w.1[a]? = some (.inr (.inl ci)) then some (roset w.2.1 a j o, w.2.2) else none
def iast (a : Nat) (i x : Int32) (w : Wd) : Option (Rf × Mem) := match w.1[a]? with
  | some (.inl n) => (wrA w.2.2 a n i x).map fun u => (w.2.1, u)
  | _ => none
def aast (a : Nat) (i : Int32) (z : Nat) (w : Wd) : Option (Rf × Mem) := match w.1[a]?, w.1[z]? with
  | some (.inr (.inr (1, n))), some (.inr (.inl 12)) => if i < 0 ∨ n ≤ i.toNatClampNeg then none else some (roset w.2.1 a i.toNatClampNeg (some z), w.2.2)
  | some (.inr (.inr (2, n))), some (.inl _) => if i < 0 ∨ n ≤ i.toNatClampNeg then none else some (roset w.2.1 a i.toNatClampNeg (some z), w.2.2)
  | _, _ => none
def bast (a : Nat) (i x : Int32) (w : Wd) : Option (Rf × Mem) := match w.1[a]? with
  | some (.inr (.inr (3, n))) => if i < 0 ∨ n ≤ i.toNatClampNeg then none else some (w.2.1, mupd w.2.2 a i.toNatClampNeg x.toInt8.toInt32)
  | _ => none
/-- bytes copied -/
def bcpy (a0 : Nat) (s : Int32) (a1 : Nat) (d n : Int32) (w : Wd) : Option (Rf × Mem) := (bLen a0 w).bind fun m0 => match w.1[a1]? with
  | some (.inr (.inr (3, m1))) => if s < 0 ∨ d < 0 ∨ n < 0 ∨ m0 < s.toNatClampNeg + n.toNatClampNeg ∨ m1 < d.toNatClampNeg + n.toNatClampNeg ∨ ¬ ∀ j, j < n.toNatClampNeg → (-128 ≤ bAt a0 w (s.toNatClampNeg + j) ∧ bAt a0 w (s.toNatClampNeg + j) ≤ 127) then none else some (w.2.1, mset w.2.2 a1 (va_cpy (bAt a0 w) (w.2.2 a1) s.toNatClampNeg d.toNatClampNeg n.toNatClampNeg))
  | _ => none
def nwO (ci : Nat) (_ : Wd) : Option (Shp × (Nat → Option Nat) × (Nat → Int32)) := some (.inr (.inl ci), fun _ => none, fun _ => 0)
def nwI (i : Int32) (_ : Wd) : Option (Shp × (Nat → Option Nat) × (Nat → Int32)) := if i < 0 then none else some (.inl i.toNatClampNeg, fun _ => none, fun _ => 0)
def nwA (κ : Nat) (i : Int32) (_ : Wd) : Option (Shp × (Nat → Option Nat) × (Nat → Int32)) := if i < 0 then none else some (.inr (.inr (κ, i.toNatClampNeg)), fun _ => none, fun _ => 0)
def nwCI (a : Nat) (w : Wd) : Option (Shp × (Nat → Option Nat) × (Nat → Int32)) := match w.1[a]? with
  | some (.inl n) => some (.inl n, fun _ => none, w.2.2 a)
  | _ => none
def nwCB (a : Nat) (w : Wd) : Option (Shp × (Nat → Option Nat) × (Nat → Int32)) := match w.1[a]? with
  | some (.inr (.inr (3, n))) => if ∀ j, j < n → (-128 ≤ w.2.2 a j ∧ w.2.2 a j ≤ 127) then some (.inr (.inr (3, n)), fun _ => none, w.2.2 a) else none
  | _ => none
def OKs (w : Wd) : Prop := w.1.take 146 = SH ∧ ∀ a, a < 146 → w.2.1 a = RHO a
noncomputable def dcl {α : Type} (f : Mem → Option (α × Mem)) : Dm α := ⟨fun w => @ite _ (OKs w) (Classical.propDecidable _) ((f w.2.2).map fun p => (p.1, (w.1, w.2.1, p.2))) none, fun w p h => by
  by_cases c : OKs w
  · have h := (if_pos c).symm.trans h
    obtain ⟨x, -, h2⟩ := Option.map_eq_some_iff.mp h
    rw [← h2]
    exact ⟨Le.rf w, id⟩
  · have h := (if_neg c).symm.trans h
    cases h⟩
noncomputable def dclW (f : Mem → Option (Int32 × Mem)) : Dm Int32 := dcl f
noncomputable def dclR (f : Mem → Option Int32) : Dm Int32 := dcl fun u => (f u).map fun x => (x, u)
noncomputable def dclV (f : Mem → Option Mem) : Dm Unit := dcl fun u => (f u).map fun x => ((), x)
theorem dcl_ok {α : Type} {f : Mem → Option (α × Mem)} {w : Wd} {p : α × Wd} (h : (dcl f).1 w = some p) : OKs w ∧ ∃ u', f w.2.2 = some (p.1, u') ∧ p.2 = (w.1, w.2.1, u') := by
  unfold dcl at h
  by_cases c : OKs w
  · have h := (if_pos c).symm.trans h
    obtain ⟨x, h1, h2⟩ := Option.map_eq_some_iff.mp h
    rw [← h2]
    exact ⟨c, x.2, h1, rfl⟩
  · have h := (if_neg c).symm.trans h
    cases h
