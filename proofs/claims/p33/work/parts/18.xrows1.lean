/-! ===== rows of the growing world ===== -/
theorem RepC.at {G : Gt} {sh : List Shp} {r r' : Rf} {u u' : Mem} {H : Heap} (h : RepC G sh r u H) (hr : ∀ a, a < sh.length → r' a = r a) (hu : ∀ a, a < sh.length → u' a = u a) : RepC G sh r' u' H :=
  ⟨fun i s hs => by
    have hl := (List.getElem?_eq_some_iff.mp hs).1
    rw [hr i hl, hu i hl]
    exact h.1 i s hs, h.2.1, h.2.2.1, h.2.2.2⟩
theorem wm_far {G : Gt} {X : Xt} {pc : Nat} {lv : List (Nat × Value)} {st : List Value} {sh : List Shp} {r r' : Rf} {u u' : Mem} (hr : ∀ a, a < sh.length → r' a = r a) (hu : ∀ a, a < sh.length → u' a = u a) (k : WM G X pc lv st sh r' u') : WM G X pc lv st sh r u := by
  obtain ⟨p, e, R, s, m, args, below, meth, c, Q, nL', c0, n0⟩ := X
  intro H locs ls k1 n1 h1 h2 h3 h4 h5
  exact k H locs ls k1 n1 (h1.at hr hu) h2 h3 h4 h5
theorem rrow_ne (r : Rf) {n a : Nat} (ρ : Nat → Option Nat) (h : a < n) : rrow r n ρ a = r a := if_neg (Nat.ne_of_lt h)
theorem rrow_at (r : Rf) (n : Nat) (ρ : Nat → Option Nat) : rrow r n ρ n = ρ := if_pos rfl
theorem wm_new {G : Gt} {X : Xt} {pc : Nat} {lv : List (Nat × Value)} {st : List Value} {sh : List Shp} {r : Rf} {u : Mem} (ρ : Nat → Option Nat) (υ : Nat → Int32) (k : WM G X pc lv st sh (rrow r sh.length ρ) (mset u sh.length υ)) : WM G X pc lv st sh r u :=
  wm_far (fun _ h => rrow_ne r ρ h) (fun _ h => mset_ne u υ (Nat.ne_of_lt h)) k
theorem fresh0 (sh : List Shp) (r : Rf) (u : Mem) : Fresh sh (rrow r sh.length fun _ => none) (mset u sh.length fun _ => 0) :=
  ⟨fun k => by rw [rrow_at], fun k => by rw [mset_at]⟩
theorem dpt_inv {f : Wd → Option (Rf × Mem)} {w w1 : Wd} {x : Unit} (g : (dput f).1 w = some (x, w1)) : ∃ q, f w = some q ∧ w1 = (w.1, q) := by
  obtain ⟨y, h3, h4⟩ := Option.map_eq_some_iff.mp g
  cases h4
  exact ⟨_, h3, rfl⟩
theorem dnw_inv {f : Wd → Option (Shp × (Nat → Option Nat) × (Nat → Int32))} {w w1 : Wd} {a : Nat} (g : (dnew f).1 w = some (a, w1)) : ∃ q, f w = some q ∧ a = w.1.length ∧ w.1.length + 1 ≤ 590000 ∧ ssum w.1 + ssz q.1 ≤ 7080000 ∧ w1 = (w.1 ++ [q.1], rrow w.2.1 w.1.length q.2.1, mset w.2.2 w.1.length q.2.2) := by
  obtain ⟨q, h1, h2⟩ := o_bind g
  by_cases c : w.1.length + 1 ≤ 590000 ∧ ssum w.1 + ssz q.1 ≤ 7080000
  · rw [if_pos c] at h2
    cases h2
    exact ⟨q, h1, rfl, c.1, c.2, rfl⟩
  · rw [if_neg c] at h2
    cases h2
theorem isC_ok {a ci : Nat} {w : Wd} {x : Unit} (g : isC a ci w = some x) : w.1[a]? = some (.inr (.inl ci)) := by
  unfold isC at g
  by_cases c : w.1[a]? = some (.inr (.inl ci))
  · exact c
  · rw [if_neg c] at g
    cases g
theorem x_getI {G : Gt} {X : Xt} {b : ByteArray} {nL : Nat} {C : String} {T : Tt} {d : Nat} {lv : List (Nat × Value)} {st : List Value} {w : Wd} {ci a j N ix : Nat} {Rn rf : String} {F : u_T} {ty : Nat → FieldType} {x : Int32} (pc : Nat) (hX : CxOk G X b nL C T d) (hC : CI ci Rn F N ty) (g : gfI a ci j w = some x) (hf : (fkind ci)[j]? = some false) (hl : Cond.fieldLink C ix rf (F j).2.1 (F j).2.2.1 ∈ TW) (hr : (F j).1 = rf) (hd : decode b pc = .ok (.getfield ix, 3)) (k : WM G X (pc + 3) lv (.int x :: st) w.1 w.2.1 w.2.2) : WM G X pc lv (.ref a :: st) w.1 w.2.1 w.2.2 := by
  unfold gfI at g
  by_cases c : w.1[a]? = some (.inr (.inl ci))
  · rw [if_pos c] at g
    cases g
    exact w_getI pc hX hC c hf hl hr hd k
  · rw [if_neg c] at g
    cases g
theorem x_getO {G : Gt} {X : Xt} {b : ByteArray} {nL : Nat} {C : String} {T : Tt} {d : Nat} {lv : List (Nat × Value)} {st : List Value} {w : Wd} {ci a j N ix : Nat} {Rn rf : String} {F : u_T} {ty : Nat → FieldType} {o : Option Nat} (pc : Nat) (hX : CxOk G X b nL C T d) (hC : CI ci Rn F N ty) (g : gfO a ci j w = some o) (hf : (fkind ci)[j]? = some true) (hl : Cond.fieldLink C ix rf (F j).2.1 (F j).2.2.1 ∈ TW) (hr : (F j).1 = rf) (hd : decode b pc = .ok (.getfield ix, 3)) (k : WM G X (pc + 3) lv (ov o :: st) w.1 w.2.1 w.2.2) : WM G X pc lv (.ref a :: st) w.1 w.2.1 w.2.2 := by
  unfold gfO at g
  by_cases c : w.1[a]? = some (.inr (.inl ci))
  · rw [if_pos c] at g
    cases g
    exact w_getO pc hX hC c hf hl hr hd k
  · rw [if_neg c] at g
    cases g
theorem x_getR {G : Gt} {X : Xt} {b : ByteArray} {nL : Nat} {C : String} {T : Tt} {d : Nat} {lv : List (Nat × Value)} {st : List Value} {w : Wd} {ci a j N ix : Nat} {Rn rf : String} {F : u_T} {ty : Nat → FieldType} {q : Nat} (pc : Nat) (hX : CxOk G X b nL C T d) (hC : CI ci Rn F N ty) (g : gfR a ci j w = some q) (hf : (fkind ci)[j]? = some true) (hl : Cond.fieldLink C ix rf (F j).2.1 (F j).2.2.1 ∈ TW) (hr : (F j).1 = rf) (hd : decode b pc = .ok (.getfield ix, 3)) (k : WM G X (pc + 3) lv (.ref q :: st) w.1 w.2.1 w.2.2) : WM G X pc lv (.ref a :: st) w.1 w.2.1 w.2.2 := by
  unfold gfR at g
  by_cases c : w.1[a]? = some (.inr (.inl ci))
  · rw [if_pos c] at g
    refine w_getO pc hX hC c hf hl hr hd ?_
    rw [g]
    exact k
  · rw [if_neg c] at g
    cases g
theorem x_putI {G : Gt} {X : Xt} {b : ByteArray} {nL : Nat} {C : String} {T : Tt} {d : Nat} {lv : List (Nat × Value)} {st : List Value} {w : Wd} {ci a j N ix : Nat} {Rn rf : String} {F : u_T} {ty : Nat → FieldType} {x : Int32} {z : Unit} {w1 : Wd} (pc : Nat) (hX : CxOk G X b nL C T d) (hC : CI ci Rn F N ty) (g : (dput (pfI a ci j x)).1 w = some (z, w1)) (hf : (fkind ci)[j]? = some false) (hl : Cond.fieldLink C ix rf (F j).2.1 (F j).2.2.1 ∈ TW) (hr : (F j).1 = rf) (hfin : (F j).2.2.2 = false) (hnar : narrow (ty j) (.int x) = .int x) (hfit : fits (ty j) (.int x) = true) (hd : decode b pc = .ok (.putfield ix, 3)) (k : WM G X (pc + 3) lv st w1.1 w1.2.1 w1.2.2) : WM G X pc lv (.int x :: .ref a :: st) w.1 w.2.1 w.2.2 := by
  replace g := dpt_inv g
  obtain ⟨q, g, rfl⟩ := g
  unfold pfI at g
  by_cases c : w.1[a]? = some (.inr (.inl ci))
  · rw [if_pos c] at g
    cases g
    exact w_putI pc hX hC c hf hl hr hfin hnar hfit hd k
  · rw [if_neg c] at g
    cases g
theorem x_putO {G : Gt} {X : Xt} {b : ByteArray} {nL : Nat} {C : String} {T : Tt} {d : Nat} {lv : List (Nat × Value)} {st : List Value} {w : Wd} {ci a j N ix : Nat} {Rn rf : String} {F : u_T} {ty : Nat → FieldType} (o : Option Nat) {z : Unit} {w1 : Wd} (pc : Nat) (hX : CxOk G X b nL C T d) (hC : CI ci Rn F N ty) (g : (dput (pfO a ci j o)).1 w = some (z, w1)) (hf : (fkind ci)[j]? = some true) (hl : Cond.fieldLink C ix rf (F j).2.1 (F j).2.2.1 ∈ TW) (hr : (F j).1 = rf) (hfin : (F j).2.2.2 = false) (hnar : ∀ o : Option Nat, narrow (ty j) (va_rf o) = va_rf o) (hfit : ∀ o : Option Nat, fits (ty j) (va_rf o) = true) (hd : decode b pc = .ok (.putfield ix, 3)) (k : WM G X (pc + 3) lv st w1.1 w1.2.1 w1.2.2) : WM G X pc lv (ov o :: .ref a :: st) w.1 w.2.1 w.2.2 := by
  replace g := dpt_inv g
  obtain ⟨q, g, rfl⟩ := g
  unfold pfO at g
  by_cases c : w.1[a]? = some (.inr (.inl ci))
  · rw [if_pos c] at g
    cases g
    exact w_putO o pc hX hC c hf hl hr hfin hnar hfit hd k
  · rw [if_neg c] at g
    cases g
theorem x_getIN {G : Gt} {X : Xt} {b : ByteArray} {nL : Nat} {C : String} {T : Tt} {d : Nat} {lv : List (Nat × Value)} {st : List Value} {w : Wd} {ci a j N ix : Nat} {Rn rf host : String} {F : u_T} {ty : Nat → FieldType} {x : Int32} (pc : Nat) (hX : CxOk G X b nL C T d) (hC : CI ci Rn F N ty) (g : gfI a ci j w = some x) (hf : (fkind ci)[j]? = some false) (hl : Cond.fieldLinkNest C ix rf (F j).2.1 (F j).2.2.1 host ∈ NW) (hr : (F j).1 = rf) (hd : decode b pc = .ok (.getfield ix, 3)) (k : WM G X (pc + 3) lv (.int x :: st) w.1 w.2.1 w.2.2) : WM G X pc lv (.ref a :: st) w.1 w.2.1 w.2.2 := by
  unfold gfI at g
  by_cases c : w.1[a]? = some (.inr (.inl ci))
  · rw [if_pos c] at g
    cases g
    exact w_getIN pc hX hC c hf hl hr hd k
  · rw [if_neg c] at g
    cases g
theorem x_getON {G : Gt} {X : Xt} {b : ByteArray} {nL : Nat} {C : String} {T : Tt} {d : Nat} {lv : List (Nat × Value)} {st : List Value} {w : Wd} {ci a j N ix : Nat} {Rn rf host : String} {F : u_T} {ty : Nat → FieldType} {o : Option Nat} (pc : Nat) (hX : CxOk G X b nL C T d) (hC : CI ci Rn F N ty) (g : gfO a ci j w = some o) (hf : (fkind ci)[j]? = some true) (hl : Cond.fieldLinkNest C ix rf (F j).2.1 (F j).2.2.1 host ∈ NW) (hr : (F j).1 = rf) (hd : decode b pc = .ok (.getfield ix, 3)) (k : WM G X (pc + 3) lv (ov o :: st) w.1 w.2.1 w.2.2) : WM G X pc lv (.ref a :: st) w.1 w.2.1 w.2.2 := by
  unfold gfO at g
  by_cases c : w.1[a]? = some (.inr (.inl ci))
  · rw [if_pos c] at g
    cases g
    exact w_getON pc hX hC c hf hl hr hd k
  · rw [if_neg c] at g
    cases g
theorem x_getRN {G : Gt} {X : Xt} {b : ByteArray} {nL : Nat} {C : String} {T : Tt} {d : Nat} {lv : List (Nat × Value)} {st : List Value} {w : Wd} {ci a j N ix : Nat} {Rn rf host : String} {F : u_T} {ty : Nat → FieldType} {q : Nat} (pc : Nat) (hX : CxOk G X b nL C T d) (hC : CI ci Rn F N ty) (g : gfR a ci j w = some q) (hf : (fkind ci)[j]? = some true) (hl : Cond.fieldLinkNest C ix rf (F j).2.1 (F j).2.2.1 host ∈ NW) (hr : (F j).1 = rf) (hd : decode b pc = .ok (.getfield ix, 3)) (k : WM G X (pc + 3) lv (.ref q :: st) w.1 w.2.1 w.2.2) : WM G X pc lv (.ref a :: st) w.1 w.2.1 w.2.2 := by
  unfold gfR at g
  by_cases c : w.1[a]? = some (.inr (.inl ci))
  · rw [if_pos c] at g
    refine w_getON pc hX hC c hf hl hr hd ?_
    rw [g]
    exact k
  · rw [if_neg c] at g
    cases g
theorem x_putIN {G : Gt} {X : Xt} {b : ByteArray} {nL : Nat} {C : String} {T : Tt} {d : Nat} {lv : List (Nat × Value)} {st : List Value} {w : Wd} {ci a j N ix : Nat} {Rn rf host : String} {F : u_T} {ty : Nat → FieldType} {x : Int32} {z : Unit} {w1 : Wd} (pc : Nat) (hX : CxOk G X b nL C T d) (hC : CI ci Rn F N ty) (g : (dput (pfI a ci j x)).1 w = some (z, w1)) (hf : (fkind ci)[j]? = some false) (hl : Cond.fieldLinkNest C ix rf (F j).2.1 (F j).2.2.1 host ∈ NW) (hr : (F j).1 = rf) (hfin : (F j).2.2.2 = false) (hnar : narrow (ty j) (.int x) = .int x) (hfit : fits (ty j) (.int x) = true) (hd : decode b pc = .ok (.putfield ix, 3)) (k : WM G X (pc + 3) lv st w1.1 w1.2.1 w1.2.2) : WM G X pc lv (.int x :: .ref a :: st) w.1 w.2.1 w.2.2 := by
  replace g := dpt_inv g
  obtain ⟨q, g, rfl⟩ := g
  unfold pfI at g
  by_cases c : w.1[a]? = some (.inr (.inl ci))
  · rw [if_pos c] at g
    cases g
    exact w_putIN pc hX hC c hf hl hr hfin hnar hfit hd k
  · rw [if_neg c] at g
    cases g
theorem x_putON {G : Gt} {X : Xt} {b : ByteArray} {nL : Nat} {C : String} {T : Tt} {d : Nat} {lv : List (Nat × Value)} {st : List Value} {w : Wd} {ci a j N ix : Nat} {Rn rf host : String} {F : u_T} {ty : Nat → FieldType} (o : Option Nat) {z : Unit} {w1 : Wd} (pc : Nat) (hX : CxOk G X b nL C T d) (hC : CI ci Rn F N ty) (g : (dput (pfO a ci j o)).1 w = some (z, w1)) (hf : (fkind ci)[j]? = some true) (hl : Cond.fieldLinkNest C ix rf (F j).2.1 (F j).2.2.1 host ∈ NW) (hr : (F j).1 = rf) (hfin : (F j).2.2.2 = false) (hnar : ∀ o : Option Nat, narrow (ty j) (va_rf o) = va_rf o) (hfit : ∀ o : Option Nat, fits (ty j) (va_rf o) = true) (hd : decode b pc = .ok (.putfield ix, 3)) (k : WM G X (pc + 3) lv st w1.1 w1.2.1 w1.2.2) : WM G X pc lv (ov o :: .ref a :: st) w.1 w.2.1 w.2.2 := by
  replace g := dpt_inv g
  obtain ⟨q, g, rfl⟩ := g
  unfold pfO at g
  by_cases c : w.1[a]? = some (.inr (.inl ci))
  · rw [if_pos c] at g
    cases g
    exact w_putON o pc hX hC c hf hl hr hfin hnar hfit hd k
  · rw [if_neg c] at g
    cases g
theorem rset_o (r : Rf) (a k z : Nat) : rset r a k z = roset r a k (some z) := rfl
theorem x_putFI {G : Gt} {X : Xt} {b : ByteArray} {nL : Nat} {C : String} {T : Tt} {d : Nat} {lv : List (Nat × Value)} {st : List Value} {w : Wd} {ci a j N ix : Nat} {Rn rf : String} {F : u_T} {ty : Nat → FieldType} {x : Int32} {z : Unit} {w1 : Wd} (pc : Nat) (hX : CxOk G X b nL C T d) (hNm : CxNm X "<init>") (hC : CI ci Rn F N ty) (g : (dput (pfI a ci j x)).1 w = some (z, w1)) (hf : (fkind ci)[j]? = some false) (hl : Cond.fieldLink C ix rf (F j).2.1 (F j).2.2.1 ∈ TW) (hr : (F j).1 = rf) (hdecl : (F j).1 = C) (hfin : (F j).2.2.2 = true) (hnar : narrow (ty j) (.int x) = .int x) (hfit : fits (ty j) (.int x) = true) (hd : decode b pc = .ok (.putfield ix, 3)) (k : WM G X (pc + 3) lv st w1.1 w1.2.1 w1.2.2) : WM G X pc lv (.int x :: .ref a :: st) w.1 w.2.1 w.2.2 := by
  replace g := dpt_inv g
  obtain ⟨q, g, rfl⟩ := g
  unfold pfI at g
  by_cases c : w.1[a]? = some (.inr (.inl ci))
  · rw [if_pos c] at g
    cases g
    exact w_putFI pc hX hNm hC c hf hl hr hdecl hfin hnar hfit hd k
  · rw [if_neg c] at g
    cases g
theorem x_putFR {G : Gt} {X : Xt} {b : ByteArray} {nL : Nat} {C : String} {T : Tt} {d : Nat} {lv : List (Nat × Value)} {st : List Value} {w : Wd} {ci a j N ix y : Nat} {Rn rf : String} {F : u_T} {ty : Nat → FieldType} {z : Unit} {w1 : Wd} (pc : Nat) (hX : CxOk G X b nL C T d) (hNm : CxNm X "<init>") (hC : CI ci Rn F N ty) (g : (dput (pfO a ci j (some y))).1 w = some (z, w1)) (hf : (fkind ci)[j]? = some true) (hl : Cond.fieldLink C ix rf (F j).2.1 (F j).2.2.1 ∈ TW) (hr : (F j).1 = rf) (hdecl : (F j).1 = C) (hfin : (F j).2.2.2 = true) (hnar : ∀ q : Nat, narrow (ty j) (.ref q) = .ref q) (hfit : ∀ q : Nat, fits (ty j) (.ref q) = true) (hd : decode b pc = .ok (.putfield ix, 3)) (k : WM G X (pc + 3) lv st w1.1 w1.2.1 w1.2.2) : WM G X pc lv (.ref y :: .ref a :: st) w.1 w.2.1 w.2.2 := by
  replace g := dpt_inv g
  obtain ⟨q, g, rfl⟩ := g
  unfold pfO at g
  by_cases c : w.1[a]? = some (.inr (.inl ci))
  · rw [if_pos c] at g
    cases g
    exact w_putFR pc hX hNm hC c hf hl hr hdecl hfin hnar hfit hd k
  · rw [if_neg c] at g
    cases g
theorem x_iald {G : Gt} {X : Xt} {b : ByteArray} {nL : Nat} {C : String} {T : Tt} {d : Nat} {lv : List (Nat × Value)} {st : List Value} {w : Wd} {a : Nat} {i x : Int32} (pc : Nat) (hX : CxOk G X b nL C T d) (g : iald a i w = some x) (hd : decode b pc = .ok (.iaload, 1)) (k : WM G X (pc + 1) lv (.int x :: st) w.1 w.2.1 w.2.2) : WM G X pc lv (.int i :: .ref a :: st) w.1 w.2.1 w.2.2 := by
  unfold iald at g
  cases e : w.1[a]? with
  | none => rw [e] at g; cases g
  | some s =>
    rw [e] at g
    rcases s with n | ci | q
    · exact w_iald pc hX e g hd k
    · cases g
    · cases g
theorem x_iast {G : Gt} {X : Xt} {b : ByteArray} {nL : Nat} {C : String} {T : Tt} {d : Nat} {lv : List (Nat × Value)} {st : List Value} {w : Wd} {a : Nat} {i x : Int32} {z : Unit} {w1 : Wd} (pc : Nat) (hX : CxOk G X b nL C T d) (g : (dput (iast a i x)).1 w = some (z, w1)) (hd : decode b pc = .ok (.iastore, 1)) (k : WM G X (pc + 1) lv st w1.1 w1.2.1 w1.2.2) : WM G X pc lv (.int x :: .int i :: .ref a :: st) w.1 w.2.1 w.2.2 := by
  replace g := dpt_inv g
  obtain ⟨q, g, rfl⟩ := g
  unfold iast at g
  cases e : w.1[a]? with
  | none => rw [e] at g; cases g
  | some s =>
    rw [e] at g
    rcases s with n | ci | q
    · obtain ⟨u', h1, h2⟩ := Option.map_eq_some_iff.mp g
      cases h2
      exact w_iast pc hX e h1 hd k
    · cases g
    · cases g
theorem x_alen {G : Gt} {X : Xt} {b : ByteArray} {nL : Nat} {C : String} {T : Tt} {d : Nat} {lv : List (Nat × Value)} {st : List Value} {w : Wd} {a : Nat} {x : Int32} (pc : Nat) (hX : CxOk G X b nL C T d) (g : alen a w = some x) (hd : decode b pc = .ok (.arraylength, 1)) (k : WM G X (pc + 1) lv (.int x :: st) w.1 w.2.1 w.2.2) : WM G X pc lv (.ref a :: st) w.1 w.2.1 w.2.2 := by
  unfold alen at g
  cases e : w.1[a]? with
  | none => rw [e] at g; cases g
  | some s =>
    rw [e] at g
    rcases s with n | ci | ⟨κ, n⟩
    · cases g
      exact w_alen (nI n) pc hX e rfl hd k
    · cases g
    · match κ, e, g with
      | 0, e, g =>
        have g := (if_pos (by decide)).symm.trans g
        cases g
        exact w_alenR (nI n) pc hX e rfl hd k
      | 1, e, g =>
        have g := (if_pos (by decide)).symm.trans g
        cases g
        exact w_alen1 pc hX e hd k
      | 2, e, g =>
        have g := (if_pos (by decide)).symm.trans g
        cases g
        exact w_alen2 pc hX e hd k
      | 3, e, g =>
        have g := (if_pos (by decide)).symm.trans g
        cases g
        exact w_alen3 pc hX e hd k
      | κ + 4, e, g =>
        have g := (if_neg (by omega)).symm.trans g
        cases g
theorem x_aald {G : Gt} {X : Xt} {b : ByteArray} {nL : Nat} {C : String} {T : Tt} {d : Nat} {lv : List (Nat × Value)} {st : List Value} {w : Wd} {a q : Nat} {i : Int32} (pc : Nat) (hX : CxOk G X b nL C T d) (g : aald a i w = some q) (hd : decode b pc = .ok (.aaload, 1)) (k : WM G X (pc + 1) lv (.ref q :: st) w.1 w.2.1 w.2.2) : WM G X pc lv (.int i :: .ref a :: st) w.1 w.2.1 w.2.2 := by
  unfold aald at g
  cases e : w.1[a]? with
  | none => rw [e] at g; cases g
  | some s =>
    rw [e] at g
    rcases s with n | ci | ⟨κ, n⟩
    · cases g
    · cases g
    · match κ, e, g with
      | 0, e, g => cases g
      | 1, e, g =>
        by_cases c : i < 0 ∨ n ≤ i.toNatClampNeg
        · have g := (if_pos c).symm.trans g
          cases g
        · have g := (if_neg c).symm.trans g
          exact w_aald1 pc hX e c g hd k
      | 2, e, g =>
        by_cases c : i < 0 ∨ n ≤ i.toNatClampNeg
        · have g := (if_pos c).symm.trans g
          cases g
        · have g := (if_neg c).symm.trans g
          exact w_aald2 pc hX e c g hd k
      | κ + 3, e, g => cases g
theorem x_aast {G : Gt} {X : Xt} {b : ByteArray} {nL : Nat} {C : String} {T : Tt} {d : Nat} {lv : List (Nat × Value)} {st : List Value} {w : Wd} {a y : Nat} {i : Int32} {z : Unit} {w1 : Wd} (pc : Nat) (hX : CxOk G X b nL C T d) (g : (dput (aast a i y)).1 w = some (z, w1)) (hd : decode b pc = .ok (.aastore, 1)) (k : WM G X (pc + 1) lv st w1.1 w1.2.1 w1.2.2) : WM G X pc lv (.ref y :: .int i :: .ref a :: st) w.1 w.2.1 w.2.2 := by
  replace g := dpt_inv g
  obtain ⟨q, g, rfl⟩ := g
  unfold aast at g
  cases e : w.1[a]? with
  | none => rw [e] at g; cases g
  | some s =>
    rw [e] at g
    cases e2 : w.1[y]? with
    | none =>
      rw [e2] at g
      rcases s with n | ci | ⟨κ, n⟩
      · cases g
      · cases g
      · match κ, g with
        | 0, g => cases g
        | 1, g => cases g
        | 2, g => cases g
        | κ + 3, g => cases g
    | some s2 =>
      rw [e2] at g
      rcases s with n | ci | ⟨κ, n⟩
      · cases g
      · cases g
      · match κ, s2, e, e2, g with
        | 1, .inr (.inl 12), e, e2, g =>
          by_cases c : i < 0 ∨ n ≤ i.toNatClampNeg
          · have g := (if_pos c).symm.trans g
            cases g
          · have g := (if_neg c).symm.trans g
            cases g
            exact w_aast1 pc hX e e2 c hd k
        | 2, .inl n2, e, e2, g =>
          by_cases c : i < 0 ∨ n ≤ i.toNatClampNeg
          · have g := (if_pos c).symm.trans g
            cases g
          · have g := (if_neg c).symm.trans g
            cases g
            exact w_aast2 pc hX e e2 c hd k
theorem kb_ {a : Nat} (h : 3000000 ≤ a ∧ a < 3000000 + strN) : ∃ i, i < strN ∧ a = 3000000 + i := ⟨a - 3000000, by omega, by omega⟩
theorem ks_ {a : Nat} (h : 2000000 ≤ a ∧ a < 2000000 + strN) : ∃ i, i < strN ∧ a = 2000000 + i := ⟨a - 2000000, by omega, by omega⟩
theorem bLen_c {i : Nat} {w : Wd} (hi : i < strN) : bLen (3000000 + i) w = some (strLen.getD i 0) := by
  unfold bLen
  rw [if_pos (by omega), Nat.add_sub_cancel_left]
theorem bAt_c {i j : Nat} {w : Wd} (hi : i < strN) : bAt (3000000 + i) w j = (strByt.getD i []).getD j 0 := by
  unfold bAt
  rw [if_pos (by omega), Nat.add_sub_cancel_left]
theorem bLen_d {a n : Nat} {w : Wd} (h : ¬ (3000000 ≤ a ∧ a < 3000000 + strN)) (g : bLen a w = some n) : w.1[a]? = some (.inr (.inr (3, n))) := by
  unfold bLen at g
  rw [if_neg h] at g
  cases e : w.1[a]? with
  | none => rw [e] at g; cases g
  | some s =>
    rw [e] at g
    rcases s with n | ci | ⟨κ, n⟩
    · cases g
    · cases g
    · match κ, g with
      | 0, g => cases g
      | 1, g => cases g
      | 2, g => cases g
      | 3, g => cases g; rfl
      | κ + 4, g => cases g
theorem x_blen {G : Gt} {X : Xt} {b : ByteArray} {nL : Nat} {C : String} {T : Tt} {d : Nat} {lv : List (Nat × Value)} {st : List Value} {w : Wd} {a : Nat} {x : Int32} (pc : Nat) (hX : CxOk G X b nL C T d) (g : blen a w = some x) (hd : decode b pc = .ok (.arraylength, 1)) (k : WM G X (pc + 1) lv (.int x :: st) w.1 w.2.1 w.2.2) : WM G X pc lv (.ref a :: st) w.1 w.2.1 w.2.2 := by
  obtain ⟨n, h1, h2⟩ := Option.map_eq_some_iff.mp g
  cases h2
  by_cases c : 3000000 ≤ a ∧ a < 3000000 + strN
  · obtain ⟨i, hi, rfl⟩ := kb_ c
    rw [bLen_c hi] at h1
    cases h1
    exact w_alenB pc hX hi hd k
  · exact w_alen3 pc hX (bLen_d c h1) hd k
theorem x_bald {G : Gt} {X : Xt} {b : ByteArray} {nL : Nat} {C : String} {T : Tt} {d : Nat} {lv : List (Nat × Value)} {st : List Value} {w : Wd} {a : Nat} {j x : Int32} (pc : Nat) (hX : CxOk G X b nL C T d) (g : bald a j w = some x) (hd : decode b pc = .ok (.baload, 1)) (k : WM G X (pc + 1) lv (.int x :: st) w.1 w.2.1 w.2.2) : WM G X pc lv (.int j :: .ref a :: st) w.1 w.2.1 w.2.2 := by
  obtain ⟨n, h1, h2⟩ := o_bind g
  by_cases q : j < 0 ∨ n ≤ j.toNatClampNeg
  · rw [if_pos q] at h2; cases h2
  · rw [if_neg q] at h2
    cases h2
    by_cases c : 3000000 ≤ a ∧ a < 3000000 + strN
    · obtain ⟨i, hi, rfl⟩ := kb_ c
      rw [bLen_c hi] at h1
      cases h1
      rw [bAt_c hi] at k
      exact w_bald pc hX hi q hd k
    · unfold bAt at k
      rw [if_neg c] at k
      exact w_bald3 pc hX (bLen_d c h1) q hd k
theorem x_baldO {G : Gt} {X : Xt} {b : ByteArray} {nL : Nat} {C : String} {T : Tt} {d : Nat} {lv : List (Nat × Value)} {st : List Value} {w : Wd} {j x : Int32} (pc : Nat) (hX : CxOk G X b nL C T d) (g : dgO j = some x) (hd : decode b pc = .ok (.baload, 1)) (k : WM G X (pc + 1) lv (.int x :: st) w.1 w.2.1 w.2.2) : WM G X pc lv (.int j :: .ref 3500000 :: st) w.1 w.2.1 w.2.2 := by
  unfold dgO at g
  by_cases q : j < 0 ∨ 100 ≤ j.toNatClampNeg
  · rw [if_pos q] at g; cases g
  · rw [if_neg q] at g
    cases g
    exact w_baldO pc hX q hd k
theorem x_baldT {G : Gt} {X : Xt} {b : ByteArray} {nL : Nat} {C : String} {T : Tt} {d : Nat} {lv : List (Nat × Value)} {st : List Value} {w : Wd} {j x : Int32} (pc : Nat) (hX : CxOk G X b nL C T d) (g : dgT j = some x) (hd : decode b pc = .ok (.baload, 1)) (k : WM G X (pc + 1) lv (.int x :: st) w.1 w.2.1 w.2.2) : WM G X pc lv (.int j :: .ref 3500001 :: st) w.1 w.2.1 w.2.2 := by
  unfold dgT at g
  by_cases q : j < 0 ∨ 100 ≤ j.toNatClampNeg
  · rw [if_pos q] at g; cases g
  · rw [if_neg q] at g
    cases g
    exact w_baldT pc hX q hd k
theorem x_bast {G : Gt} {X : Xt} {b : ByteArray} {nL : Nat} {C : String} {T : Tt} {d : Nat} {lv : List (Nat × Value)} {st : List Value} {w : Wd} {a : Nat} {i x : Int32} {z : Unit} {w1 : Wd} (pc : Nat) (hX : CxOk G X b nL C T d) (g : (dput (bast a i x)).1 w = some (z, w1)) (hd : decode b pc = .ok (.bastore, 1)) (k : WM G X (pc + 1) lv st w1.1 w1.2.1 w1.2.2) : WM G X pc lv (.int x :: .int i :: .ref a :: st) w.1 w.2.1 w.2.2 := by
  replace g := dpt_inv g
  obtain ⟨q, g, rfl⟩ := g
  unfold bast at g
  cases e : w.1[a]? with
  | none => rw [e] at g; cases g
  | some s =>
    rw [e] at g
    rcases s with n | ci | ⟨κ, n⟩
    · cases g
    · cases g
    · match κ, e, g with
      | 0, e, g => cases g
      | 1, e, g => cases g
      | 2, e, g => cases g
      | 3, e, g =>
        by_cases c : i < 0 ∨ n ≤ i.toNatClampNeg
        · have g := (if_pos c).symm.trans g
          cases g
        · have g := (if_neg c).symm.trans g
          cases g
          exact w_bast3 pc hX e c hd k
      | κ + 4, e, g => cases g
theorem x_sval {G : Gt} {X : Xt} {b : ByteArray} {nL : Nat} {C : String} {T : Tt} {d : Nat} {lv : List (Nat × Value)} {st : List Value} {w : Wd} {a q ix : Nat} (pc : Nat) (hX : CxOk G X b nL C T d) (g : sVal a w = some q) (hl : Cond.fieldLink C ix RJ0 (TJ0 0).2.1 (TJ0 0).2.2.1 ∈ TW) (hd : decode b pc = .ok (.getfield ix, 3)) (k : WM G X (pc + 3) lv (.ref q :: st) w.1 w.2.1 w.2.2) : WM G X pc lv (.ref a :: st) w.1 w.2.1 w.2.2 := by
  unfold sVal at g
  by_cases c : 2000000 ≤ a ∧ a < 2000000 + strN
  · rw [if_pos c] at g
    obtain ⟨i, hi, rfl⟩ := ks_ c
    cases g
    rw [show 2000000 + i + 1000000 = 3000000 + i by omega] at k
    exact w_sval pc hX hi hl hd k
  · rw [if_neg c] at g
    exact x_getR pc hX CI_13 g rfl hl rfl hd k
theorem x_scod {G : Gt} {X : Xt} {b : ByteArray} {nL : Nat} {C : String} {T : Tt} {d : Nat} {lv : List (Nat × Value)} {st : List Value} {w : Wd} {a ix : Nat} {x : Int32} (pc : Nat) (hX : CxOk G X b nL C T d) (g : sCod a w = some x) (hl : Cond.fieldLink C ix RJ0 (TJ0 1).2.1 (TJ0 1).2.2.1 ∈ TW) (hd : decode b pc = .ok (.getfield ix, 3)) (k : WM G X (pc + 3) lv (.int x :: st) w.1 w.2.1 w.2.2) : WM G X pc lv (.ref a :: st) w.1 w.2.1 w.2.2 := by
  unfold sCod at g
  by_cases c : 2000000 ≤ a ∧ a < 2000000 + strN
  · rw [if_pos c] at g
    obtain ⟨i, hi, rfl⟩ := ks_ c
    cases g
    exact w_scod pc hX hi hl hd k
  · rw [if_neg c] at g
    exact x_getI pc hX CI_13 g rfl hl rfl hd k
theorem x_new {G : Gt} {X : Xt} {b : ByteArray} {nL : Nat} {C : String} {T : Tt} {d : Nat} {lv : List (Nat × Value)} {st : List Value} {w : Wd} {ci N ix a : Nat} {w1 : Wd} {Rn : String} {F : u_T} {ty : Nat → FieldType} (pc : Nat) (hX : CxOk G X b nL C T d) (hC : CI ci Rn F N ty) (g : (dnew (nwO ci)).1 w = some (a, w1)) (hty : ∀ j, j < N → defaultValue (ty j) = vp_V (flds G ci (fun _ => none) (fun _ => 0)) j) (w1_ : Cond.classLink C ix Rn ∈ TW) (w2 : Cond.instantiable Rn N ∈ TW) (w3 : Cond.initialized Rn ∈ TW) (q : Le w1 (T.2.1, T.2.2.1, T.2.2.2)) (hd : decode b pc = .ok (.new ix, 3)) (k : WM G X (pc + 3) lv (.ref a :: st) w1.1 w1.2.1 w1.2.2) : WM G X pc lv st w.1 w.2.1 w.2.2 := by
  replace g := dnw_inv g
  obtain ⟨q0, g, rfl, b1, b2, rfl⟩ := g
  cases g
  exact wm_new (fun _ => none) (fun _ => 0) (w_new _ pc hX hC rfl (fresh0 _ _ _) hty w1_ w2 w3 q.1 q.2 b1 b2 hd k)
theorem x_newI {G : Gt} {X : Xt} {b : ByteArray} {nL : Nat} {C : String} {T : Tt} {d : Nat} {lv : List (Nat × Value)} {st : List Value} {w : Wd} {a : Nat} {i : Int32} {w1 : Wd} (pc : Nat) (hX : CxOk G X b nL C T d) (g : (dnew (nwI i)).1 w = some (a, w1)) (w1_ : Cond.arrayClass .int ∈ TW) (q : Le w1 (T.2.1, T.2.2.1, T.2.2.2)) (hd : decode b pc = .ok (.newarray .int, 2)) (k : WM G X (pc + 2) lv (.ref a :: st) w1.1 w1.2.1 w1.2.2) : WM G X pc lv (.int i :: st) w.1 w.2.1 w.2.2 := by
  replace g := dnw_inv g
  obtain ⟨q0, g, rfl, b1, b2, rfl⟩ := g
  unfold nwI at g
  by_cases c : i < 0
  · rw [if_pos c] at g; cases g
  · rw [if_neg c] at g
    cases g
    have b2' : ssum w.1 + i.toNatClampNeg ≤ 7080000 := b2
    exact wm_new (fun _ => none) (fun _ => 0) (w_newa _ pc hX rfl (fresh0 _ _ _) c rfl (by omega) w1_ q.1 q.2 b1 b2 hd k)
