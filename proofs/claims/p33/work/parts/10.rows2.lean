def mupd (u : Mem) (a k : Nat) (x : Int32) : Mem := fun b => if b = a then upd (u a) k x else u b
def mset (u : Mem) (a : Nat) (f : Nat → Int32) : Mem := fun b => if b = a then f else u b
def rdA (u : Mem) (a n : Nat) (i : Int32) : Option Int32 := if i < 0 ∨ n ≤ i.toNatClampNeg then none else some (u a i.toNatClampNeg)
def wrA (u : Mem) (a n : Nat) (i x : Int32) : Option Mem := if i < 0 ∨ n ≤ i.toNatClampNeg then none else some (mupd u a i.toNatClampNeg x)
def dvI (x y : Int32) : Option Int32 := if y = 0 then none else some (x / y)
def rmI (x y : Int32) : Option Int32 := if y = 0 then none else some (x - x / y * y)
def bchk (x : Int32) : Option Int32 := if x = 0 ∨ x = 1 then some x else none
theorem o_bind {α β : Type} {o : Option α} {f : α → Option β} {z : β} (h : o.bind f = some z) : ∃ x, o = some x ∧ f x = some z := by
  cases o with
  | none => cases h
  | some x => exact ⟨x, rfl, h⟩
theorem dvI_ok {x y z : Int32} (h : dvI x y = some z) : ¬ y = 0 ∧ x / y = z := by
  unfold dvI at h
  by_cases q : y = 0
  · rw [if_pos q] at h; cases h
  · rw [if_neg q] at h; exact ⟨q, Option.some.inj h⟩
theorem rmI_ok {x y z : Int32} (h : rmI x y = some z) : ¬ y = 0 ∧ x - x / y * y = z := by
  unfold rmI at h
  by_cases q : y = 0
  · rw [if_pos q] at h; cases h
  · rw [if_neg q] at h; exact ⟨q, Option.some.inj h⟩
theorem bchk_ok {x z : Int32} (h : bchk x = some z) : x = z ∧ narrow .boolean (.int z) = .int z ∧ fits .boolean (.int z) = true := by
  unfold bchk at h
  by_cases q : x = 0 ∨ x = 1
  · rw [if_pos q] at h
    cases h
    rcases q with rfl | rfl <;> exact ⟨rfl, by decide, by decide⟩
  · rw [if_neg q] at h; cases h
theorem mupd_at (u : Mem) (a k : Nat) (x : Int32) : mupd u a k x a = upd (u a) k x := by simp [mupd]
theorem mupd_ne (u : Mem) {a j : Nat} (k : Nat) (x : Int32) (h : j ≠ a) : mupd u a k x j = u j := by simp [mupd, h]
theorem mset_at (u : Mem) (a : Nat) (f : Nat → Int32) : mset u a f a = f := by simp [mset]
theorem mset_ne (u : Mem) {a j : Nat} (f : Nat → Int32) (h : j ≠ a) : mset u a f j = u j := by simp [mset, h]
theorem vaP1 {D : va_G} {cl : List vw_C} {q : Nat × va_E} {H : Heap} (h : va_at D cl q H) : va_P D cl [q] H := fun k z hz => by
  cases k with
  | zero => cases hz; exact h
  | succ k => simp at hz
theorem flds_I (G : Gt) {ci k : Nat} (r : Nat → Option Nat) (u : Nat → Int32) (hf : (fkind ci)[k]? = some false) : (flds G ci r u)[k]? = some (.int (u k)) := by
  simp [flds, List.getElem?_mapIdx, hf]
theorem flds_R (G : Gt) {ci k j : Nat} {r : Nat → Option Nat} (u : Nat → Int32) (hf : (fkind ci)[k]? = some true) (hr : r k = some j) : (flds G ci r u)[k]? = some (.ref (adr G j)) := by
  simp [flds, List.getElem?_mapIdx, hf, hr, va_rf]
theorem flds_len (G : Gt) (ci : Nat) (r : Nat → Option Nat) (u : Nat → Int32) : (flds G ci r u).length = (fkind ci).length := by simp [flds]
theorem flds_setI (G : Gt) {ci k : Nat} (r : Nat → Option Nat) (u : Nat → Int32) (x : Int32) (hf : (fkind ci)[k]? = some false) : (flds G ci r u).set k (.int x) = flds G ci r (upd u k x) := by
  apply List.ext_getElem?
  intro j
  by_cases hj : j = k
  · subst hj
    have h1 : j < (flds G ci r u).length := by rw [flds_len]; exact (List.getElem?_eq_some_iff.mp hf).1
    rw [List.getElem?_set_self h1, flds_I G r _ hf]
    simp [upd]
  · rw [List.getElem?_set_ne (Ne.symm hj)]
    simp [flds, List.getElem?_mapIdx, upd, hj]
def rset (r : Rf) (a k j : Nat) : Rf := fun b i => if b = a ∧ i = k then some j else r b i
theorem flds_setR (G : Gt) {ci k j a : Nat} (r : Rf) (u : Nat → Int32) (hf : (fkind ci)[k]? = some true) : (flds G ci (r a) u).set k (.ref (adr G j)) = flds G ci (rset r a k j a) u := by
  apply List.ext_getElem?
  intro i
  by_cases hj : i = k
  · subst hj
    have h1 : i < (flds G ci (r a) u).length := by rw [flds_len]; exact (List.getElem?_eq_some_iff.mp hf).1
    rw [List.getElem?_set_self h1, flds_R G u hf (j := j) (by simp [rset])]
  · rw [List.getElem?_set_ne (Ne.symm hj)]
    simp [flds, List.getElem?_mapIdx, rset, hj]
theorem RepC.put {G : Gt} {sh : List Shp} {r r' : Rf} {u u' : Mem} {H H' : Heap} {i : Nat} {s0 : Shp} (h : RepC G sh r u H) (hs : sh[i]? = some s0) (e : va_at (gD G) vwCl (gN G + i, cellv G s0 (r' i) (u' i)) H') (z : H'.size = H.size) (oq : ∀ q : Nat, q ≠ gN G + i → H'[q]? = H[q]?) (hu : ∀ j, j ≠ i → u' j = u j) (hr : ∀ j, j ≠ i → r' j = r j) : RepC G sh r' u' H' := by
  refine ⟨fun j s hj => ?_, by rw [z]; exact h.2.1, fun q hq => (oq q (by omega)).trans (h.2.2.1 q hq), h.2.2.2⟩
  by_cases hji : j = i
  · subst hji; rw [hs] at hj; cases hj; exact e
  · rw [hu j hji, hr j hji]; exact (h.1 j s hj).kept (oq _ (by show gN G + j ≠ gN G + i; omega))
theorem RepC.adr0 {G : Gt} {sh : List Shp} {r : Rf} {u : Mem} {H : Heap} {i : Nat} {s0 : Shp} (h : RepC G sh r u H) (hs : sh[i]? = some s0) : adr G i = gN G + i := by
  have h1 := (List.getElem?_eq_some_iff.mp hs).1
  have h2 := h.2.2.2
  unfold adr
  rw [if_pos (by omega)]
theorem loc_in {G : Gt} {locs : List Loc} (h : ∀ q ∈ locs, gA G q.base) {a k : Nat} : ∀ q ∈ locs ++ [(⟨gN G + a, k⟩ : Loc)], gA G q.base := fun q hq => by
  rcases List.mem_append.mp hq with h1 | h1
  · exact h q h1
  · rw [List.mem_singleton.mp h1]
    exact Nat.le_add_right _ _
theorem w_getI {G : Gt} {X : Xt} {b : ByteArray} {nL : Nat} {C : String} {T : Tt} {d : Nat} {lv : List (Nat × Value)} {st : List Value} {sh : List Shp} {r : Rf} {u : Mem} {ci a j N ix : Nat} {Rn : String}{rf : String} {F : u_T} {ty : Nat → FieldType} (pc : Nat) (hX : CxOk G X b nL C T d) (hC : CI ci Rn F N ty) (hs : sh[a]? = some (.inr (.inl ci))) (hf : (fkind ci)[j]? = some false) (hl : Cond.fieldLink C ix rf (F j).2.1 (F j).2.2.1 ∈ TW) (hr : (F j).1 = rf) (hd : decode b pc = .ok (.getfield ix, 3)) (k : WM G X (pc + 3) lv (.int (u a j) :: st) sh r u) : WM G X pc lv (.ref a :: st) sh r u := by
  obtain ⟨p, e, R, s, m, args, below, meth, c, Q, nL', c0, n0⟩ := X
  intro H locs ls k1 n1 h1 h2 h3 h4 h5
  obtain ⟨x1, x2, x3, x4, x5, x6, x7, x8, x9, x10, x11, x12⟩ := hX
  have hk : j < N := by rw [← hC.2.2.2.2]; exact (List.getElem?_eq_some_iff.mp hf).1
  have hP := vaP1 (h1.1 a _ hs)
  show W p (gL G) e R s m args below meth c H locs k1 n1 Q (F0 m pc ls (.ref (adr G a) :: sts G st))
  rw [h1.adr0 hs]
  exact va_get (C := Rn) (T := F) (N := N) (ref := rf) x1 x2 x5 hC.2.1 x4 x6.1 hP 0 rfl hC.1 j hk (x5 _ hl) (fun x hx => by rw [hr] at hx; exact hx) (v := .int (u a j)) (flds_I G _ _ hf) hd (k H locs ls k1 n1 h1 h2 h3 h4 h5)
theorem w_getR {G : Gt} {X : Xt} {b : ByteArray} {nL : Nat} {C : String} {T : Tt} {d : Nat} {lv : List (Nat × Value)} {st : List Value} {sh : List Shp} {r : Rf} {u : Mem} {ci a j N ix q : Nat} {Rn : String}{rf : String} {F : u_T} {ty : Nat → FieldType} (pc : Nat) (hX : CxOk G X b nL C T d) (hC : CI ci Rn F N ty) (hs : sh[a]? = some (.inr (.inl ci))) (hf : (fkind ci)[j]? = some true) (hq : r a j = some q) (hl : Cond.fieldLink C ix rf (F j).2.1 (F j).2.2.1 ∈ TW) (hr : (F j).1 = rf) (hd : decode b pc = .ok (.getfield ix, 3)) (k : WM G X (pc + 3) lv (.ref q :: st) sh r u) : WM G X pc lv (.ref a :: st) sh r u := by
  obtain ⟨p, e, R, s, m, args, below, meth, c, Q, nL', c0, n0⟩ := X
  intro H locs ls k1 n1 h1 h2 h3 h4 h5
  obtain ⟨x1, x2, x3, x4, x5, x6, x7, x8, x9, x10, x11, x12⟩ := hX
  have hk : j < N := by rw [← hC.2.2.2.2]; exact (List.getElem?_eq_some_iff.mp hf).1
  have hP := vaP1 (h1.1 a _ hs)
  show W p (gL G) e R s m args below meth c H locs k1 n1 Q (F0 m pc ls (.ref (adr G a) :: sts G st))
  rw [h1.adr0 hs]
  exact va_get (C := Rn) (T := F) (N := N) (ref := rf) x1 x2 x5 hC.2.1 x4 x6.1 hP 0 rfl hC.1 j hk (x5 _ hl) (fun x hx => by rw [hr] at hx; exact hx) (v := .ref (adr G q)) (flds_R G _ hf hq) hd (k H locs ls k1 n1 h1 h2 h3 h4 h5)
theorem w_putI {G : Gt} {X : Xt} {b : ByteArray} {nL : Nat} {C : String} {T : Tt} {d : Nat} {lv : List (Nat × Value)} {st : List Value} {sh : List Shp} {r : Rf} {u : Mem} {ci a j N ix : Nat} {x : Int32} {Rn : String}{rf : String} {F : u_T} {ty : Nat → FieldType} (pc : Nat) (hX : CxOk G X b nL C T d) (hC : CI ci Rn F N ty) (hs : sh[a]? = some (.inr (.inl ci))) (hf : (fkind ci)[j]? = some false) (hl : Cond.fieldLink C ix rf (F j).2.1 (F j).2.2.1 ∈ TW) (hr : (F j).1 = rf) (hfin : (F j).2.2.2 = false) (hnar : narrow (ty j) (.int x) = .int x) (hfit : fits (ty j) (.int x) = true) (hd : decode b pc = .ok (.putfield ix, 3)) (k : WM G X (pc + 3) lv st sh r (mupd u a j x)) : WM G X pc lv (.int x :: .ref a :: st) sh r u := by
  obtain ⟨p, e, R, s, m, args, below, meth, c, Q, nL', c0, n0⟩ := X
  intro H locs ls k1 n1 h1 h2 h3 h4 h5
  obtain ⟨x1, x2, x3, x4, x5, x6, x7, x8, x9, x10, x11, x12⟩ := hX
  have hk : j < N := by rw [← hC.2.2.2.2]; exact (List.getElem?_eq_some_iff.mp hf).1
  have hap := va_apart (own := C) x5 hC.2.1 ty hC.2.2.1 hC.2.2.2.1 x6.1 hC.1
  obtain ⟨rr, g1, cell, q1, q2, q3, q4⟩ := h1.1 a _ hs
  have hrr : rr = (Rn, F, N) := Option.some.inj (g1.symm.trans hC.1)
  subst hrr
  obtain ⟨hS, hfc, kC, hkC, hkind⟩ := x6.1.1 ci _ hC.1
  obtain ⟨cf, kf, fi, f, hi, hsl⟩ := hS j hk
  have hlay := x5 _ (hC.2.1 _ (u_in_lay hk))
  unfold u_lay at hlay
  rw [if_neg (by rw [hfin]; decide)] at hlay
  have hst := (u_facts hfc hkC (u_lays x5 hC.2.1 hk) hi).1
  have h6 := u_store hfc hkC hkind hlay hi (hC.2.2.1 j hk) hnar hfit
  show W p (gL G) e R s m args below meth c H locs k1 n1 Q (F0 m pc ls (.int x :: .ref (adr G a) :: sts G st))
  rw [h1.adr0 hs]
  refine W.putK x1 x2 (f := f) ⟨x4, x5 _ hl, ⟨_, _, _, by rw [hr] at hi; exact hi⟩, hst⟩ (by rw [q2]; exact h6) q1 q3 (by rw [hsl]; exact k2_hasslot (q4 j hk)) rfl rfl hd fun H' e1 e2 e3 => ?_
  rw [hsl] at e1
  refine k H' _ ls k1 n1 (h1.put hs (u' := mupd u a j x) ?_ e2 e3 (fun z hz => mupd_ne u j x hz) (fun _ _ => rfl)) (loc_in h2) h3 h4 h5
  show va_at (gD G) vwCl (gN G + a, .inr (ci, flds G ci (r a) (mupd u a j x a))) H'
  rw [mupd_at, ← flds_setI G _ _ _ hf]
  exact ⟨_, hC.1, t_OB.to (V := updV (vp_V (flds G ci (r a) (u a))) j (.int x)) ⟨_, e1, q2, q3, t_set q4 hap hk (.int x)⟩ (fun z _ => vp_updV_set (by rw [flds_len]; exact (List.getElem?_eq_some_iff.mp hf).1) (.int x) z)⟩
theorem w_iald {G : Gt} {X : Xt} {b : ByteArray} {nL : Nat} {C : String} {T : Tt} {d : Nat} {lv : List (Nat × Value)} {st : List Value} {sh : List Shp} {r : Rf} {u : Mem} {a n : Nat} {i x : Int32} (pc : Nat) (hX : CxOk G X b nL C T d) (hs : sh[a]? = some (.inl n)) (hr : rdA u a n i = some x) (hd : decode b pc = .ok (.iaload, 1)) (k : WM G X (pc + 1) lv (.int x :: st) sh r u) : WM G X pc lv (.int i :: .ref a :: st) sh r u := by
  obtain ⟨p, e, R, s, m, args, below, meth, c, Q, nL', c0, n0⟩ := X
  intro H locs ls k1 n1 h1 h2 h3 h4 h5
  obtain ⟨x1, x2, x3, x4, x5, x6, x7, x8, x9, x10, x11, x12⟩ := hX
  have hP := vaP1 (h1.1 a _ hs)
  show W p (gL G) e R s m args below meth c H locs k1 n1 Q (F0 m pc ls (.int i :: .ref (adr G a) :: sts G st))
  rw [h1.adr0 hs]
  unfold rdA at hr
  by_cases hin : i < 0 ∨ n ≤ i.toNatClampNeg
  · rw [if_pos hin] at hr; cases hr
  · rw [if_neg hin] at hr
    cases hr
    exact va_iald x1 x2 x6.1 hP 0 0 rfl rfl hin hd (k H locs ls k1 n1 h1 h2 h3 h4 h5)
theorem w_iast {G : Gt} {X : Xt} {b : ByteArray} {nL : Nat} {C : String} {T : Tt} {d : Nat} {lv : List (Nat × Value)} {st : List Value} {sh : List Shp} {r : Rf} {u : Mem} {a n : Nat} {i x : Int32} {u' : Mem} (pc : Nat) (hX : CxOk G X b nL C T d) (hs : sh[a]? = some (.inl n)) (hr : wrA u a n i x = some u') (hd : decode b pc = .ok (.iastore, 1)) (k : WM G X (pc + 1) lv st sh r u') : WM G X pc lv (.int x :: .int i :: .ref a :: st) sh r u := by
  obtain ⟨p, e, R, s, m, args, below, meth, c, Q, nL', c0, n0⟩ := X
  intro H locs ls k1 n1 h1 h2 h3 h4 h5
  obtain ⟨x1, x2, x3, x4, x5, x6, x7, x8, x9, x10, x11, x12⟩ := hX
  have hc : H[gN G + a]? = some (vp_cell (gI G) (n, .inl (u a))) := h1.1 a _ hs
  show W p (gL G) e R s m args below meth c H locs k1 n1 Q (F0 m pc ls (.int x :: .int i :: .ref (adr G a) :: sts G st))
  rw [h1.adr0 hs]
  unfold wrA at hr
  by_cases hin : i < 0 ∨ n ≤ i.toNatClampNeg
  · rw [if_pos hin] at hr; cases hr
  · rw [if_neg hin] at hr
    cases hr
    refine W.iast x1 x2 hc ((x6.1.2 0 _ rfl).1 n (fun j => .int (u a j))) (fun q => by cases q) (by show ¬ (i < 0 ∨ (arrV _ _ _).slots.size ≤ _); rw [arrV_size]; exact hin) rfl rfl hd fun H1 e1 z oq => ?_
    refine k H1 _ ls k1 n1 (h1.put hs (u' := mupd u a i.toNatClampNeg x) ?_ z oq (fun j hj => mupd_ne u _ x hj) (fun _ _ => rfl)) (loc_in h2) h3 h4 h5
    show H1[gN G + a]? = some (vp_cell (gI G) (n, .inl (mupd u a i.toNatClampNeg x a)))
    rw [e1, mupd_at, vp_cell_i, vp_cell_i, arrV_store]
    congr 2
    funext q
    by_cases hq : q = i.toNatClampNeg
    · subst hq
      simp [updV, upd]
    · simp [updV, upd, hq]
theorem w_alen {G : Gt} {X : Xt} {b : ByteArray} {nL : Nat} {C : String} {T : Tt} {d : Nat} {lv : List (Nat × Value)} {st : List Value} {sh : List Shp} {r : Rf} {u : Mem} {a n : Nat} (v : Int32) (pc : Nat) (hX : CxOk G X b nL C T d) (hs : sh[a]? = some (.inl n)) (hv : Int32.ofNat n = v) (hd : decode b pc = .ok (.arraylength, 1)) (k : WM G X (pc + 1) lv (.int v :: st) sh r u) : WM G X pc lv (.ref a :: st) sh r u := by
  obtain ⟨p, e, R, s, m, args, below, meth, c, Q, nL', c0, n0⟩ := X
  intro H locs ls k1 n1 h1 h2 h3 h4 h5
  obtain ⟨x1, x2, x3, x4, x5, x6, x7, x8, x9, x10, x11, x12⟩ := hX
  have hP := vaP1 (h1.1 a _ hs)
  show W p (gL G) e R s m args below meth c H locs k1 n1 Q (F0 m pc ls (.ref (adr G a) :: sts G st))
  rw [h1.adr0 hs]
  exact va_alen x1 x2 x6.1 hP 0 0 rfl rfl hv hd (k H locs ls k1 n1 h1 h2 h3 h4 h5)
theorem w_alenR {G : Gt} {X : Xt} {b : ByteArray} {nL : Nat} {C : String} {T : Tt} {d : Nat} {lv : List (Nat × Value)} {st : List Value} {sh : List Shp} {r : Rf} {u : Mem} {a n : Nat} (v : Int32) (pc : Nat) (hX : CxOk G X b nL C T d) (hs : sh[a]? = some (.inr (.inr (0, n)))) (hv : Int32.ofNat n = v) (hd : decode b pc = .ok (.arraylength, 1)) (k : WM G X (pc + 1) lv (.int v :: st) sh r u) : WM G X pc lv (.ref a :: st) sh r u := by
  obtain ⟨p, e, R, s, m, args, below, meth, c, Q, nL', c0, n0⟩ := X
  intro H locs ls k1 n1 h1 h2 h3 h4 h5
  obtain ⟨x1, x2, x3, x4, x5, x6, x7, x8, x9, x10, x11, x12⟩ := hX
  have hP := vaP1 (h1.1 a _ hs)
  show W p (gL G) e R s m args below meth c H locs k1 n1 Q (F0 m pc ls (.ref (adr G a) :: sts G st))
  rw [h1.adr0 hs]
  exact va_alen x1 x2 x6.1 hP 0 1 rfl rfl hv hd (k H locs ls k1 n1 h1 h2 h3 h4 h5)
theorem w_aald {G : Gt} {X : Xt} {b : ByteArray} {nL : Nat} {C : String} {T : Tt} {d : Nat} {lv : List (Nat × Value)} {st : List Value} {sh : List Shp} {r : Rf} {u : Mem} {a n q : Nat} {i : Int32} (pc : Nat) (hX : CxOk G X b nL C T d) (hs : sh[a]? = some (.inr (.inr (0, n)))) (hin : vp_in i n) (hq : r a i.toNatClampNeg = some q) (hd : decode b pc = .ok (.aaload, 1)) (k : WM G X (pc + 1) lv (.ref q :: st) sh r u) : WM G X pc lv (.int i :: .ref a :: st) sh r u := by
  obtain ⟨p, e, R, s, m, args, below, meth, c, Q, nL', c0, n0⟩ := X
  intro H locs ls k1 n1 h1 h2 h3 h4 h5
  obtain ⟨x1, x2, x3, x4, x5, x6, x7, x8, x9, x10, x11, x12⟩ := hX
  have hP := vaP1 (h1.1 a _ hs)
  show W p (gL G) e R s m args below meth c H locs k1 n1 Q (F0 m pc ls (.int i :: .ref (adr G a) :: sts G st))
  rw [h1.adr0 hs]
  have hk := k H locs ls k1 n1 h1 h2 h3 h4 h5
  refine va_aldq x1 x2 x6.1 hP 0 1 rfl rfl hin hd ?_
  have e9 : va_rf ((r a i.toNatClampNeg).map (adr G)) = .ref (adr G q) := by rw [hq]; rfl
  show W p (gL G) e R s m args below meth c H locs k1 n1 Q (F0 m (pc + 1) ls (va_rf ((r a i.toNatClampNeg).map (adr G)) :: sts G st))
  rw [e9]
  exact hk
theorem rdK {u : Mem} {a n : Nat} (j : Nat) (i : Int32) (e : i = nI j) (h1 : j < n) (h2 : n < 2147483648) : rdA u a n i = some (u a j) := by
  unfold rdA
  rw [e, if_neg (nI_in h1 h2), nI_clamp (by omega)]
theorem wrK {u u' : Mem} {a n : Nat} {x : Int32} (j : Nat) (i : Int32) (e : i = nI j) (h1 : j < n) (h2 : n < 2147483648) (g : some (mupd u a j x) = some u') : wrA u a n i x = some u' := by
  rw [← g]
  unfold wrA
  rw [e, if_neg (nI_in h1 h2), nI_clamp (by omega)]
