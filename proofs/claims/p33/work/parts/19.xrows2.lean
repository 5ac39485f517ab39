theorem w_newb {G : Gt} {X : Xt} {b : ByteArray} {nL : Nat} {C : String} {T : Tt} {d : Nat} {lv : List (Nat × Value)} {st : List Value} {sh : List Shp} {r : Rf} {u : Mem} {i : Int32} {n : Nat} (a : Nat) (pc : Nat) (hX : CxOk G X b nL C T d) (ha : a = sh.length) (hF : Fresh sh r u) (hi : ¬ i < 0) (hn : i.toNatClampNeg = n) (hn2 : n * 1 ≤ 536870912) (w1 : Cond.arrayClass .byte ∈ TW) (q1 : (sh ++ [.inr (.inr (3, n))] : List Shp).length ≤ T.2.1.length) (q2 : ssum (sh ++ [.inr (.inr (3, n))]) ≤ ssum T.2.1) (q3 : sh.length + 1 ≤ 590000) (q4 : ssum sh + ssz (.inr (.inr (3, n))) ≤ 7080000) (hd : decode b pc = .ok (.newarray .byte, 2)) (k : WM G X (pc + 2) lv (.ref a :: st) (sh ++ [.inr (.inr (3, n))]) r u) : WM G X pc lv (.int i :: st) sh r u := by
  obtain ⟨p, e, R, s, m, args, below, meth, c, Q, nL', c0, n0⟩ := X
  intro H locs ls k1 n1 h1 h2 h3 h4 h5
  obtain ⟨x1, x2, x3, x4, x5, x6, x7, x8, x9, x10, x11, x12⟩ := hX
  have hz := ssum_push sh (.inr (.inr (3, n)))
  have hN : ssz (.inr (.inr (3, n))) = n := rfl
  rw [hz, hN] at q2
  rw [List.length_append, List.length_singleton] at q1
  have hsz := h1.2.1
  refine va_newaK (atype := .byte) x1 x2 (x5 _ w1) rfl hd rfl hi hn hn2 (by omega) (by omega) rfl fun H1 cA e1 z1 o1 hAr hNm => ?_
  have hcA : cA = (gQ G).2.2 := by
    have g := (x6.1.2 4 _ rfl).2
    exact Option.some.inj (hNm.symm.trans g)
  subst hcA
  have e9 : va_at (gD G) vwCl (gN G + sh.length, cellv G (.inr (.inr (3, n))) (r sh.length) (u sh.length)) H1 := by
    have f2 : u sh.length = fun _ => 0 := funext hF.2
    rw [f2, ← hsz]
    exact e1
  have h9 := k H1 locs ls (k1 + 1) (n1 + n) (h1.push e9 z1 o1 q3 q4) h2 h3 (by rw [List.length_append, List.length_singleton]; omega) (by rw [hz, hN]; omega)
  have e8 : sts G (.ref a :: st) = .ref H.size :: sts G st := by
    show Value.ref (adr G a) :: sts G st = _
    rw [hsz, ha]
    unfold adr
    rw [if_pos (by omega)]
  rw [e8] at h9
  exact h9
theorem w_newq1 {G : Gt} {X : Xt} {b : ByteArray} {nL : Nat} {C : String} {T : Tt} {d : Nat} {lv : List (Nat × Value)} {st : List Value} {sh : List Shp} {r : Rf} {u : Mem} {i : Int32} {n ix : Nat} (a : Nat) (pc : Nat) (hX : CxOk G X b nL C T d) (ha : a = sh.length) (hF : Fresh sh r u) (hi : ¬ i < 0) (hn : i.toNatClampNeg = n) (hn2 : n * 4 ≤ 536870912) (w1 : Cond.classLink C ix "OldestDownLaw$War" ∈ TW) (q1 : (sh ++ [.inr (.inr (1, n))] : List Shp).length ≤ T.2.1.length) (q2 : ssum (sh ++ [.inr (.inr (1, n))]) ≤ ssum T.2.1) (q3 : sh.length + 1 ≤ 590000) (q4 : ssum sh + ssz (.inr (.inr (1, n))) ≤ 7080000) (hd : decode b pc = .ok (.anewarray ix, 3)) (k : WM G X (pc + 3) lv (.ref a :: st) (sh ++ [.inr (.inr (1, n))]) r u) : WM G X pc lv (.int i :: st) sh r u := by
  obtain ⟨p, e, R, s, m, args, below, meth, c, Q, nL', c0, n0⟩ := X
  intro H locs ls k1 n1 h1 h2 h3 h4 h5
  obtain ⟨x1, x2, x3, x4, x5, x6, x7, x8, x9, x10, x11, x12⟩ := hX
  have hz := ssum_push sh (.inr (.inr (1, n)))
  have hN : ssz (.inr (.inr (1, n))) = n := rfl
  rw [hz, hN] at q2
  rw [List.length_append, List.length_singleton] at q1
  have hsz := h1.2.1
  subst hn
  refine W.anew x1 x2 x4 (x5 _ w1) (va_AO.use x6.2.2.2.2.2.2.2.2.2.2.2.1) rfl hd rfl hi hn2 (by omega) (by omega) fun cA kA comp f1 f2 f3 f4 => ?_
  generalize hH1 : H.push ({ cls := cA, slots := Array.replicate i.toNatClampNeg .null, vm := .none } : Cell) = H1
  have z1 : H1.size = H.size + 1 := by rw [← hH1, Array.size_push]
  have e1 : H1[H.size]? = some (arrV cA i.toNatClampNeg (fun _ => .null)) := by rw [← hH1, Array.getElem?_push_size, ← arrV_new]
  have o1 : ∀ q : Nat, q < H.size → H1[q]? = H[q]? := fun q hq => by rw [← hH1, Array.getElem?_push, if_neg (Nat.ne_of_lt hq)]
  have hcA : cA = (gQ G).1 := by
    obtain ⟨kA', comp', t1, t2, t3, t4⟩ := (x6.1.2 2 _ rfl).2
    exact Option.some.inj (f1.symm.trans t4)
  subst hcA
  have e9 : va_at (gD G) vwCl (gN G + sh.length, cellv G (.inr (.inr (1, i.toNatClampNeg))) (r sh.length) (u sh.length)) H1 := by
    have f1 : r sh.length = fun _ => none := funext hF.1
    rw [f1, ← hsz]
    exact e1
  have h9 := k H1 locs ls (k1 + 1) (n1 + i.toNatClampNeg) (h1.push e9 z1 o1 q3 q4) h2 h3 (by rw [List.length_append, List.length_singleton]; omega) (by rw [hz, hN]; omega)
  have e8 : sts G (.ref a :: st) = .ref H.size :: sts G st := by
    show Value.ref (adr G a) :: sts G st = _
    rw [hsz, ha]
    unfold adr
    rw [if_pos (by omega)]
  rw [e8] at h9
  exact h9
theorem w_newq2 {G : Gt} {X : Xt} {b : ByteArray} {nL : Nat} {C : String} {T : Tt} {d : Nat} {lv : List (Nat × Value)} {st : List Value} {sh : List Shp} {r : Rf} {u : Mem} {i : Int32} {n ix : Nat} (a : Nat) (pc : Nat) (hX : CxOk G X b nL C T d) (ha : a = sh.length) (hF : Fresh sh r u) (hi : ¬ i < 0) (hn : i.toNatClampNeg = n) (hn2 : n * 4 ≤ 536870912) (w1 : Cond.classLink C ix (FieldType.array .int).toString ∈ TW) (q1 : (sh ++ [.inr (.inr (2, n))] : List Shp).length ≤ T.2.1.length) (q2 : ssum (sh ++ [.inr (.inr (2, n))]) ≤ ssum T.2.1) (q3 : sh.length + 1 ≤ 590000) (q4 : ssum sh + ssz (.inr (.inr (2, n))) ≤ 7080000) (hd : decode b pc = .ok (.anewarray ix, 3)) (k : WM G X (pc + 3) lv (.ref a :: st) (sh ++ [.inr (.inr (2, n))]) r u) : WM G X pc lv (.int i :: st) sh r u := by
  obtain ⟨p, e, R, s, m, args, below, meth, c, Q, nL', c0, n0⟩ := X
  intro H locs ls k1 n1 h1 h2 h3 h4 h5
  obtain ⟨x1, x2, x3, x4, x5, x6, x7, x8, x9, x10, x11, x12⟩ := hX
  have hz := ssum_push sh (.inr (.inr (2, n)))
  have hN : ssz (.inr (.inr (2, n))) = n := rfl
  rw [hz, hN] at q2
  rw [List.length_append, List.length_singleton] at q1
  have hsz := h1.2.1
  subst hn
  refine W.anewA (t := .int) x1 x2 x4 (x5 _ w1) x6.2.2.2.2.2.2.2.2.2.2.2.2.1 rfl hd rfl hi hn2 (by omega) (by omega) fun cA kA comp f1 f2 f3 f4 => ?_
  generalize hH1 : H.push ({ cls := cA, slots := Array.replicate i.toNatClampNeg .null, vm := .none } : Cell) = H1
  have z1 : H1.size = H.size + 1 := by rw [← hH1, Array.size_push]
  have e1 : H1[H.size]? = some (arrV cA i.toNatClampNeg (fun _ => .null)) := by rw [← hH1, Array.getElem?_push_size, ← arrV_new]
  have o1 : ∀ q : Nat, q < H.size → H1[q]? = H[q]? := fun q hq => by rw [← hH1, Array.getElem?_push, if_neg (Nat.ne_of_lt hq)]
  have hcA : cA = (gQ G).2.1 := by
    exact Option.some.inj (f1.symm.trans (x6.1.2 3 _ rfl).2)
  subst hcA
  have e9 : va_at (gD G) vwCl (gN G + sh.length, cellv G (.inr (.inr (2, i.toNatClampNeg))) (r sh.length) (u sh.length)) H1 := by
    have f1 : r sh.length = fun _ => none := funext hF.1
    rw [f1, ← hsz]
    exact e1
  have h9 := k H1 locs ls (k1 + 1) (n1 + i.toNatClampNeg) (h1.push e9 z1 o1 q3 q4) h2 h3 (by rw [List.length_append, List.length_singleton]; omega) (by rw [hz, hN]; omega)
  have e8 : sts G (.ref a :: st) = .ref H.size :: sts G st := by
    show Value.ref (adr G a) :: sts G st = _
    rw [hsz, ha]
    unfold adr
    rw [if_pos (by omega)]
  rw [e8] at h9
  exact h9
theorem w_cloneI {G : Gt} {X : Xt} {b : ByteArray} {nL : Nat} {C : String} {T : Tt} {d : Nat} {lv : List (Nat × Value)} {st : List Value} {sh : List Shp} {r : Rf} {u : Mem} {a n ix : Nat} (pc : Nat) (hX : CxOk G X b nL C T d) (hs : sh[a]? = some (.inl n)) (w1 : Cond.methodLink C ix ⟨"[I", "clone", "()Ljava/lang/Object;"⟩ ∈ TW) (w2 : (Cond.sameMethod "[I" "java/lang/Object" "clone" "()Ljava/lang/Object;") ∈ TW) (w3 : (Cond.native ⟨"java/lang/Object", "clone", "()Ljava/lang/Object;"⟩) ∈ TW) (w4 : (Cond.instanceMethod ⟨"java/lang/Object", "clone", "()Ljava/lang/Object;"⟩) ∈ TW) (w5 : (Cond.selects "[I" ⟨"[I", "clone", "()Ljava/lang/Object;"⟩ ⟨"java/lang/Object", "clone", "()Ljava/lang/Object;"⟩) ∈ TW) (w6 : Cond.castable "[I" "java/lang/Cloneable" ∈ NW) (hd1 : 1 ≤ d) (hcat : (st.map fun v => v.category).sum ≤ 8) (q1 : (sh ++ [.inl n] : List Shp).length ≤ T.2.1.length) (q2 : ssum (sh ++ [.inl n]) ≤ ssum T.2.1) (q3 : sh.length + 1 ≤ 590000) (q4 : ssum sh + ssz (.inl n) ≤ 7080000) (hu : u sh.length = u a) (hd : decode b pc = .ok (.invokevirtual ix, 3)) (k : WM G X (pc + 3) lv (.ref sh.length :: st) (sh ++ [.inl n]) r u) : WM G X pc lv (.ref a :: st) sh r u := by
  obtain ⟨p, e, R, s, m, args, below, meth, c, Q, nL', c0, n0⟩ := X
  intro H locs ls k1 n1 h1 h2 h3 h4 h5
  obtain ⟨x1, x2, x3, x4, x5, x6, x7, x8, x9, x10, x11, x12⟩ := hX
  have hz := ssum_push sh (.inl n)
  have hN : ssz (.inl n) = n := rfl
  rw [hz, hN] at q2
  rw [List.length_append, List.length_singleton] at q1
  have hsz0 := h1.2.1
  have h9 := sts_cat G st
  have hc : H[gN G + a]? = some (vp_cell (gI G) (n, .inl (u a))) := h1.1 a _ hs
  have hnm : s.vm.findClass "[I" = some (gI G) := (x6.1.2 0 _ rfl).2
  obtain ⟨c9, t9, f1, f2, f3⟩ := Cond.castable_spec (va_Nw.use (A := args) rfl (x6.2.1 _ w6))
  cases hnm.symm.trans f1
  have hsz : (vp_cell (gI G) (n, .inl (u a))).slots.size = n := arrV_size _ _ _
  show W p (gL G) e R s m args below meth c H locs k1 n1 Q (F0 m pc ls (.ref (adr G a) :: sts G st))
  rw [h1.adr0 hs]
  intro T' hT X
  have hcellT : T'.heap[gN G + a]? = some (vp_cell (gI G) (n, .inl (u a))) := by rw [hT]; exact hc
  obtain ⟨-, kA, hkA, comp, hkind⟩ := State.isArrayOf_alike X.warmed.alike ((x6.1.2 0 _ rfl).1 0 (fun _ => .null))
  obtain ⟨-, kS, hkS, compS, hkindS⟩ := (x6.1.2 0 _ rfl).1 0 (fun _ => .null)
  obtain ⟨vm', X', st9⟩ := X.cloneArray x1 x4 (x5 _ w1) (x5 _ w2) (x5 _ w3) (x5 _ w4) (x5 _ w5) (a := gN G + a) (cell := vp_cell (gI G) (n, .inl (u a))) hcellT (fun k h => by cases h) (fun h => by cases h) hnm f2 f3
    (fun i v hv => by
      have hi : i < n := by
        have := (Array.getElem?_eq_some_iff.mp hv).1
        rwa [hsz] at this
      have hv2 : v = .int (u a i) := by
        have e : (vp_cell (gI G) (n, .inl (u a))).slots[i]? = some (.int (u a i)) := arrV_read _ _ hi
        exact Option.some.inj (hv.symm.trans e)
      subst hv2
      have hk' : T'.vm.classes[(vp_cell (gI G) (n, .inl (u a))).cls]? = some kA := hkA
      have h0 : fits .int (.int (u a i)) = true := by
        rfl
      simpa [State.fitsSlot, State.slotType?, hk', hkind] using h0)
    (g := F0 m pc ls (.ref (gN G + a) :: sts G st)) rfl (by show ls.size = c.maxLocals; rw [h3.1, x7, x3]) rfl (by rw [x2]; exact hd) (by omega) (by show 2 * 0 + _ + 14 ≤ _; rw [h9]; omega) (by omega) (by rw [hsz]; omega) (hloader := Vm.clonesLoader_of_array hkS hkindS)
  rw [hsz] at X'
  have hcellE : ({ cls := (vp_cell (gI G) (n, .inl (u a))).cls, slots := (vp_cell (gI G) (n, .inl (u a))).slots } : Cell) = vp_cell (gI G) (n, .inl (u a)) := rfl
  rw [hcellE] at X'
  generalize hH1 : H.push (vp_cell (gI G) (n, .inl (u a))) = H1
  have z1 : H1.size = H.size + 1 := by rw [← hH1, Array.size_push]
  have e1 : H1[H.size]? = some (vp_cell (gI G) (n, .inl (u a))) := by rw [← hH1, Array.getElem?_push_size]
  have o1 : ∀ q : Nat, q < H.size → H1[q]? = H[q]? := fun q hq => by rw [← hH1, Array.getElem?_push, if_neg (Nat.ne_of_lt hq)]
  have e9 : va_at (gD G) vwCl (gN G + sh.length, cellv G (.inl n) (r sh.length) (u sh.length)) H1 := by
    rw [hu, ← hsz0]
    exact e1
  obtain ⟨t, b1, b2⟩ := k H1 locs ls (k1 + 1) (n1 + n) (h1.push e9 z1 o1 q3 q4) h2 h3 (by rw [List.length_append, List.length_singleton]; omega) (by rw [hz, hN]; omega) ((T'.setVm vm').pushCell (vp_cell (gI G) (n, .inl (u a)))) (by rw [← hH1, ← hT]; rfl) X'
  refine ⟨t, st9 t ?_, b2⟩
  have e8 : sts G (.ref sh.length :: st) = .ref H.size :: sts G st := by
    show Value.ref (adr G sh.length) :: sts G st = _
    rw [hsz0]
    unfold adr
    rw [if_pos (by omega)]
  rw [e8] at b1
  rw [hT]
  exact b1
theorem w_cloneB {G : Gt} {X : Xt} {b : ByteArray} {nL : Nat} {C : String} {T : Tt} {d : Nat} {lv : List (Nat × Value)} {st : List Value} {sh : List Shp} {r : Rf} {u : Mem} {a n ix : Nat} (pc : Nat) (hX : CxOk G X b nL C T d) (hs : sh[a]? = some (.inr (.inr (3, n)))) (hfit : ∀ j, j < n → (-128 ≤ u a j ∧ u a j ≤ 127)) (w1 : Cond.methodLink C ix ⟨"[B", "clone", "()Ljava/lang/Object;"⟩ ∈ TW) (w2 : (Cond.sameMethod "[B" "java/lang/Object" "clone" "()Ljava/lang/Object;") ∈ TW) (w3 : (Cond.native ⟨"java/lang/Object", "clone", "()Ljava/lang/Object;"⟩) ∈ TW) (w4 : (Cond.instanceMethod ⟨"java/lang/Object", "clone", "()Ljava/lang/Object;"⟩) ∈ TW) (w5 : (Cond.selects "[B" ⟨"[B", "clone", "()Ljava/lang/Object;"⟩ ⟨"java/lang/Object", "clone", "()Ljava/lang/Object;"⟩) ∈ TW) (w6 : Cond.castable "[B" "java/lang/Cloneable" ∈ NW) (hd1 : 1 ≤ d) (hcat : (st.map fun v => v.category).sum ≤ 8) (q1 : (sh ++ [.inr (.inr (3, n))] : List Shp).length ≤ T.2.1.length) (q2 : ssum (sh ++ [.inr (.inr (3, n))]) ≤ ssum T.2.1) (q3 : sh.length + 1 ≤ 590000) (q4 : ssum sh + ssz (.inr (.inr (3, n))) ≤ 7080000) (hu : u sh.length = u a) (hd : decode b pc = .ok (.invokevirtual ix, 3)) (k : WM G X (pc + 3) lv (.ref sh.length :: st) (sh ++ [.inr (.inr (3, n))]) r u) : WM G X pc lv (.ref a :: st) sh r u := by
  obtain ⟨p, e, R, s, m, args, below, meth, c, Q, nL', c0, n0⟩ := X
  intro H locs ls k1 n1 h1 h2 h3 h4 h5
  obtain ⟨x1, x2, x3, x4, x5, x6, x7, x8, x9, x10, x11, x12⟩ := hX
  have hz := ssum_push sh (.inr (.inr (3, n)))
  have hN : ssz (.inr (.inr (3, n))) = n := rfl
  rw [hz, hN] at q2
  rw [List.length_append, List.length_singleton] at q1
  have hsz0 := h1.2.1
  have h9 := sts_cat G st
  have hc : H[gN G + a]? = some (vp_cell ((gQ G).2.2) (n, .inl (u a))) := h1.1 a _ hs
  have hnm : s.vm.findClass "[B" = some ((gQ G).2.2) := (x6.1.2 4 _ rfl).2
  obtain ⟨c9, t9, f1, f2, f3⟩ := Cond.castable_spec (va_Nw.use (A := args) rfl (x6.2.1 _ w6))
  cases hnm.symm.trans f1
  have hsz : (vp_cell ((gQ G).2.2) (n, .inl (u a))).slots.size = n := arrV_size _ _ _
  show W p (gL G) e R s m args below meth c H locs k1 n1 Q (F0 m pc ls (.ref (adr G a) :: sts G st))
  rw [h1.adr0 hs]
  intro T' hT X
  have hcellT : T'.heap[gN G + a]? = some (vp_cell ((gQ G).2.2) (n, .inl (u a))) := by rw [hT]; exact hc
  obtain ⟨-, kA, hkA, comp, hkind⟩ := State.isArrayOf_alike X.warmed.alike ((x6.1.2 4 _ rfl).1 0 (fun _ => .null))
  obtain ⟨-, kS, hkS, compS, hkindS⟩ := (x6.1.2 4 _ rfl).1 0 (fun _ => .null)
  obtain ⟨vm', X', st9⟩ := X.cloneArray x1 x4 (x5 _ w1) (x5 _ w2) (x5 _ w3) (x5 _ w4) (x5 _ w5) (a := gN G + a) (cell := vp_cell ((gQ G).2.2) (n, .inl (u a))) hcellT (fun k h => by cases h) (fun h => by cases h) hnm f2 f3
    (fun i v hv => by
      have hi : i < n := by
        have := (Array.getElem?_eq_some_iff.mp hv).1
        rwa [hsz] at this
      have hv2 : v = .int (u a i) := by
        have e : (vp_cell ((gQ G).2.2) (n, .inl (u a))).slots[i]? = some (.int (u a i)) := arrV_read _ _ hi
        exact Option.some.inj (hv.symm.trans e)
      subst hv2
      have hk' : T'.vm.classes[(vp_cell ((gQ G).2.2) (n, .inl (u a))).cls]? = some kA := hkA
      have h0 : fits .byte (.int (u a i)) = true := by
        simp [fits, hfit i hi]
      simpa [State.fitsSlot, State.slotType?, hk', hkind] using h0)
    (g := F0 m pc ls (.ref (gN G + a) :: sts G st)) rfl (by show ls.size = c.maxLocals; rw [h3.1, x7, x3]) rfl (by rw [x2]; exact hd) (by omega) (by show 2 * 0 + _ + 14 ≤ _; rw [h9]; omega) (by omega) (by rw [hsz]; omega) (hloader := Vm.clonesLoader_of_array hkS hkindS)
  rw [hsz] at X'
  have hcellE : ({ cls := (vp_cell ((gQ G).2.2) (n, .inl (u a))).cls, slots := (vp_cell ((gQ G).2.2) (n, .inl (u a))).slots } : Cell) = vp_cell ((gQ G).2.2) (n, .inl (u a)) := rfl
  rw [hcellE] at X'
  generalize hH1 : H.push (vp_cell ((gQ G).2.2) (n, .inl (u a))) = H1
  have z1 : H1.size = H.size + 1 := by rw [← hH1, Array.size_push]
  have e1 : H1[H.size]? = some (vp_cell ((gQ G).2.2) (n, .inl (u a))) := by rw [← hH1, Array.getElem?_push_size]
  have o1 : ∀ q : Nat, q < H.size → H1[q]? = H[q]? := fun q hq => by rw [← hH1, Array.getElem?_push, if_neg (Nat.ne_of_lt hq)]
  have e9 : va_at (gD G) vwCl (gN G + sh.length, cellv G (.inr (.inr (3, n))) (r sh.length) (u sh.length)) H1 := by
    rw [hu, ← hsz0]
    exact e1
  obtain ⟨t, b1, b2⟩ := k H1 locs ls (k1 + 1) (n1 + n) (h1.push e9 z1 o1 q3 q4) h2 h3 (by rw [List.length_append, List.length_singleton]; omega) (by rw [hz, hN]; omega) ((T'.setVm vm').pushCell (vp_cell ((gQ G).2.2) (n, .inl (u a)))) (by rw [← hH1, ← hT]; rfl) X'
  refine ⟨t, st9 t ?_, b2⟩
  have e8 : sts G (.ref sh.length :: st) = .ref H.size :: sts G st := by
    show Value.ref (adr G sh.length) :: sts G st = _
    rw [hsz0]
    unfold adr
    rw [if_pos (by omega)]
  rw [e8] at b1
  rw [hT]
  exact b1
theorem w_castI {G : Gt} {X : Xt} {b : ByteArray} {nL : Nat} {C : String} {T : Tt} {d : Nat} {lv : List (Nat × Value)} {st : List Value} {sh : List Shp} {r : Rf} {u : Mem} {a n ix : Nat} (pc : Nat) (hX : CxOk G X b nL C T d) (hs : sh[a]? = some (.inl n)) (w1 : Cond.classLink C ix "[I" ∈ TW) (hd : decode b pc = .ok (.checkcast ix, 3)) (k : WM G X (pc + 3) lv (.ref a :: st) sh r u) : WM G X pc lv (.ref a :: st) sh r u := by
  obtain ⟨p, e, R, s, m, args, below, meth, c, Q, nL', c0, n0⟩ := X
  intro H locs ls k1 n1 h1 h2 h3 h4 h5
  obtain ⟨x1, x2, x3, x4, x5, x6, x7, x8, x9, x10, x11, x12⟩ := hX
  have hP := vaP1 (h1.1 a _ hs)
  have hnm : s.vm.findClass "[I" = some (gI G) := (x6.1.2 0 _ rfl).2
  have hk : W p (gL G) e R s m args below meth c H locs k1 n1 Q (F0 m (pc + 3) ls (.ref (adr G a) :: sts G st)) := k H locs ls k1 n1 h1 h2 h3 h4 h5
  show W p (gL G) e R s m args below meth c H locs k1 n1 Q (F0 m pc ls (.ref (adr G a) :: sts G st))
  rw [h1.adr0 hs] at hk ⊢
  exact va_castA x1 x2 x4 (x5 _ w1) hP 0 rfl hnm hd hk
theorem w_castB {G : Gt} {X : Xt} {b : ByteArray} {nL : Nat} {C : String} {T : Tt} {d : Nat} {lv : List (Nat × Value)} {st : List Value} {sh : List Shp} {r : Rf} {u : Mem} {a n ix : Nat} (pc : Nat) (hX : CxOk G X b nL C T d) (hs : sh[a]? = some (.inr (.inr (3, n)))) (w1 : Cond.classLink C ix "[B" ∈ TW) (hd : decode b pc = .ok (.checkcast ix, 3)) (k : WM G X (pc + 3) lv (.ref a :: st) sh r u) : WM G X pc lv (.ref a :: st) sh r u := by
  obtain ⟨p, e, R, s, m, args, below, meth, c, Q, nL', c0, n0⟩ := X
  intro H locs ls k1 n1 h1 h2 h3 h4 h5
  obtain ⟨x1, x2, x3, x4, x5, x6, x7, x8, x9, x10, x11, x12⟩ := hX
  have hP := vaP1 (h1.1 a _ hs)
  have hnm : s.vm.findClass "[B" = some ((gQ G).2.2) := (x6.1.2 4 _ rfl).2
  have hk : W p (gL G) e R s m args below meth c H locs k1 n1 Q (F0 m (pc + 3) ls (.ref (adr G a) :: sts G st)) := k H locs ls k1 n1 h1 h2 h3 h4 h5
  show W p (gL G) e R s m args below meth c H locs k1 n1 Q (F0 m pc ls (.ref (adr G a) :: sts G st))
  rw [h1.adr0 hs] at hk ⊢
  exact va_castA x1 x2 x4 (x5 _ w1) hP 0 rfl hnm hd hk
theorem x_newB {G : Gt} {X : Xt} {b : ByteArray} {nL : Nat} {C : String} {T : Tt} {d : Nat} {lv : List (Nat × Value)} {st : List Value} {w : Wd} {a : Nat} {i : Int32} {w1 : Wd} (pc : Nat) (hX : CxOk G X b nL C T d) (g : (dnew (nwA 3 i)).1 w = some (a, w1)) (w1_ : Cond.arrayClass .byte ∈ TW) (q : Le w1 (T.2.1, T.2.2.1, T.2.2.2)) (hd : decode b pc = .ok (.newarray .byte, 2)) (k : WM G X (pc + 2) lv (.ref a :: st) w1.1 w1.2.1 w1.2.2) : WM G X pc lv (.int i :: st) w.1 w.2.1 w.2.2 := by
  replace g := dnw_inv g
  obtain ⟨q0, g, rfl, b1, b2, rfl⟩ := g
  unfold nwA at g
  by_cases c : i < 0
  · rw [if_pos c] at g; cases g
  · rw [if_neg c] at g
    cases g
    have b2' : ssum w.1 + i.toNatClampNeg ≤ 7080000 := b2
    exact wm_new (fun _ => none) (fun _ => 0) (w_newb _ pc hX rfl (fresh0 _ _ _) c rfl (by omega) w1_ q.1 q.2 b1 b2 hd k)
theorem x_newW {G : Gt} {X : Xt} {b : ByteArray} {nL : Nat} {C : String} {T : Tt} {d : Nat} {lv : List (Nat × Value)} {st : List Value} {w : Wd} {a ix : Nat} {i : Int32} {w1 : Wd} (pc : Nat) (hX : CxOk G X b nL C T d) (g : (dnew (nwA 1 i)).1 w = some (a, w1)) (w1_ : Cond.classLink C ix "OldestDownLaw$War" ∈ TW) (q : Le w1 (T.2.1, T.2.2.1, T.2.2.2)) (hd : decode b pc = .ok (.anewarray ix, 3)) (k : WM G X (pc + 3) lv (.ref a :: st) w1.1 w1.2.1 w1.2.2) : WM G X pc lv (.int i :: st) w.1 w.2.1 w.2.2 := by
  replace g := dnw_inv g
  obtain ⟨q0, g, rfl, b1, b2, rfl⟩ := g
  unfold nwA at g
  by_cases c : i < 0
  · rw [if_pos c] at g; cases g
  · rw [if_neg c] at g
    cases g
    have b2' : ssum w.1 + i.toNatClampNeg ≤ 7080000 := b2
    exact wm_new (fun _ => none) (fun _ => 0) (w_newq1 _ pc hX rfl (fresh0 _ _ _) c rfl (by omega) w1_ q.1 q.2 b1 b2 hd k)
theorem x_newR {G : Gt} {X : Xt} {b : ByteArray} {nL : Nat} {C : String} {T : Tt} {d : Nat} {lv : List (Nat × Value)} {st : List Value} {w : Wd} {a ix : Nat} {i : Int32} {w1 : Wd} (pc : Nat) (hX : CxOk G X b nL C T d) (g : (dnew (nwA 2 i)).1 w = some (a, w1)) (w1_ : Cond.classLink C ix (FieldType.array .int).toString ∈ TW) (q : Le w1 (T.2.1, T.2.2.1, T.2.2.2)) (hd : decode b pc = .ok (.anewarray ix, 3)) (k : WM G X (pc + 3) lv (.ref a :: st) w1.1 w1.2.1 w1.2.2) : WM G X pc lv (.int i :: st) w.1 w.2.1 w.2.2 := by
  replace g := dnw_inv g
  obtain ⟨q0, g, rfl, b1, b2, rfl⟩ := g
  unfold nwA at g
  by_cases c : i < 0
  · rw [if_pos c] at g; cases g
  · rw [if_neg c] at g
    cases g
    have b2' : ssum w.1 + i.toNatClampNeg ≤ 7080000 := b2
    exact wm_new (fun _ => none) (fun _ => 0) (w_newq2 _ pc hX rfl (fresh0 _ _ _) c rfl (by omega) w1_ q.1 q.2 b1 b2 hd k)
theorem x_cloneI {G : Gt} {X : Xt} {b : ByteArray} {nL : Nat} {C : String} {T : Tt} {d : Nat} {lv : List (Nat × Value)} {st : List Value} {w : Wd} {a z ix : Nat} {w1 : Wd} (pc : Nat) (hX : CxOk G X b nL C T d) (g : (dnew (nwCI a)).1 w = some (z, w1)) (w1_ : Cond.methodLink C ix ⟨"[I", "clone", "()Ljava/lang/Object;"⟩ ∈ TW) (w2 : (Cond.sameMethod "[I" "java/lang/Object" "clone" "()Ljava/lang/Object;") ∈ TW) (w3 : (Cond.native ⟨"java/lang/Object", "clone", "()Ljava/lang/Object;"⟩) ∈ TW) (w4 : (Cond.instanceMethod ⟨"java/lang/Object", "clone", "()Ljava/lang/Object;"⟩) ∈ TW) (w5 : (Cond.selects "[I" ⟨"[I", "clone", "()Ljava/lang/Object;"⟩ ⟨"java/lang/Object", "clone", "()Ljava/lang/Object;"⟩) ∈ TW) (w6 : Cond.castable "[I" "java/lang/Cloneable" ∈ NW) (hd1 : 1 ≤ d) (hcat : (st.map fun v => v.category).sum ≤ 8) (q : Le w1 (T.2.1, T.2.2.1, T.2.2.2)) (hd : decode b pc = .ok (.invokevirtual ix, 3)) (k : WM G X (pc + 3) lv (.ref z :: st) w1.1 w1.2.1 w1.2.2) : WM G X pc lv (.ref a :: st) w.1 w.2.1 w.2.2 := by
  replace g := dnw_inv g
  obtain ⟨q0, g, rfl, b1, b2, rfl⟩ := g
  unfold nwCI at g
  cases e : w.1[a]? with
  | none => rw [e] at g; cases g
  | some s =>
    have hlt : a < w.1.length := (List.getElem?_eq_some_iff.mp e).1
    rw [e] at g
    rcases s with n | ci | ⟨κ, n⟩
    · cases g
      exact wm_new (fun _ => none) (w.2.2 a) (w_cloneI pc hX e w1_ w2 w3 w4 w5 w6 hd1 hcat q.1 q.2 b1 b2 (by rw [mset_at, mset_ne _ _ (Nat.ne_of_lt hlt)]) hd k)
    · cases g
    · cases g
theorem x_cloneB {G : Gt} {X : Xt} {b : ByteArray} {nL : Nat} {C : String} {T : Tt} {d : Nat} {lv : List (Nat × Value)} {st : List Value} {w : Wd} {a z ix : Nat} {w1 : Wd} (pc : Nat) (hX : CxOk G X b nL C T d) (g : (dnew (nwCB a)).1 w = some (z, w1)) (w1_ : Cond.methodLink C ix ⟨"[B", "clone", "()Ljava/lang/Object;"⟩ ∈ TW) (w2 : (Cond.sameMethod "[B" "java/lang/Object" "clone" "()Ljava/lang/Object;") ∈ TW) (w3 : (Cond.native ⟨"java/lang/Object", "clone", "()Ljava/lang/Object;"⟩) ∈ TW) (w4 : (Cond.instanceMethod ⟨"java/lang/Object", "clone", "()Ljava/lang/Object;"⟩) ∈ TW) (w5 : (Cond.selects "[B" ⟨"[B", "clone", "()Ljava/lang/Object;"⟩ ⟨"java/lang/Object", "clone", "()Ljava/lang/Object;"⟩) ∈ TW) (w6 : Cond.castable "[B" "java/lang/Cloneable" ∈ NW) (hd1 : 1 ≤ d) (hcat : (st.map fun v => v.category).sum ≤ 8) (q : Le w1 (T.2.1, T.2.2.1, T.2.2.2)) (hd : decode b pc = .ok (.invokevirtual ix, 3)) (k : WM G X (pc + 3) lv (.ref z :: st) w1.1 w1.2.1 w1.2.2) : WM G X pc lv (.ref a :: st) w.1 w.2.1 w.2.2 := by
  replace g := dnw_inv g
  obtain ⟨q0, g, rfl, b1, b2, rfl⟩ := g
  unfold nwCB at g
  cases e : w.1[a]? with
  | none => rw [e] at g; cases g
  | some s =>
    have hlt : a < w.1.length := (List.getElem?_eq_some_iff.mp e).1
    rw [e] at g
    rcases s with n | ci | ⟨κ, n⟩
    · cases g
    · cases g
    · match κ, e, g with
      | 0, e, g => cases g
      | 1, e, g => cases g
      | 2, e, g => cases g
      | κ + 4, e, g => cases g
      | 3, e, g =>
        by_cases c : ∀ j, j < n → (-128 ≤ w.2.2 a j ∧ w.2.2 a j ≤ 127)
        · have g := (if_pos c).symm.trans g
          cases g
          exact wm_new (fun _ => none) (w.2.2 a) (w_cloneB pc hX e (by rw [mset_ne _ _ (Nat.ne_of_lt hlt)]; exact c) w1_ w2 w3 w4 w5 w6 hd1 hcat q.1 q.2 b1 b2 (by rw [mset_at, mset_ne _ _ (Nat.ne_of_lt hlt)]) hd k)
        · have g := (if_neg c).symm.trans g
          cases g
def isI (a : Nat) (w : Wd) : Option Unit := match w.1[a]? with
  | some (.inl _) => some ()
  | _ => none
def isBy (a : Nat) (w : Wd) : Option Unit := match w.1[a]? with
  | some (.inr (.inr (3, _))) => some ()
  | _ => none
theorem x_castI {G : Gt} {X : Xt} {b : ByteArray} {nL : Nat} {C : String} {T : Tt} {d : Nat} {lv : List (Nat × Value)} {st : List Value} {w : Wd} {a ix : Nat} {z : Unit} (pc : Nat) (hX : CxOk G X b nL C T d) (g : isI a w = some z) (w1_ : Cond.classLink C ix "[I" ∈ TW) (hd : decode b pc = .ok (.checkcast ix, 3)) (k : WM G X (pc + 3) lv (.ref a :: st) w.1 w.2.1 w.2.2) : WM G X pc lv (.ref a :: st) w.1 w.2.1 w.2.2 := by
  unfold isI at g
  cases e : w.1[a]? with
  | none => rw [e] at g; cases g
  | some s =>
    rw [e] at g
    rcases s with n | ci | q
    · exact w_castI pc hX e w1_ hd k
    · cases g
    · cases g
theorem x_castB {G : Gt} {X : Xt} {b : ByteArray} {nL : Nat} {C : String} {T : Tt} {d : Nat} {lv : List (Nat × Value)} {st : List Value} {w : Wd} {a ix : Nat} {z : Unit} (pc : Nat) (hX : CxOk G X b nL C T d) (g : isBy a w = some z) (w1_ : Cond.classLink C ix "[B" ∈ TW) (hd : decode b pc = .ok (.checkcast ix, 3)) (k : WM G X (pc + 3) lv (.ref a :: st) w.1 w.2.1 w.2.2) : WM G X pc lv (.ref a :: st) w.1 w.2.1 w.2.2 := by
  unfold isBy at g
  cases e : w.1[a]? with
  | none => rw [e] at g; cases g
  | some s =>
    rw [e] at g
    rcases s with n | ci | ⟨κ, n⟩
    · cases g
    · cases g
    · match κ, e, g with
      | 0, e, g => cases g
      | 1, e, g => cases g
      | 2, e, g => cases g
      | 3, e, g => exact w_castB pc hX e w1_ hd k
      | κ + 4, e, g => cases g
