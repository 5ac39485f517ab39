theorem pc_blind {G : Gt} {av : List Value} {sh : List Shp} {r : Rf} {u : Mem} : FrameBlind (fun a U => a = (sts G av).toArray ∧ RepU G sh r u U) := fun _ U _ _ h => ⟨h.1, h.2.1, RepW.same (u := U) rfl h.2.2⟩
/-- behind a call -/
theorem w_after {G : Gt} {lv : List (Nat × Value)} {st st0 : List Value} {p : Program} {e : Env} {R : Room} {s : State} {m : MethodId} {args : Array Value} {below : List Frame} {meth : Method} {c : Code} {Q : State → Prop} {nL c0 n0 : Nat} {H : Heap} {locs : List Loc} {ls : Array Slot} {k n mc ms pc : Nat} {T : Tt} {a : Array Value}
    (hr : va_Run p (gL G) e R s m args below meth c H locs k n mc ms (F0 m pc ls st0) (sts G st) (QcG G T a) (gA G)) (h2 : ∀ q ∈ locs, gA G q.base) (h3 : lv_has ls nL (lvs G lv)) (h4 : k + mc + c0 = T.2.1.length) (h5 : n + ms + n0 = ssum T.2.1)
    (kk : WM G (p, e, R, s, m, args, below, meth, c, Q, nL, c0, n0) (pc + 3) lv (T.1.toList ++ st) T.2.1 T.2.2.1 T.2.2.2) : W p (gL G) e R s m args below meth c H locs k n Q (F0 m pc ls st0) := by
  intro U hU X
  obtain ⟨v, st₀, t, T', L, h0, X', hL, e1, e2, ⟨hv, hRep⟩, go⟩ := hr U hU X
  have hv2 : v = T.1.map (cv G) := by injection hv
  have h6 : RepC G T.2.1 T.2.2.1 T.2.2.2 T'.heap := by rw [e1]; exact hRep.1
  have h7 := kk T'.heap (locs ++ L) ls (k + mc) (n + ms) h6 (fun q hq => by
    rcases List.mem_append.mp hq with h | h
    · exact h2 q h
    · exact hL q h) h3 h4 h5
  obtain ⟨t2, a1, b1⟩ := h7 T' rfl X'
  refine ⟨t2, go t2 ?_, b1⟩
  have e9 : v.toList ++ sts G st = sts G (T.1.toList ++ st) := by
    rw [hv2]
    cases T.1 <;> rfl
  show Steps _ _ _ (T'.setTop { F0 m pc ls st0 with pc := pc + 3, stack := v.toList ++ sts G st }) t2
  rw [e9]
  exact a1
theorem sts_rev (G : Gt) (av : List Value) (v : Value) (st : List Value) : sts G (av.reverse ++ v :: st) = (sts G av).reverse ++ cv G v :: sts G st := by simp [sts]
theorem sts_revS (G : Gt) (av : List Value) (st : List Value) : sts G (av.reverse ++ st) = (sts G av).reverse ++ sts G st := by simp [sts]
theorem sts_cat (G : Gt) (st : List Value) : ((sts G st).map fun v => v.category).sum = (st.map fun v => v.category).sum := by
  simp [sts, Function.comp_def, cv_cat]
theorem w_recv {G : Gt} {sh : List Shp} {r : Rf} {u : Mem} {H : Heap} {s : State} {a ci N : Nat} {Rn : String} {F : u_T} {ty : Nat → FieldType} (h1 : RepC G sh r u H) (x6 : RepW G s) (hC : CI ci Rn F N ty) (hs : sh[a]? = some (.inr (.inl ci))) : ∃ cell : Cell, H[adr G a]? = some cell ∧ cell.vm.isStatics = false ∧ s.vm.findClass Rn = some cell.cls := by
  rw [h1.adr0 hs]
  exact va_recv x6.1 (vaP1 (h1.1 a _ hs)) hC.1 (q0 := 0) rfl
theorem w_invV {G : Gt} {X : Xt} {b : ByteArray} {nL : Nat} {C : String} {T : Tt} {d : Nat} {lv : List (Nat × Value)} {st : List Value} {sh : List Shp} {r : Rf} {u : Mem} {y : MethodName} {by_ : ByteArray} {ny ix n d2 : Nat} {ry : Option FieldType} {av : List Value} {T2 : Tt} {a ci N : Nat} {Rn : String} {F : u_T} {ty : Nat → FieldType} (pc : Nat) (hX : CxOk G X b nL C T d) (hC : CI ci Rn F N ty) (hs : sh[a]? = some (.inr (.inl ci))) (hcl : y.cls = Rn) (hV : MV y) (hI : MI y by_ ny ry n) (hl : Cond.methodLink C ix y ∈ TW) (hM : CT G y by_ ny ry d2 (.ref a :: av) sh r u T2) (hn : av.length = n) (hd2 : d2 + 1 ≤ d) (hcat : (st.map fun v => v.category).sum ≤ 8) (q1 : T2.2.1.length ≤ T.2.1.length) (q2 : ssum T2.2.1 ≤ ssum T.2.1) (hd : decode b pc = .ok (.invokevirtual ix, 3)) (k : WM G X (pc + 3) lv (T2.1.toList ++ st) T2.2.1 T2.2.2.1 T2.2.2.2) : WM G X pc lv (av.reverse ++ .ref a :: st) sh r u := by
  obtain ⟨p, e, R, s, m, args, below, meth, c, Q, nL', c0, n0⟩ := X
  intro H locs ls k1 n1 h1 h2 h3 h4 h5
  obtain ⟨x1, x2, x3, x4, x5, x6, x7, x8, x9, x10, x11, x12⟩ := hX
  obtain ⟨m1, m2, hM⟩ := hM
  obtain ⟨i1, i2, ⟨i3, i4, i5⟩, i6⟩ := hI
  have hG : GoodIn TW (Cond.code y by_ ny ry :: TW) := goodIn_tw _ (fun w hw => by
    rcases List.mem_cons.mp hw with rfl | hw
    · exact i1
    · exact hw)
  have hroom : d2 + 1 ≤ R.frames ∧ 8 + (ny + 11) + 60 * d2 ≤ R.locals := ⟨by omega, by omega⟩
  have hcb := callB_of (R := R) (s := s) (args := args) (own := C) (index := ix) (rm := { frames := d2, cells := T2.2.1.length - sh.length, slots := ssum T2.2.1 - ssum sh, locals := 60 * d2 }) n x5 hG rfl rfl rfl (x5 _ i2) (x5 _ hl) ⟨i3, i4, i5⟩ hroom
  have cw := And.intro hcb (And.intro (x5 _ hV.1) (x5 _ hV.2))
  show W p (gL G) e R s m args below meth c H locs k1 n1 Q (F0 m pc ls (sts G (av.reverse ++ .ref a :: st)))
  rw [sts_rev]
  refine w_after (mc := T2.2.1.length - sh.length) (ms := ssum T2.2.1 - ssum sh) (va_runV (As := sts G av) (b := adr G a) (rest := sts G st) ⟨x1, x2, x3, x4, x5⟩ hM cw ⟨pc_blind, by rw [hcl]; exact w_recv h1 x6 hC hs, fun U hU hW => ⟨rfl, by rw [hU]; exact h1, RepW.warm hW x6⟩⟩ rfl (by simp [sts, hn]) (h3.1.trans x7) rfl (lv_room (by rw [sts_cat]; exact hcat)) hd ⟨by omega, by omega⟩) h2 h3 (by omega) (by omega) k
theorem w_invS {G : Gt} {X : Xt} {b : ByteArray} {nL : Nat} {C : String} {T : Tt} {d : Nat} {lv : List (Nat × Value)} {st : List Value} {sh : List Shp} {r : Rf} {u : Mem} {y : MethodName} {by_ : ByteArray} {ny ix n d2 : Nat} {ry : Option FieldType} {av : List Value} {T2 : Tt} (pc : Nat) (hX : CxOk G X b nL C T d) (hst : Cond.static y ∈ TW) (hI : MI y by_ ny ry n) (hl : Cond.methodLink C ix y ∈ TW) (hM : CT G y by_ ny ry d2 av sh r u T2) (hn : av.length = n) (hd2 : d2 + 1 ≤ d) (hcat : (st.map fun v => v.category).sum ≤ 8) (q1 : T2.2.1.length ≤ T.2.1.length) (q2 : ssum T2.2.1 ≤ ssum T.2.1) (hd : decode b pc = .ok (.invokestatic ix, 3)) (k : WM G X (pc + 3) lv (T2.1.toList ++ st) T2.2.1 T2.2.2.1 T2.2.2.2) : WM G X pc lv (av.reverse ++ st) sh r u := by
  obtain ⟨p, e, R, s, m, args, below, meth, c, Q, nL', c0, n0⟩ := X
  intro H locs ls k1 n1 h1 h2 h3 h4 h5
  obtain ⟨x1, x2, x3, x4, x5, x6, x7, x8, x9, x10, x11, x12⟩ := hX
  obtain ⟨m1, m2, hM⟩ := hM
  obtain ⟨i1, i2, ⟨i3, i4, i5⟩, i6⟩ := hI
  have hG : GoodIn TW (Cond.code y by_ ny ry :: TW) := goodIn_tw _ (fun w hw => by
    rcases List.mem_cons.mp hw with rfl | hw
    · exact i1
    · exact hw)
  have hroom : d2 + 1 ≤ R.frames ∧ 8 + (ny + 11) + 60 * d2 ≤ R.locals := ⟨by omega, by omega⟩
  have hcb := callB_of (R := R) (s := s) (args := args) (own := C) (index := ix) (rm := { frames := d2, cells := T2.2.1.length - sh.length, slots := ssum T2.2.1 - ssum sh, locals := 60 * d2 }) n x5 hG rfl rfl rfl (x5 _ i2) (x5 _ hl) ⟨i3, i4, i5⟩ hroom
  have cw := And.intro hcb (x5 _ hst)
  show W p (gL G) e R s m args below meth c H locs k1 n1 Q (F0 m pc ls (sts G (av.reverse ++ st)))
  rw [sts_revS]
  refine w_after (mc := T2.2.1.length - sh.length) (ms := ssum T2.2.1 - ssum sh) (va_runS (As := sts G av) (rest := sts G st) ⟨x1, x2, x3, x4, x5⟩ hM cw ⟨pc_blind, fun U hU hW => ⟨rfl, by rw [hU]; exact h1, RepW.warm hW x6⟩⟩ rfl (by simp [sts, hn]) (h3.1.trans x7) rfl (lv_room (by rw [sts_cat]; exact hcat)) hd ⟨by omega, by omega⟩) h2 h3 (by omega) (by omega) k
theorem w_invSN {G : Gt} {X : Xt} {b : ByteArray} {nL : Nat} {C : String} {T : Tt} {d : Nat} {lv : List (Nat × Value)} {st : List Value} {sh : List Shp} {r : Rf} {u : Mem} {y : MethodName} {by_ : ByteArray} {ny ix n d2 : Nat} {ry : Option FieldType} {av : List Value} {T2 : Tt} {host : String} (pc : Nat) (hX : CxOk G X b nL C T d) (hst : Cond.static y ∈ TW) (hI : MI y by_ ny ry n) (hl : Cond.methodLinkNest C ix y host ∈ NW) (hM : CT G y by_ ny ry d2 av sh r u T2) (hn : av.length = n) (hd2 : d2 + 1 ≤ d) (hcat : (st.map fun v => v.category).sum ≤ 8) (q1 : T2.2.1.length ≤ T.2.1.length) (q2 : ssum T2.2.1 ≤ ssum T.2.1) (hd : decode b pc = .ok (.invokestatic ix, 3)) (k : WM G X (pc + 3) lv (T2.1.toList ++ st) T2.2.1 T2.2.2.1 T2.2.2.2) : WM G X pc lv (av.reverse ++ st) sh r u := by
  obtain ⟨p, e, R, s, m, args, below, meth, c, Q, nL', c0, n0⟩ := X
  intro H locs ls k1 n1 h1 h2 h3 h4 h5
  obtain ⟨x1, x2, x3, x4, x5, x6, x7, x8, x9, x10, x11, x12⟩ := hX
  obtain ⟨m1, m2, hM⟩ := hM
  obtain ⟨i1, i2, ⟨i3, i4, i5⟩, i6⟩ := hI
  have hG : GoodIn TW (Cond.code y by_ ny ry :: TW) := goodIn_tw _ (fun w hw => by
    rcases List.mem_cons.mp hw with rfl | hw
    · exact i1
    · exact hw)
  have hroom : d2 + 1 ≤ R.frames ∧ 8 + (ny + 11) + 60 * d2 ≤ R.locals := ⟨by omega, by omega⟩
  have hcb := va_cnB (R := R) (s := s) (args := args) (own := C) (host := host) (index := ix) (rm := { frames := d2, cells := T2.2.1.length - sh.length, slots := ssum T2.2.1 - ssum sh, locals := 60 * d2 }) n x5 hG rfl rfl rfl (x6.2.1 _ hl) (x5 _ i2) ⟨i3, i4, i5⟩ hroom
  have cw := And.intro hcb (And.intro (x5 _ hst) True.intro)
  show W p (gL G) e R s m args below meth c H locs k1 n1 Q (F0 m pc ls (sts G (av.reverse ++ st)))
  rw [sts_revS]
  refine w_after (mc := T2.2.1.length - sh.length) (ms := ssum T2.2.1 - ssum sh) (va_runSN (As := sts G av) (rest := sts G st) ⟨x1, x2, x3, x4, x5⟩ hM cw ⟨pc_blind, fun U hU hW => ⟨rfl, by rw [hU]; exact h1, RepW.warm hW x6⟩⟩ rfl (by simp [sts, hn]) (h3.1.trans x7) rfl (lv_room (by rw [sts_cat]; exact hcat)) hd ⟨by omega, by omega⟩) h2 h3 (by omega) (by omega) k
theorem w_invI {G : Gt} {X : Xt} {b : ByteArray} {nL : Nat} {C : String} {T : Tt} {d : Nat} {lv : List (Nat × Value)} {st : List Value} {sh : List Shp} {r : Rf} {u : Mem} {y : MethodName} {by_ : ByteArray} {ny ix n d2 : Nat} {av : List Value} {T2 : Tt} {a ci N : Nat} {Rn : String} {F : u_T} {ty : Nat → FieldType} (pc : Nat) (hX : CxOk G X b nL C T d) (hC : CI ci Rn F N ty) (hs : sh[a]? = some (.inr (.inl ci))) (hin : Cond.instanceMethod y ∈ TW) (hnm : y.name = "<init>") (hI : MI y by_ ny none n) (hl : Cond.methodLink C ix y ∈ TW) (hM : CT G y by_ ny none d2 (.ref a :: av) sh r u T2) (hn : av.length = n) (hd2 : d2 + 1 ≤ d) (hcat : (st.map fun v => v.category).sum ≤ 8) (q1 : T2.2.1.length ≤ T.2.1.length) (q2 : ssum T2.2.1 ≤ ssum T.2.1) (hd : decode b pc = .ok (.invokespecial ix, 3)) (k : WM G X (pc + 3) lv (T2.1.toList ++ st) T2.2.1 T2.2.2.1 T2.2.2.2) : WM G X pc lv (av.reverse ++ .ref a :: st) sh r u := by
  obtain ⟨p, e, R, s, m, args, below, meth, c, Q, nL', c0, n0⟩ := X
  intro H locs ls k1 n1 h1 h2 h3 h4 h5
  obtain ⟨x1, x2, x3, x4, x5, x6, x7, x8, x9, x10, x11, x12⟩ := hX
  obtain ⟨m1, m2, hM⟩ := hM
  obtain ⟨i1, i2, ⟨i3, i4, i5⟩, i6⟩ := hI
  have hG : GoodIn TW (Cond.code y by_ ny none :: TW) := goodIn_tw _ (fun w hw => by
    rcases List.mem_cons.mp hw with rfl | hw
    · exact i1
    · exact hw)
  have hroom : d2 + 1 ≤ R.frames ∧ 8 + (ny + 11) + 60 * d2 ≤ R.locals := ⟨by omega, by omega⟩
  have hcb := callB_of (R := R) (s := s) (args := args) (own := C) (index := ix) (rm := { frames := d2, cells := T2.2.1.length - sh.length, slots := ssum T2.2.1 - ssum sh, locals := 60 * d2 }) n x5 hG rfl rfl rfl (x5 _ i2) (x5 _ hl) ⟨i3, i4, i5⟩ hroom
  have cw := And.intro hcb (And.intro hnm (x5 _ hin))
  show W p (gL G) e R s m args below meth c H locs k1 n1 Q (F0 m pc ls (sts G (av.reverse ++ .ref a :: st)))
  rw [sts_rev]
  refine w_after (mc := T2.2.1.length - sh.length) (ms := ssum T2.2.1 - ssum sh) (va_runI (As := sts G av) (b := adr G a) (rest := sts G st) ⟨x1, x2, x3, x4, x5⟩ hM cw ⟨pc_blind, fun U hU hW => ⟨rfl, by rw [hU]; exact h1, RepW.warm hW x6⟩⟩ rfl (by simp [sts, hn]) (h3.1.trans x7) rfl (lv_room (by rw [sts_cat]; exact hcat)) hd ⟨by omega, by omega⟩) h2 h3 (by omega) (by omega) k
theorem w_invIN {G : Gt} {X : Xt} {b : ByteArray} {nL : Nat} {C : String} {T : Tt} {d : Nat} {lv : List (Nat × Value)} {st : List Value} {sh : List Shp} {r : Rf} {u : Mem} {y : MethodName} {by_ : ByteArray} {ny ix n d2 : Nat} {av : List Value} {T2 : Tt} {host : String} {a ci N : Nat} {Rn : String} {F : u_T} {ty : Nat → FieldType} (pc : Nat) (hX : CxOk G X b nL C T d) (hC : CI ci Rn F N ty) (hs : sh[a]? = some (.inr (.inl ci))) (hin : Cond.instanceMethod y ∈ TW) (hnm : y.name = "<init>") (hI : MI y by_ ny none n) (hl : Cond.methodLinkNest C ix y host ∈ NW) (hM : CT G y by_ ny none d2 (.ref a :: av) sh r u T2) (hn : av.length = n) (hd2 : d2 + 1 ≤ d) (hcat : (st.map fun v => v.category).sum ≤ 8) (q1 : T2.2.1.length ≤ T.2.1.length) (q2 : ssum T2.2.1 ≤ ssum T.2.1) (hd : decode b pc = .ok (.invokespecial ix, 3)) (k : WM G X (pc + 3) lv (T2.1.toList ++ st) T2.2.1 T2.2.2.1 T2.2.2.2) : WM G X pc lv (av.reverse ++ .ref a :: st) sh r u := by
  obtain ⟨p, e, R, s, m, args, below, meth, c, Q, nL', c0, n0⟩ := X
  intro H locs ls k1 n1 h1 h2 h3 h4 h5
  obtain ⟨x1, x2, x3, x4, x5, x6, x7, x8, x9, x10, x11, x12⟩ := hX
  obtain ⟨m1, m2, hM⟩ := hM
  obtain ⟨i1, i2, ⟨i3, i4, i5⟩, i6⟩ := hI
  have hG : GoodIn TW (Cond.code y by_ ny none :: TW) := goodIn_tw _ (fun w hw => by
    rcases List.mem_cons.mp hw with rfl | hw
    · exact i1
    · exact hw)
  have hroom : d2 + 1 ≤ R.frames ∧ 8 + (ny + 11) + 60 * d2 ≤ R.locals := ⟨by omega, by omega⟩
  have hcb := va_cnB (R := R) (s := s) (args := args) (own := C) (host := host) (index := ix) (rm := { frames := d2, cells := T2.2.1.length - sh.length, slots := ssum T2.2.1 - ssum sh, locals := 60 * d2 }) n x5 hG rfl rfl rfl (x6.2.1 _ hl) (x5 _ i2) ⟨i3, i4, i5⟩ hroom
  have cw := And.intro hcb (And.intro hnm (x5 _ hin))
  show W p (gL G) e R s m args below meth c H locs k1 n1 Q (F0 m pc ls (sts G (av.reverse ++ .ref a :: st)))
  rw [sts_rev]
  refine w_after (mc := T2.2.1.length - sh.length) (ms := ssum T2.2.1 - ssum sh) (va_runIN (As := sts G av) (b := adr G a) (rest := sts G st) ⟨x1, x2, x3, x4, x5⟩ hM cw ⟨pc_blind, fun U hU hW => ⟨rfl, by rw [hU]; exact h1, RepW.warm hW x6⟩⟩ rfl (by simp [sts, hn]) (h3.1.trans x7) rfl (lv_room (by rw [sts_cat]; exact hcat)) hd ⟨by omega, by omega⟩) h2 h3 (by omega) (by omega) k
theorem w_min {G : Gt} {X : Xt} {b : ByteArray} {nL : Nat} {C : String} {T : Tt} {d : Nat} {lv : List (Nat × Value)} {st : List Value} {sh : List Shp} {r : Rf} {u : Mem} {x y : Int32} {ix : Nat} (pc : Nat) (hX : CxOk G X b nL C T d) (w1 : Cond.methodLink C ix Lib.Math.min.name ∈ TW) (w2 : Cond.static Lib.Math.min.name ∈ TW) (w3 : Cond.initialized "java/lang/Math" ∈ TW) (w4 : Cond.code Lib.Math.min.name Lib.Math.min.code 2 (some .int) ∈ TW) (hd1 : 1 ≤ d) (hcat : (st.map fun v => v.category).sum ≤ 8) (q1 : sh.length ≤ T.2.1.length) (q2 : ssum sh ≤ ssum T.2.1) (hd : decode b pc = .ok (.invokestatic ix, 3)) (k : WM G X (pc + 3) lv (.int (if y < x then y else x) :: st) sh r u) : WM G X pc lv (.int y :: .int x :: st) sh r u := by
  obtain ⟨p, e, R, s, m, args, below, meth, c, Q, nL', c0, n0⟩ := X
  intro H locs ls k1 n1 h1 h2 h3 h4 h5
  obtain ⟨x1, x2, x3, x4, x5, x6, x7, x8, x9, x10, x11, x12⟩ := hX
  exact va_mmin x1 x2 (by rw [x3, h3.1, x7]) x4 (x5 _ w1) (x5 _ w2) (x5 _ w3) (x5 _ w4) (by omega) (by have h9 := sts_cat G st; unfold sts at h9; rw [h9]; omega) (by omega) (by omega) hd (k H locs ls k1 n1 h1 h2 h3 h4 h5)
theorem w_max {G : Gt} {X : Xt} {b : ByteArray} {nL : Nat} {C : String} {T : Tt} {d : Nat} {lv : List (Nat × Value)} {st : List Value} {sh : List Shp} {r : Rf} {u : Mem} {x y : Int32} {ix : Nat} (pc : Nat) (hX : CxOk G X b nL C T d) (w1 : Cond.methodLink C ix Lib.Math.max.name ∈ TW) (w2 : Cond.static Lib.Math.max.name ∈ TW) (w3 : Cond.initialized "java/lang/Math" ∈ TW) (w4 : Cond.code Lib.Math.max.name Lib.Math.max.code 2 (some .int) ∈ TW) (hd1 : 1 ≤ d) (hcat : (st.map fun v => v.category).sum ≤ 8) (q1 : sh.length ≤ T.2.1.length) (q2 : ssum sh ≤ ssum T.2.1) (hd : decode b pc = .ok (.invokestatic ix, 3)) (k : WM G X (pc + 3) lv (.int (if x < y then y else x) :: st) sh r u) : WM G X pc lv (.int y :: .int x :: st) sh r u := by
  obtain ⟨p, e, R, s, m, args, below, meth, c, Q, nL', c0, n0⟩ := X
  intro H locs ls k1 n1 h1 h2 h3 h4 h5
  obtain ⟨x1, x2, x3, x4, x5, x6, x7, x8, x9, x10, x11, x12⟩ := hX
  exact va_mmax x1 x2 (by rw [x3, h3.1, x7]) x4 (x5 _ w1) (x5 _ w2) (x5 _ w3) (x5 _ w4) (by omega) (by have h9 := sts_cat G st; unfold sts at h9; rw [h9]; omega) (by omega) (by omega) hd (k H locs ls k1 n1 h1 h2 h3 h4 h5)
theorem w_invVi {G : Gt} {X : Xt} {b : ByteArray} {nL : Nat} {C : String} {T : Tt} {d : Nat} {lv : List (Nat × Value)} {st : List Value} {sh : List Shp} {r : Rf} {u : Mem} {y : MethodName} {by_ : ByteArray} {ny ix n d2 : Nat} {ry : Option FieldType} {av : List Value} {sh2 : List Shp} {r2 : Rf} {u2 : Mem} {x : Int32} {a ci N : Nat} {Rn : String} {F : u_T} {ty : Nat → FieldType} (pc : Nat) (hX : CxOk G X b nL C T d) (hC : CI ci Rn F N ty) (hs : sh[a]? = some (.inr (.inl ci))) (hcl : y.cls = Rn) (hV : MV y) (hI : MI y by_ ny ry n) (hl : Cond.methodLink C ix y ∈ TW) (hM : CT G y by_ ny ry d2 (.ref a :: av) sh r u ((some (.int x)), sh2, r2, u2)) (hn : av.length = n) (hd2 : d2 + 1 ≤ d) (hcat : (st.map fun v => v.category).sum ≤ 8) (q1 : sh2.length ≤ T.2.1.length) (q2 : ssum sh2 ≤ ssum T.2.1) (hd : decode b pc = .ok (.invokevirtual ix, 3)) (k : WM G X (pc + 3) lv (.int x :: st) sh2 r2 u2) : WM G X pc lv (av.reverse ++ .ref a :: st) sh r u := w_invV pc hX hC hs hcl hV hI hl hM hn hd2 hcat q1 q2 hd k
theorem w_invVv {G : Gt} {X : Xt} {b : ByteArray} {nL : Nat} {C : String} {T : Tt} {d : Nat} {lv : List (Nat × Value)} {st : List Value} {sh : List Shp} {r : Rf} {u : Mem} {y : MethodName} {by_ : ByteArray} {ny ix n d2 : Nat} {ry : Option FieldType} {av : List Value} {sh2 : List Shp} {r2 : Rf} {u2 : Mem} {a ci N : Nat} {Rn : String} {F : u_T} {ty : Nat → FieldType} (pc : Nat) (hX : CxOk G X b nL C T d) (hC : CI ci Rn F N ty) (hs : sh[a]? = some (.inr (.inl ci))) (hcl : y.cls = Rn) (hV : MV y) (hI : MI y by_ ny ry n) (hl : Cond.methodLink C ix y ∈ TW) (hM : CT G y by_ ny ry d2 (.ref a :: av) sh r u (none, sh2, r2, u2)) (hn : av.length = n) (hd2 : d2 + 1 ≤ d) (hcat : (st.map fun v => v.category).sum ≤ 8) (q1 : sh2.length ≤ T.2.1.length) (q2 : ssum sh2 ≤ ssum T.2.1) (hd : decode b pc = .ok (.invokevirtual ix, 3)) (k : WM G X (pc + 3) lv st sh2 r2 u2) : WM G X pc lv (av.reverse ++ .ref a :: st) sh r u := w_invV pc hX hC hs hcl hV hI hl hM hn hd2 hcat q1 q2 hd k
theorem w_invVr {G : Gt} {X : Xt} {b : ByteArray} {nL : Nat} {C : String} {T : Tt} {d : Nat} {lv : List (Nat × Value)} {st : List Value} {sh : List Shp} {r : Rf} {u : Mem} {y : MethodName} {by_ : ByteArray} {ny ix n d2 : Nat} {ry : Option FieldType} {av : List Value} {sh2 : List Shp} {r2 : Rf} {u2 : Mem} {x : Nat} {a ci N : Nat} {Rn : String} {F : u_T} {ty : Nat → FieldType} (pc : Nat) (hX : CxOk G X b nL C T d) (hC : CI ci Rn F N ty) (hs : sh[a]? = some (.inr (.inl ci))) (hcl : y.cls = Rn) (hV : MV y) (hI : MI y by_ ny ry n) (hl : Cond.methodLink C ix y ∈ TW) (hM : CT G y by_ ny ry d2 (.ref a :: av) sh r u ((some (.ref x)), sh2, r2, u2)) (hn : av.length = n) (hd2 : d2 + 1 ≤ d) (hcat : (st.map fun v => v.category).sum ≤ 8) (q1 : sh2.length ≤ T.2.1.length) (q2 : ssum sh2 ≤ ssum T.2.1) (hd : decode b pc = .ok (.invokevirtual ix, 3)) (k : WM G X (pc + 3) lv (.ref x :: st) sh2 r2 u2) : WM G X pc lv (av.reverse ++ .ref a :: st) sh r u := w_invV pc hX hC hs hcl hV hI hl hM hn hd2 hcat q1 q2 hd k
theorem w_invSi {G : Gt} {X : Xt} {b : ByteArray} {nL : Nat} {C : String} {T : Tt} {d : Nat} {lv : List (Nat × Value)} {st : List Value} {sh : List Shp} {r : Rf} {u : Mem} {y : MethodName} {by_ : ByteArray} {ny ix n d2 : Nat} {ry : Option FieldType} {av : List Value} {sh2 : List Shp} {r2 : Rf} {u2 : Mem} {x : Int32} (pc : Nat) (hX : CxOk G X b nL C T d) (hst : Cond.static y ∈ TW) (hI : MI y by_ ny ry n) (hl : Cond.methodLink C ix y ∈ TW) (hM : CT G y by_ ny ry d2 av sh r u ((some (.int x)), sh2, r2, u2)) (hn : av.length = n) (hd2 : d2 + 1 ≤ d) (hcat : (st.map fun v => v.category).sum ≤ 8) (q1 : sh2.length ≤ T.2.1.length) (q2 : ssum sh2 ≤ ssum T.2.1) (hd : decode b pc = .ok (.invokestatic ix, 3)) (k : WM G X (pc + 3) lv (.int x :: st) sh2 r2 u2) : WM G X pc lv (av.reverse ++ st) sh r u := w_invS pc hX hst hI hl hM hn hd2 hcat q1 q2 hd k
theorem w_invSv {G : Gt} {X : Xt} {b : ByteArray} {nL : Nat} {C : String} {T : Tt} {d : Nat} {lv : List (Nat × Value)} {st : List Value} {sh : List Shp} {r : Rf} {u : Mem} {y : MethodName} {by_ : ByteArray} {ny ix n d2 : Nat} {ry : Option FieldType} {av : List Value} {sh2 : List Shp} {r2 : Rf} {u2 : Mem} (pc : Nat) (hX : CxOk G X b nL C T d) (hst : Cond.static y ∈ TW) (hI : MI y by_ ny ry n) (hl : Cond.methodLink C ix y ∈ TW) (hM : CT G y by_ ny ry d2 av sh r u (none, sh2, r2, u2)) (hn : av.length = n) (hd2 : d2 + 1 ≤ d) (hcat : (st.map fun v => v.category).sum ≤ 8) (q1 : sh2.length ≤ T.2.1.length) (q2 : ssum sh2 ≤ ssum T.2.1) (hd : decode b pc = .ok (.invokestatic ix, 3)) (k : WM G X (pc + 3) lv st sh2 r2 u2) : WM G X pc lv (av.reverse ++ st) sh r u := w_invS pc hX hst hI hl hM hn hd2 hcat q1 q2 hd k
theorem w_invSr {G : Gt} {X : Xt} {b : ByteArray} {nL : Nat} {C : String} {T : Tt} {d : Nat} {lv : List (Nat × Value)} {st : List Value} {sh : List Shp} {r : Rf} {u : Mem} {y : MethodName} {by_ : ByteArray} {ny ix n d2 : Nat} {ry : Option FieldType} {av : List Value} {sh2 : List Shp} {r2 : Rf} {u2 : Mem} {x : Nat} (pc : Nat) (hX : CxOk G X b nL C T d) (hst : Cond.static y ∈ TW) (hI : MI y by_ ny ry n) (hl : Cond.methodLink C ix y ∈ TW) (hM : CT G y by_ ny ry d2 av sh r u ((some (.ref x)), sh2, r2, u2)) (hn : av.length = n) (hd2 : d2 + 1 ≤ d) (hcat : (st.map fun v => v.category).sum ≤ 8) (q1 : sh2.length ≤ T.2.1.length) (q2 : ssum sh2 ≤ ssum T.2.1) (hd : decode b pc = .ok (.invokestatic ix, 3)) (k : WM G X (pc + 3) lv (.ref x :: st) sh2 r2 u2) : WM G X pc lv (av.reverse ++ st) sh r u := w_invS pc hX hst hI hl hM hn hd2 hcat q1 q2 hd k
theorem w_invSNi {G : Gt} {X : Xt} {b : ByteArray} {nL : Nat} {C : String} {T : Tt} {d : Nat} {lv : List (Nat × Value)} {st : List Value} {sh : List Shp} {r : Rf} {u : Mem} {y : MethodName} {by_ : ByteArray} {ny ix n d2 : Nat} {ry : Option FieldType} {av : List Value} {sh2 : List Shp} {r2 : Rf} {u2 : Mem} {x : Int32} {host : String} (pc : Nat) (hX : CxOk G X b nL C T d) (hst : Cond.static y ∈ TW) (hI : MI y by_ ny ry n) (hl : Cond.methodLinkNest C ix y host ∈ NW) (hM : CT G y by_ ny ry d2 av sh r u ((some (.int x)), sh2, r2, u2)) (hn : av.length = n) (hd2 : d2 + 1 ≤ d) (hcat : (st.map fun v => v.category).sum ≤ 8) (q1 : sh2.length ≤ T.2.1.length) (q2 : ssum sh2 ≤ ssum T.2.1) (hd : decode b pc = .ok (.invokestatic ix, 3)) (k : WM G X (pc + 3) lv (.int x :: st) sh2 r2 u2) : WM G X pc lv (av.reverse ++ st) sh r u := w_invSN pc hX hst hI hl hM hn hd2 hcat q1 q2 hd k
theorem w_invSNv {G : Gt} {X : Xt} {b : ByteArray} {nL : Nat} {C : String} {T : Tt} {d : Nat} {lv : List (Nat × Value)} {st : List Value} {sh : List Shp} {r : Rf} {u : Mem} {y : MethodName} {by_ : ByteArray} {ny ix n d2 : Nat} {ry : Option FieldType} {av : List Value} {sh2 : List Shp} {r2 : Rf} {u2 : Mem} {host : String} (pc : Nat) (hX : CxOk G X b nL C T d) (hst : Cond.static y ∈ TW) (hI : MI y by_ ny ry n) (hl : Cond.methodLinkNest C ix y host ∈ NW) (hM : CT G y by_ ny ry d2 av sh r u (none, sh2, r2, u2)) (hn : av.length = n) (hd2 : d2 + 1 ≤ d) (hcat : (st.map fun v => v.category).sum ≤ 8) (q1 : sh2.length ≤ T.2.1.length) (q2 : ssum sh2 ≤ ssum T.2.1) (hd : decode b pc = .ok (.invokestatic ix, 3)) (k : WM G X (pc + 3) lv st sh2 r2 u2) : WM G X pc lv (av.reverse ++ st) sh r u := w_invSN pc hX hst hI hl hM hn hd2 hcat q1 q2 hd k
theorem w_invSNr {G : Gt} {X : Xt} {b : ByteArray} {nL : Nat} {C : String} {T : Tt} {d : Nat} {lv : List (Nat × Value)} {st : List Value} {sh : List Shp} {r : Rf} {u : Mem} {y : MethodName} {by_ : ByteArray} {ny ix n d2 : Nat} {ry : Option FieldType} {av : List Value} {sh2 : List Shp} {r2 : Rf} {u2 : Mem} {x : Nat} {host : String} (pc : Nat) (hX : CxOk G X b nL C T d) (hst : Cond.static y ∈ TW) (hI : MI y by_ ny ry n) (hl : Cond.methodLinkNest C ix y host ∈ NW) (hM : CT G y by_ ny ry d2 av sh r u ((some (.ref x)), sh2, r2, u2)) (hn : av.length = n) (hd2 : d2 + 1 ≤ d) (hcat : (st.map fun v => v.category).sum ≤ 8) (q1 : sh2.length ≤ T.2.1.length) (q2 : ssum sh2 ≤ ssum T.2.1) (hd : decode b pc = .ok (.invokestatic ix, 3)) (k : WM G X (pc + 3) lv (.ref x :: st) sh2 r2 u2) : WM G X pc lv (av.reverse ++ st) sh r u := w_invSN pc hX hst hI hl hM hn hd2 hcat q1 q2 hd k
theorem w_invIv {G : Gt} {X : Xt} {b : ByteArray} {nL : Nat} {C : String} {T : Tt} {d : Nat} {lv : List (Nat × Value)} {st : List Value} {sh : List Shp} {r : Rf} {u : Mem} {y : MethodName} {by_ : ByteArray} {ny ix n d2 : Nat} {av : List Value} {sh2 : List Shp} {r2 : Rf} {u2 : Mem} {a ci N : Nat} {Rn : String} {F : u_T} {ty : Nat → FieldType} (pc : Nat) (hX : CxOk G X b nL C T d) (hC : CI ci Rn F N ty) (hs : sh[a]? = some (.inr (.inl ci))) (hin : Cond.instanceMethod y ∈ TW) (hnm : y.name = "<init>") (hI : MI y by_ ny none n) (hl : Cond.methodLink C ix y ∈ TW) (hM : CT G y by_ ny none d2 (.ref a :: av) sh r u (none, sh2, r2, u2)) (hn : av.length = n) (hd2 : d2 + 1 ≤ d) (hcat : (st.map fun v => v.category).sum ≤ 8) (q1 : sh2.length ≤ T.2.1.length) (q2 : ssum sh2 ≤ ssum T.2.1) (hd : decode b pc = .ok (.invokespecial ix, 3)) (k : WM G X (pc + 3) lv st sh2 r2 u2) : WM G X pc lv (av.reverse ++ .ref a :: st) sh r u := w_invI pc hX hC hs hin hnm hI hl hM hn hd2 hcat q1 q2 hd k
theorem w_invINv {G : Gt} {X : Xt} {b : ByteArray} {nL : Nat} {C : String} {T : Tt} {d : Nat} {lv : List (Nat × Value)} {st : List Value} {sh : List Shp} {r : Rf} {u : Mem} {y : MethodName} {by_ : ByteArray} {ny ix n d2 : Nat} {av : List Value} {sh2 : List Shp} {r2 : Rf} {u2 : Mem} {host : String} {a ci N : Nat} {Rn : String} {F : u_T} {ty : Nat → FieldType} (pc : Nat) (hX : CxOk G X b nL C T d) (hC : CI ci Rn F N ty) (hs : sh[a]? = some (.inr (.inl ci))) (hin : Cond.instanceMethod y ∈ TW) (hnm : y.name = "<init>") (hI : MI y by_ ny none n) (hl : Cond.methodLinkNest C ix y host ∈ NW) (hM : CT G y by_ ny none d2 (.ref a :: av) sh r u (none, sh2, r2, u2)) (hn : av.length = n) (hd2 : d2 + 1 ≤ d) (hcat : (st.map fun v => v.category).sum ≤ 8) (q1 : sh2.length ≤ T.2.1.length) (q2 : ssum sh2 ≤ ssum T.2.1) (hd : decode b pc = .ok (.invokespecial ix, 3)) (k : WM G X (pc + 3) lv st sh2 r2 u2) : WM G X pc lv (av.reverse ++ .ref a :: st) sh r u := w_invIN pc hX hC hs hin hnm hI hl hM hn hd2 hcat q1 q2 hd k
