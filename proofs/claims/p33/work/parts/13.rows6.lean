/-! text constants, statics, the script -/
theorem RepC.base {G : Gt} {sh : List Shp} {r : Rf} {u : Mem} {H : Heap} {s : State} (h : RepC G sh r u H) (x6 : RepW G s) : ∀ a : Nat, a < (gB G).size → ¬ gA G a → H[a]? = (gB G)[a]? := fun a ha hn => h.2.2.1 a (by have := x6.2.2.1; omega)
theorem strN_le : strN ≤ 400 := by decide
theorem adr_S {G : Gt} {i : Nat} (hi : i < strN) : adr G (2000000 + i) = gK G i := by
  have := strN_le
  unfold adr
  rw [if_neg (by omega), if_neg (by omega), if_pos (by omega), Nat.add_sub_cancel_left]
theorem adr_V {G : Gt} {i : Nat} (hi : i < strN) : adr G (3000000 + i) = gV G i := by
  have := strN_le
  unfold adr
  rw [if_neg (by omega), if_neg (by omega), if_neg (by omega), if_pos (by omega), Nat.add_sub_cancel_left]
theorem adr_X {G : Gt} (q : Nat) : adr G (4000000 + q) = q := by
  unfold adr
  rw [if_neg (by omega), if_neg (by omega), if_neg (by omega), if_neg (by omega), if_neg (by omega), if_neg (by omega)]
  omega
theorem w_ldcs {G : Gt} {X : Xt} {b : ByteArray} {nL : Nat} {C : String} {T : Tt} {d : Nat} {lv : List (Nat × Value)} {st : List Value} {sh : List Shp} {r : Rf} {u : Mem} {ix : Nat} (i : Nat) (pc : Nat) (hX : CxOk G X b nL C T d) (hi : i < strN) (ho : strOwn i = C) (hx : strIdx i = ix) (hd : decode b pc = .ok (.ldc ix, 2)) (k : WM G X (pc + 2) lv (.ref (2000000 + i) :: st) sh r u) : WM G X pc lv st sh r u := by
  obtain ⟨p, e, R, s, m, args, below, meth, c, Q, nL', c0, n0⟩ := X
  intro H locs ls k1 n1 h1 h2 h3 h4 h5
  obtain ⟨x1, x2, x3, x4, x5, x6, x7, x8, x9, x10, x11, x12⟩ := hX
  have hZ := x6.2.2.2.2.1 i hi
  subst ho; subst hx
  have hk := k H locs ls k1 n1 h1 h2 h3 h4 h5
  intro T' hT X
  have e9 : sts G (.ref (2000000 + i) :: st) = .ref (gK G i) :: sts G st := by show Value.ref (adr G (2000000 + i)) :: _ = _; rw [adr_S hi]; rfl
  rw [e9] at hk
  obtain ⟨t, a1, b1⟩ := hk T' hT X
  exact ⟨t, X.ldcString x1 x4 (text := strTx i) (a := gK G i) hZ.1 hZ.2 (g := F0 m pc ls (sts G st)) rfl (by rw [x2]; exact hd) t a1, b1⟩
theorem w_sfld {G : Gt} {X : Xt} {b : ByteArray} {nL : Nat} {C : String} {T : Tt} {d : Nat} {lv : List (Nat × Value)} {st : List Value} {sh : List Shp} {r : Rf} {u : Mem} {ix i : Nat} {fn fd : String} {v w : Value} (pc : Nat) (hX : CxOk G X b nL C T d) (hi : i < strN) (hv : ∀ s : State, RepW G s → va_OF "java/lang/String" fn fd w (gK G i) (gA G) s (gB G)) (hw : cv G v = w) (hl : Cond.fieldLink C ix "java/lang/String" fn fd ∈ TW) (hd : decode b pc = .ok (.getfield ix, 3)) (k : WM G X (pc + 3) lv (v :: st) sh r u) : WM G X pc lv (.ref (2000000 + i) :: st) sh r u := by
  obtain ⟨p, e, R, s, m, args, below, meth, c, Q, nL', c0, n0⟩ := X
  intro H locs ls k1 n1 h1 h2 h3 h4 h5
  obtain ⟨x1, x2, x3, x4, x5, x6, x7, x8, x9, x10, x11, x12⟩ := hX
  obtain ⟨cf, kk, fi, f, cell, g1, g2, g3, g4, g5, g6⟩ := (hv s x6).kept (h1.base x6)
  show W p (gL G) e R s m args below meth c H locs k1 n1 Q (F0 m pc ls (.ref (adr G (2000000 + i)) :: sts G st))
  rw [adr_S hi]
  have hk := k H locs ls k1 n1 h1 h2 h3 h4 h5
  have e9 : sts G (v :: st) = w :: sts G st := by rw [← hw]; rfl
  rw [e9] at hk
  exact W.getf x1 x2 x4 (x5 _ hl) g1 g2 g3 g4 (v := w) g5 rfl rfl hd hk
theorem w_sval {G : Gt} {X : Xt} {b : ByteArray} {nL : Nat} {C : String} {T : Tt} {d : Nat} {lv : List (Nat × Value)} {st : List Value} {sh : List Shp} {r : Rf} {u : Mem} {ix i : Nat} (pc : Nat) (hX : CxOk G X b nL C T d) (hi : i < strN) (hl : Cond.fieldLink C ix "java/lang/String" "value" "[B" ∈ TW) (hd : decode b pc = .ok (.getfield ix, 3)) (k : WM G X (pc + 3) lv (.ref (3000000 + i) :: st) sh r u) : WM G X pc lv (.ref (2000000 + i) :: st) sh r u :=
  w_sfld pc hX hi (w := .ref (gV G i)) (fun s h => (h.2.2.2.1.1 i hi).2.2.1) (by show Value.ref (adr G (3000000 + i)) = _; rw [adr_V hi]) hl hd k
theorem w_scod {G : Gt} {X : Xt} {b : ByteArray} {nL : Nat} {C : String} {T : Tt} {d : Nat} {lv : List (Nat × Value)} {st : List Value} {sh : List Shp} {r : Rf} {u : Mem} {ix i : Nat} (pc : Nat) (hX : CxOk G X b nL C T d) (hi : i < strN) (hl : Cond.fieldLink C ix "java/lang/String" "coder" "B" ∈ TW) (hd : decode b pc = .ok (.getfield ix, 3)) (k : WM G X (pc + 3) lv (.int 0 :: st) sh r u) : WM G X pc lv (.ref (2000000 + i) :: st) sh r u :=
  w_sfld pc hX hi (w := .int 0) (fun s h => (h.2.2.2.1.1 i hi).2.1) rfl hl hd k
theorem w_gcs {G : Gt} {X : Xt} {b : ByteArray} {nL : Nat} {C : String} {T : Tt} {d : Nat} {lv : List (Nat × Value)} {st : List Value} {sh : List Shp} {r : Rf} {u : Mem} {ix : Nat} (pc : Nat) (hX : CxOk G X b nL C T d) (hl : Cond.fieldLink C ix "java/lang/String" "COMPACT_STRINGS" "Z" ∈ TW) (hd : decode b pc = .ok (.getstatic ix, 3)) (k : WM G X (pc + 3) lv (.int 1 :: st) sh r u) : WM G X pc lv st sh r u := by
  obtain ⟨p, e, R, s, m, args, below, meth, c, Q, nL', c0, n0⟩ := X
  intro H locs ls k1 n1 h1 h2 h3 h4 h5
  obtain ⟨x1, x2, x3, x4, x5, x6, x7, x8, x9, x10, x11, x12⟩ := hX
  obtain ⟨cf, kf, fi, f, a, cell, g1, g2, g3, g4, g5, g6, g7, g8⟩ := x6.2.2.2.2.2.2.2.2.2.1.kept (h1.base x6)
  exact W.gets x1 x2 x4 (x5 _ hl) g1 g2 g3 g4 g5 (fun e => by rw [e] at g6; cases g6) g7 rfl hd (k H locs ls k1 n1 h1 h2 h3 h4 h5)
theorem w_gsi {G : Gt} {X : Xt} {b : ByteArray} {nL : Nat} {C : String} {T : Tt} {d : Nat} {lv : List (Nat × Value)} {st : List Value} {sh : List Shp} {r : Rf} {u : Mem} {ix : Nat} (pc : Nat) (hX : CxOk G X b nL C T d) (hl : Cond.fieldLink C ix "jdk/internal/util/Preconditions" "SIOOBE_FORMATTER" "Ljava/util/function/BiFunction;" ∈ TW) (hd : decode b pc = .ok (.getstatic ix, 3)) (k : ∀ w : Value, w.category = 1 → WM G X (pc + 3) lv (w :: st) sh r u) : WM G X pc lv st sh r u := by
  obtain ⟨p, e, R, s, m, args, below, meth, c, Q, nL', c0, n0⟩ := X
  intro H locs ls k1 n1 h1 h2 h3 h4 h5
  obtain ⟨x1, x2, x3, x4, x5, x6, x7, x8, x9, x10, x11, x12⟩ := hX
  rcases x6.2.2.2.2.2.2.2.2.2.2.1 with hz | ⟨t, hz⟩
  · obtain ⟨cf, kf, fi, f, a, cell, g1, g2, g3, g4, g5, g6, g7, g8⟩ := hz.kept (h1.base x6)
    exact W.gets x1 x2 x4 (x5 _ hl) g1 g2 g3 g4 g5 (fun e => by rw [e] at g6; cases g6) g7 rfl hd (k .null rfl H locs ls k1 n1 h1 h2 h3 h4 h5)
  · obtain ⟨cf, kf, fi, f, a, cell, g1, g2, g3, g4, g5, g6, g7, g8⟩ := hz.kept (h1.base x6)
    have hk := k (.ref (4000000 + t)) rfl H locs ls k1 n1 h1 h2 h3 h4 h5
    have e9 : sts G (.ref (4000000 + t) :: st) = .ref t :: sts G st := by show Value.ref (adr G (4000000 + t)) :: _ = _; rw [adr_X]; rfl
    rw [e9] at hk
    exact W.gets x1 x2 x4 (x5 _ hl) g1 g2 g3 g4 g5 (fun e => by rw [e] at g6; cases g6) g7 rfl hd hk
theorem w_alenB {G : Gt} {X : Xt} {b : ByteArray} {nL : Nat} {C : String} {T : Tt} {d : Nat} {lv : List (Nat × Value)} {st : List Value} {sh : List Shp} {r : Rf} {u : Mem} {i : Nat} (pc : Nat) (hX : CxOk G X b nL C T d) (hi : i < strN) (hd : decode b pc = .ok (.arraylength, 1)) (k : WM G X (pc + 1) lv (.int (nI (strLen.getD i 0)) :: st) sh r u) : WM G X pc lv (.ref (3000000 + i) :: st) sh r u := by
  obtain ⟨p, e, R, s, m, args, below, meth, c, Q, nL', c0, n0⟩ := X
  intro H locs ls k1 n1 h1 h2 h3 h4 h5
  obtain ⟨x1, x2, x3, x4, x5, x6, x7, x8, x9, x10, x11, x12⟩ := hX
  obtain ⟨cell, g1, g2, g3, g4, g5, g6, g7⟩ := (x6.2.2.2.1.1 i hi).2.2.2.kept (h1.base x6)
  show W p (gL G) e R s m args below meth c H locs k1 n1 Q (F0 m pc ls (.ref (adr G (3000000 + i)) :: sts G st))
  rw [adr_V hi]
  exact W.alen (n := Int32.ofNat (strLen.getD i 0)) x1 x2 g1 g2 g5 rfl rfl hd (k H locs ls k1 n1 h1 h2 h3 h4 h5)
theorem w_bald {G : Gt} {X : Xt} {b : ByteArray} {nL : Nat} {C : String} {T : Tt} {d : Nat} {lv : List (Nat × Value)} {st : List Value} {sh : List Shp} {r : Rf} {u : Mem} {i : Nat} {j : Int32} (pc : Nat) (hX : CxOk G X b nL C T d) (hi : i < strN) (hin : vp_in j (strLen.getD i 0)) (hd : decode b pc = .ok (.baload, 1)) (k : WM G X (pc + 1) lv (.int ((strByt.getD i []).getD j.toNatClampNeg 0) :: st) sh r u) : WM G X pc lv (.int j :: .ref (3000000 + i) :: st) sh r u := by
  obtain ⟨p, e, R, s, m, args, below, meth, c, Q, nL', c0, n0⟩ := X
  intro H locs ls k1 n1 h1 h2 h3 h4 h5
  obtain ⟨x1, x2, x3, x4, x5, x6, x7, x8, x9, x10, x11, x12⟩ := hX
  obtain ⟨cell, g1, g2, g3, g4, g5, g6, g7⟩ := (x6.2.2.2.1.1 i hi).2.2.2.kept (h1.base x6)
  show W p (gL G) e R s m args below meth c H locs k1 n1 Q (F0 m pc ls (.int j :: .ref (adr G (3000000 + i)) :: sts G st))
  rw [adr_V hi]
  have hlt : j.toNatClampNeg < strLen.getD i 0 := Nat.not_le.mp fun q => hin (Or.inr q)
  have hin' : ¬ (j < 0 ∨ cell.slots.size ≤ j.toNatClampNeg) := by
    intro q
    rcases q with q | q
    · exact hin (Or.inl q)
    · omega
  exact W.bald (v := .int ((strByt.getD i []).getD j.toNatClampNeg 0)) x1 x2 g1 g2 g3 hin' (g6 _ hlt) rfl rfl hd (k H locs ls k1 n1 h1 h2 h3 h4 h5)
theorem w_slen {G : Gt} {X : Xt} {b : ByteArray} {nL : Nat} {C : String} {T : Tt} {d : Nat} {lv : List (Nat × Value)} {st : List Value} {sh : List Shp} {r : Rf} {u : Mem} (pc : Nat) (hX : CxOk G X b nL C T d) (hd : decode b pc = .ok (.arraylength, 1)) (k : WM G X (pc + 1) lv (.int (nI (gS G).2.1) :: st) sh r u) : WM G X pc lv (.ref 1999999 :: st) sh r u := by
  obtain ⟨p, e, R, s, m, args, below, meth, c, Q, nL', c0, n0⟩ := X
  intro H locs ls k1 n1 h1 h2 h3 h4 h5
  obtain ⟨x1, x2, x3, x4, x5, x6, x7, x8, x9, x10, x11, x12⟩ := hX
  obtain ⟨scr, g1, g2, g3, g4, g5⟩ := x6.2.2.2.2.2.1
  have g6 : H[(gS G).1]? = some scr := by rw [h1.2.2.1 _ x6.2.2.2.2.2.2.1]; exact g1
  exact W.alen (n := nI (gS G).2.1) x1 x2 g6 g2 (by rw [g4]; rfl) rfl rfl hd (k H locs ls k1 n1 h1 h2 h3 h4 h5)
theorem w_sld {G : Gt} {X : Xt} {b : ByteArray} {nL : Nat} {C : String} {T : Tt} {d : Nat} {lv : List (Nat × Value)} {st : List Value} {sh : List Shp} {r : Rf} {u : Mem} {j : Int32} (pc : Nat) (hX : CxOk G X b nL C T d) (hin : vp_in j (gS G).2.1) (hd : decode b pc = .ok (.iaload, 1)) (k : WM G X (pc + 1) lv (.int ((gS G).2.2 j.toNatClampNeg) :: st) sh r u) : WM G X pc lv (.int j :: .ref 1999999 :: st) sh r u := by
  obtain ⟨p, e, R, s, m, args, below, meth, c, Q, nL', c0, n0⟩ := X
  intro H locs ls k1 n1 h1 h2 h3 h4 h5
  obtain ⟨x1, x2, x3, x4, x5, x6, x7, x8, x9, x10, x11, x12⟩ := hX
  obtain ⟨scr, g1, g2, g3, g4, g5⟩ := x6.2.2.2.2.2.1
  have g6 : H[(gS G).1]? = some scr := by rw [h1.2.2.1 _ x6.2.2.2.2.2.2.1]; exact g1
  have hlt : j.toNatClampNeg < (gS G).2.1 := Nat.not_le.mp fun q => hin (Or.inr q)
  exact W.iald (v := .int ((gS G).2.2 j.toNatClampNeg)) x1 x2 g6 g2 g3 (by rw [g4]; exact hin) (g5 _ hlt) rfl rfl hd (k H locs ls k1 n1 h1 h2 h3 h4 h5)
theorem w_nret {G : Gt} {X : Xt} {b : ByteArray} {nL : Nat} {C : String} {T : Tt} {d : Nat} {lv : List (Nat × Value)} {sh : List Shp} {r : Rf} {u : Mem} {x : Int32} {ty : FieldType} (pc : Nat) (hX : CxOk G X b nL C T d) (hR : CxRet G X (some ty) T) (hx : narrow ty (.int x) = .int x) (hd : decode b pc = .ok (.ireturn, 1)) (hT : T = (some (.int x), sh, r, u)) : WM G X pc lv [.int x] sh r u := by
  obtain ⟨p, e, R, s, m, args, below, meth, c, Q, nL', c0, n0⟩ := X
  intro H locs ls k1 n1 h1 h2 h3 h4 h5
  subst hT
  obtain ⟨hr, rfl⟩ := hR
  have e1 : k1 = sh.length - c0 := by omega
  have e2 : n1 = ssum sh - n0 := by omega
  subst e1; subst e2
  have hl : meth.locks = false := hX.2.2.2.2.2.2.2.2.2.2.2
  exact W.zret (v := x) hX.1 hX.2.1 hr hx (fun t ht hW => ⟨rfl, by rw [ht]; exact h1, RepW.warm hW hX.2.2.2.2.2.1⟩) h2 hd hl
theorem w_i2b {G : Gt} {X : Xt} {b : ByteArray} {nL : Nat} {C : String} {T : Tt} {d : Nat} {lv : List (Nat × Value)} {st : List Value} {sh : List Shp} {r : Rf} {u : Mem} {x : Int32} (pc : Nat) (hX : CxOk G X b nL C T d) (hd : decode b pc = .ok (.i2b, 1)) (k : WM G X (pc + 1) lv (.int (x.toInt8.toInt32) :: st) sh r u) : WM G X pc lv (.int x :: st) sh r u := by
  obtain ⟨p, e, R, s, m, args, below, meth, c, Q, nL', c0, n0⟩ := X
  intro H locs ls k1 n1 h1 h2 h3 h4 h5
  exact lv_i2b hX.1 hX.2.1 hd rfl (k H locs ls k1 n1 h1 h2 h3 h4 h5)
theorem w_recvS {G : Gt} {sh : List Shp} {r : Rf} {u : Mem} {H : Heap} {s : State} {i : Nat} (h1 : RepC G sh r u H) (x6 : RepW G s) (hi : i < strN) : ∃ cell : Cell, H[adr G (2000000 + i)]? = some cell ∧ cell.vm.isStatics = false ∧ s.vm.findClass "java/lang/String" = some cell.cls := by
  obtain ⟨cell, g1, g2, g3, -⟩ := (x6.2.2.2.1.1 i hi).1.kept (h1.base x6)
  rw [adr_S hi]
  exact ⟨cell, g1, g2, g3⟩
theorem w_invVT {G : Gt} {X : Xt} {b : ByteArray} {nL : Nat} {C : String} {T : Tt} {d : Nat} {lv : List (Nat × Value)} {st : List Value} {sh : List Shp} {r : Rf} {u : Mem} {y : MethodName} {by_ : ByteArray} {ny ix n d2 : Nat} {ry : Option FieldType} {av : List Value} {T2 : Tt} {i : Nat} (pc : Nat) (hX : CxOk G X b nL C T d) (hi : i < strN) (hcl : y.cls = "java/lang/String") (hV : MV y) (hI : MI y by_ ny ry n) (hl : Cond.methodLink C ix y ∈ TW) (hM : CT G y by_ ny ry d2 (.ref (2000000 + i) :: av) sh r u T2) (hn : av.length = n) (hd2 : d2 + 1 ≤ d) (hcat : (st.map fun v => v.category).sum ≤ 8) (q1 : T2.2.1.length ≤ T.2.1.length) (q2 : ssum T2.2.1 ≤ ssum T.2.1) (hd : decode b pc = .ok (.invokevirtual ix, 3)) (k : WM G X (pc + 3) lv (T2.1.toList ++ st) T2.2.1 T2.2.2.1 T2.2.2.2) : WM G X pc lv (av.reverse ++ .ref (2000000 + i) :: st) sh r u := by
  obtain ⟨p, e, R, s, m, args, below, meth, c, Q, nL', c0, n0⟩ := X
  intro H locs ls k1 n1 h1 h2 h3 h4 h5
  obtain ⟨x1, x2, x3, x4, x5, x6, x7, x8, x9, x10, x11, x12⟩ := hX
  obtain ⟨m1, m2, hM⟩ := hM
  obtain ⟨i1, i2, ⟨i3, i4, i5⟩, i6⟩ := hI
  have hG : GoodIn TW (Cond.code y by_ ny ry :: TW) := goodIn_tw _ (fun w hw => by
    rcases List.mem_cons.mp hw with rfl | hw
    · exact i1
    · exact hw)
  have hroom : d2 + 1 ≤ R.frames ∧ 8 + (ny + 11) + 60 * d2 ≤ R.locals := ⟨by omega, by omega⟩
  have hcb := callB_of (R := R) (s := s) (args := args) (own := C) (index := ix) (rm := { frames := d2, cells := T2.2.1.length - sh.length, slots := ssum T2.2.1 - ssum sh, locals := 60 * d2 }) n x5 hG rfl rfl rfl (x5 _ i2) (x5 _ hl) ⟨i3, i4, i5⟩ hroom
  have cw := And.intro hcb (And.intro (x5 _ hV.1) (x5 _ hV.2))
  show W p (gL G) e R s m args below meth c H locs k1 n1 Q (F0 m pc ls (sts G (av.reverse ++ .ref (2000000 + i) :: st)))
  rw [sts_rev]
  refine w_after (mc := T2.2.1.length - sh.length) (ms := ssum T2.2.1 - ssum sh) (va_runV (As := sts G av) (b := adr G (2000000 + i)) (rest := sts G st) ⟨x1, x2, x3, x4, x5⟩ hM cw ⟨pc_blind, by rw [hcl]; exact w_recvS h1 x6 hi, fun U hU hW => ⟨rfl, by rw [hU]; exact h1, RepW.warm hW x6⟩⟩ rfl (by simp [sts, hn]) (h3.1.trans x7) rfl (lv_room (by rw [sts_cat]; exact hcat)) hd ⟨by omega, by omega⟩) h2 h3 (by omega) (by omega) k
