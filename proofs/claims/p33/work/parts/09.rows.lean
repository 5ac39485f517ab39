theorem w_iconst {G : Gt} {X : Xt} {b : ByteArray} {nL : Nat} {C : String} {T : Tt} {d : Nat} {lv : List (Nat × Value)} {st : List Value} {sh : List Shp} {r : Rf} {u : Mem} {n : Int} (v : Int32) (pc : Nat) (hX : CxOk G X b nL C T d) (hv : Int32.ofInt n = v) (hd : decode b pc = .ok (.iconst n, 1)) (k : WM G X (pc + 1) lv (.int v :: st) sh r u) : WM G X pc lv st sh r u := by
  obtain ⟨p, e, R, s, m, args, below, meth, c, Q, nL', c0, n0⟩ := X
  intro H locs ls k1 n1 h1 h2 h3 h4 h5
  exact lv_iconst hX.1 hX.2.1 hd hv (k H locs ls k1 n1 h1 h2 h3 h4 h5)
theorem w_bipush {G : Gt} {X : Xt} {b : ByteArray} {nL : Nat} {C : String} {T : Tt} {d : Nat} {lv : List (Nat × Value)} {st : List Value} {sh : List Shp} {r : Rf} {u : Mem} {n : Int} (v : Int32) (pc : Nat) (hX : CxOk G X b nL C T d) (hv : (Int8.ofInt n).toInt32 = v) (hd : decode b pc = .ok (.bipush n, 2)) (k : WM G X (pc + 2) lv (.int v :: st) sh r u) : WM G X pc lv st sh r u := by
  obtain ⟨p, e, R, s, m, args, below, meth, c, Q, nL', c0, n0⟩ := X
  intro H locs ls k1 n1 h1 h2 h3 h4 h5
  exact lv_bipush hX.1 hX.2.1 hd hv (k H locs ls k1 n1 h1 h2 h3 h4 h5)
theorem w_sipush {G : Gt} {X : Xt} {b : ByteArray} {nL : Nat} {C : String} {T : Tt} {d : Nat} {lv : List (Nat × Value)} {st : List Value} {sh : List Shp} {r : Rf} {u : Mem} {n : Int} (v : Int32) (pc : Nat) (hX : CxOk G X b nL C T d) (hv : (Int16.ofInt n).toInt32 = v) (hd : decode b pc = .ok (.sipush n, 3)) (k : WM G X (pc + 3) lv (.int v :: st) sh r u) : WM G X pc lv st sh r u := by
  obtain ⟨p, e, R, s, m, args, below, meth, c, Q, nL', c0, n0⟩ := X
  intro H locs ls k1 n1 h1 h2 h3 h4 h5
  exact lv_sipush hX.1 hX.2.1 hd hv (k H locs ls k1 n1 h1 h2 h3 h4 h5)
theorem w_iadd {G : Gt} {X : Xt} {b : ByteArray} {nL : Nat} {C : String} {T : Tt} {d : Nat} {lv : List (Nat × Value)} {st : List Value} {sh : List Shp} {r : Rf} {u : Mem} {x y : Int32} (pc : Nat) (hX : CxOk G X b nL C T d) (hd : decode b pc = .ok (.iadd, 1)) (k : WM G X (pc + 1) lv (.int (x + y) :: st) sh r u) : WM G X pc lv (.int y :: .int x :: st) sh r u := by
  obtain ⟨p, e, R, s, m, args, below, meth, c, Q, nL', c0, n0⟩ := X
  intro H locs ls k1 n1 h1 h2 h3 h4 h5
  exact lv_iadd hX.1 hX.2.1 hd (k H locs ls k1 n1 h1 h2 h3 h4 h5)
theorem w_isub {G : Gt} {X : Xt} {b : ByteArray} {nL : Nat} {C : String} {T : Tt} {d : Nat} {lv : List (Nat × Value)} {st : List Value} {sh : List Shp} {r : Rf} {u : Mem} {x y : Int32} (pc : Nat) (hX : CxOk G X b nL C T d) (hd : decode b pc = .ok (.isub, 1)) (k : WM G X (pc + 1) lv (.int (x - y) :: st) sh r u) : WM G X pc lv (.int y :: .int x :: st) sh r u := by
  obtain ⟨p, e, R, s, m, args, below, meth, c, Q, nL', c0, n0⟩ := X
  intro H locs ls k1 n1 h1 h2 h3 h4 h5
  exact lv_isub hX.1 hX.2.1 hd (k H locs ls k1 n1 h1 h2 h3 h4 h5)
theorem w_imul {G : Gt} {X : Xt} {b : ByteArray} {nL : Nat} {C : String} {T : Tt} {d : Nat} {lv : List (Nat × Value)} {st : List Value} {sh : List Shp} {r : Rf} {u : Mem} {x y : Int32} (pc : Nat) (hX : CxOk G X b nL C T d) (hd : decode b pc = .ok (.imul, 1)) (k : WM G X (pc + 1) lv (.int (x * y) :: st) sh r u) : WM G X pc lv (.int y :: .int x :: st) sh r u := by
  obtain ⟨p, e, R, s, m, args, below, meth, c, Q, nL', c0, n0⟩ := X
  intro H locs ls k1 n1 h1 h2 h3 h4 h5
  exact lv_imul hX.1 hX.2.1 hd (k H locs ls k1 n1 h1 h2 h3 h4 h5)
theorem w_iand {G : Gt} {X : Xt} {b : ByteArray} {nL : Nat} {C : String} {T : Tt} {d : Nat} {lv : List (Nat × Value)} {st : List Value} {sh : List Shp} {r : Rf} {u : Mem} {x y : Int32} (pc : Nat) (hX : CxOk G X b nL C T d) (hd : decode b pc = .ok (.iand, 1)) (k : WM G X (pc + 1) lv (.int (x &&& y) :: st) sh r u) : WM G X pc lv (.int y :: .int x :: st) sh r u := by
  obtain ⟨p, e, R, s, m, args, below, meth, c, Q, nL', c0, n0⟩ := X
  intro H locs ls k1 n1 h1 h2 h3 h4 h5
  exact lv_iand hX.1 hX.2.1 hd (k H locs ls k1 n1 h1 h2 h3 h4 h5)
theorem w_ior {G : Gt} {X : Xt} {b : ByteArray} {nL : Nat} {C : String} {T : Tt} {d : Nat} {lv : List (Nat × Value)} {st : List Value} {sh : List Shp} {r : Rf} {u : Mem} {x y : Int32} (pc : Nat) (hX : CxOk G X b nL C T d) (hd : decode b pc = .ok (.ior, 1)) (k : WM G X (pc + 1) lv (.int (x ||| y) :: st) sh r u) : WM G X pc lv (.int y :: .int x :: st) sh r u := by
  obtain ⟨p, e, R, s, m, args, below, meth, c, Q, nL', c0, n0⟩ := X
  intro H locs ls k1 n1 h1 h2 h3 h4 h5
  exact lv_ior hX.1 hX.2.1 hd (k H locs ls k1 n1 h1 h2 h3 h4 h5)
theorem w_ixor {G : Gt} {X : Xt} {b : ByteArray} {nL : Nat} {C : String} {T : Tt} {d : Nat} {lv : List (Nat × Value)} {st : List Value} {sh : List Shp} {r : Rf} {u : Mem} {x y : Int32} (pc : Nat) (hX : CxOk G X b nL C T d) (hd : decode b pc = .ok (.ixor, 1)) (k : WM G X (pc + 1) lv (.int (x ^^^ y) :: st) sh r u) : WM G X pc lv (.int y :: .int x :: st) sh r u := by
  obtain ⟨p, e, R, s, m, args, below, meth, c, Q, nL', c0, n0⟩ := X
  intro H locs ls k1 n1 h1 h2 h3 h4 h5
  exact lv_ixor hX.1 hX.2.1 hd (k H locs ls k1 n1 h1 h2 h3 h4 h5)
theorem w_ishl {G : Gt} {X : Xt} {b : ByteArray} {nL : Nat} {C : String} {T : Tt} {d : Nat} {lv : List (Nat × Value)} {st : List Value} {sh : List Shp} {r : Rf} {u : Mem} {x y : Int32} (pc : Nat) (hX : CxOk G X b nL C T d) (hd : decode b pc = .ok (.ishl, 1)) (k : WM G X (pc + 1) lv (.int (x <<< (y &&& 31)) :: st) sh r u) : WM G X pc lv (.int y :: .int x :: st) sh r u := by
  obtain ⟨p, e, R, s, m, args, below, meth, c, Q, nL', c0, n0⟩ := X
  intro H locs ls k1 n1 h1 h2 h3 h4 h5
  exact lv_ishl hX.1 hX.2.1 hd (k H locs ls k1 n1 h1 h2 h3 h4 h5)
theorem w_ishr {G : Gt} {X : Xt} {b : ByteArray} {nL : Nat} {C : String} {T : Tt} {d : Nat} {lv : List (Nat × Value)} {st : List Value} {sh : List Shp} {r : Rf} {u : Mem} {x y : Int32} (pc : Nat) (hX : CxOk G X b nL C T d) (hd : decode b pc = .ok (.ishr, 1)) (k : WM G X (pc + 1) lv (.int (x >>> (y &&& 31)) :: st) sh r u) : WM G X pc lv (.int y :: .int x :: st) sh r u := by
  obtain ⟨p, e, R, s, m, args, below, meth, c, Q, nL', c0, n0⟩ := X
  intro H locs ls k1 n1 h1 h2 h3 h4 h5
  exact lv_ishr hX.1 hX.2.1 hd (k H locs ls k1 n1 h1 h2 h3 h4 h5)
theorem w_iushr {G : Gt} {X : Xt} {b : ByteArray} {nL : Nat} {C : String} {T : Tt} {d : Nat} {lv : List (Nat × Value)} {st : List Value} {sh : List Shp} {r : Rf} {u : Mem} {x y : Int32} (pc : Nat) (hX : CxOk G X b nL C T d) (hd : decode b pc = .ok (.iushr, 1)) (k : WM G X (pc + 1) lv (.int ((x.toUInt32 >>> (y.toUInt32 &&& Int32.toUInt32 31)).toInt32) :: st) sh r u) : WM G X pc lv (.int y :: .int x :: st) sh r u := by
  obtain ⟨p, e, R, s, m, args, below, meth, c, Q, nL', c0, n0⟩ := X
  intro H locs ls k1 n1 h1 h2 h3 h4 h5
  exact lv_iushr hX.1 hX.2.1 hd rfl (k H locs ls k1 n1 h1 h2 h3 h4 h5)
theorem w_idiv {G : Gt} {X : Xt} {b : ByteArray} {nL : Nat} {C : String} {T : Tt} {d : Nat} {lv : List (Nat × Value)} {st : List Value} {sh : List Shp} {r : Rf} {u : Mem} {x y : Int32} (pc : Nat) (hX : CxOk G X b nL C T d) (hy : ¬ y = 0) (hd : decode b pc = .ok (.idiv, 1)) (k : WM G X (pc + 1) lv (.int (x / y) :: st) sh r u) : WM G X pc lv (.int y :: .int x :: st) sh r u := by
  obtain ⟨p, e, R, s, m, args, below, meth, c, Q, nL', c0, n0⟩ := X
  intro H locs ls k1 n1 h1 h2 h3 h4 h5
  exact lv_idiv hX.1 hX.2.1 hd hy (k H locs ls k1 n1 h1 h2 h3 h4 h5)
theorem w_irem {G : Gt} {X : Xt} {b : ByteArray} {nL : Nat} {C : String} {T : Tt} {d : Nat} {lv : List (Nat × Value)} {st : List Value} {sh : List Shp} {r : Rf} {u : Mem} {x y : Int32} (pc : Nat) (hX : CxOk G X b nL C T d) (hy : ¬ y = 0) (hd : decode b pc = .ok (.irem, 1)) (k : WM G X (pc + 1) lv (.int (x - x / y * y) :: st) sh r u) : WM G X pc lv (.int y :: .int x :: st) sh r u := by
  obtain ⟨p, e, R, s, m, args, below, meth, c, Q, nL', c0, n0⟩ := X
  intro H locs ls k1 n1 h1 h2 h3 h4 h5
  exact lv_irem hX.1 hX.2.1 hd hy (k H locs ls k1 n1 h1 h2 h3 h4 h5)
theorem w_ineg {G : Gt} {X : Xt} {b : ByteArray} {nL : Nat} {C : String} {T : Tt} {d : Nat} {lv : List (Nat × Value)} {st : List Value} {sh : List Shp} {r : Rf} {u : Mem} {x : Int32} (pc : Nat) (hX : CxOk G X b nL C T d) (hd : decode b pc = .ok (.ineg, 1)) (k : WM G X (pc + 1) lv (.int (-x) :: st) sh r u) : WM G X pc lv (.int x :: st) sh r u := by
  obtain ⟨p, e, R, s, m, args, below, meth, c, Q, nL', c0, n0⟩ := X
  intro H locs ls k1 n1 h1 h2 h3 h4 h5
  exact lv_ineg hX.1 hX.2.1 hd (k H locs ls k1 n1 h1 h2 h3 h4 h5)
theorem w_i2c {G : Gt} {X : Xt} {b : ByteArray} {nL : Nat} {C : String} {T : Tt} {d : Nat} {lv : List (Nat × Value)} {st : List Value} {sh : List Shp} {r : Rf} {u : Mem} {x : Int32} (pc : Nat) (hX : CxOk G X b nL C T d) (hd : decode b pc = .ok (.i2c, 1)) (k : WM G X (pc + 1) lv (.int ((x.toUInt32 % 65536).toInt32) :: st) sh r u) : WM G X pc lv (.int x :: st) sh r u := by
  obtain ⟨p, e, R, s, m, args, below, meth, c, Q, nL', c0, n0⟩ := X
  intro H locs ls k1 n1 h1 h2 h3 h4 h5
  exact lv_i2c hX.1 hX.2.1 hd rfl (k H locs ls k1 n1 h1 h2 h3 h4 h5)
theorem w_dup {G : Gt} {X : Xt} {b : ByteArray} {nL : Nat} {C : String} {T : Tt} {d : Nat} {lv : List (Nat × Value)} {st : List Value} {sh : List Shp} {r : Rf} {u : Mem} {v : Value} (pc : Nat) (hX : CxOk G X b nL C T d) (hv : v.category = 1) (hd : decode b pc = .ok (.dup, 1)) (k : WM G X (pc + 1) lv (v :: v :: st) sh r u) : WM G X pc lv (v :: st) sh r u := by
  obtain ⟨p, e, R, s, m, args, below, meth, c, Q, nL', c0, n0⟩ := X
  intro H locs ls k1 n1 h1 h2 h3 h4 h5
  exact lv_dup hX.1 hX.2.1 hd (by rw [cv_cat]; exact hv) (k H locs ls k1 n1 h1 h2 h3 h4 h5)
theorem w_pop {G : Gt} {X : Xt} {b : ByteArray} {nL : Nat} {C : String} {T : Tt} {d : Nat} {lv : List (Nat × Value)} {st : List Value} {sh : List Shp} {r : Rf} {u : Mem} {v : Value} (pc : Nat) (hX : CxOk G X b nL C T d) (hv : v.category = 1) (hd : decode b pc = .ok (.pop, 1)) (k : WM G X (pc + 1) lv st sh r u) : WM G X pc lv (v :: st) sh r u := by
  obtain ⟨p, e, R, s, m, args, below, meth, c, Q, nL', c0, n0⟩ := X
  intro H locs ls k1 n1 h1 h2 h3 h4 h5
  exact lv_pop (va := cv G v) hX.1 hX.2.1 hd (by rw [cv_cat]; exact hv) (k H locs ls k1 n1 h1 h2 h3 h4 h5)
theorem w_dup2 {G : Gt} {X : Xt} {b : ByteArray} {nL : Nat} {C : String} {T : Tt} {d : Nat} {lv : List (Nat × Value)} {st : List Value} {sh : List Shp} {r : Rf} {u : Mem} {v w : Value} (pc : Nat) (hX : CxOk G X b nL C T d) (hv : v.category = 1) (hw : w.category = 1) (hd : decode b pc = .ok (.dup2, 1)) (k : WM G X (pc + 1) lv (v :: w :: v :: w :: st) sh r u) : WM G X pc lv (v :: w :: st) sh r u := by
  obtain ⟨p, e, R, s, m, args, below, meth, c, Q, nL', c0, n0⟩ := X
  intro H locs ls k1 n1 h1 h2 h3 h4 h5
  exact lv_dup2_11 hX.1 hX.2.1 hd (by rw [cv_cat]; exact hv) (by rw [cv_cat]; exact hw) (k H locs ls k1 n1 h1 h2 h3 h4 h5)
theorem w_goto {G : Gt} {X : Xt} {b : ByteArray} {nL : Nat} {C : String} {T : Tt} {d : Nat} {lv : List (Nat × Value)} {st : List Value} {sh : List Shp} {r : Rf} {u : Mem} {off : Int} {tgt : Nat} (pc : Nat) (hX : CxOk G X b nL C T d) (ht : (pc : Int) + off = (tgt : Int)) (hd : decode b pc = .ok (.goto off, 3)) (k : WM G X tgt lv st sh r u) : WM G X pc lv st sh r u := by
  obtain ⟨p, e, R, s, m, args, below, meth, c, Q, nL', c0, n0⟩ := X
  intro H locs ls k1 n1 h1 h2 h3 h4 h5
  exact lv_goto hX.1 hX.2.1 hd ht (k H locs ls k1 n1 h1 h2 h3 h4 h5)
theorem w_ifnull {G : Gt} {X : Xt} {b : ByteArray} {nL : Nat} {C : String} {T : Tt} {d : Nat} {lv : List (Nat × Value)} {st : List Value} {sh : List Shp} {r : Rf} {u : Mem} {a : Nat} {off : Int} (pc : Nat) (hX : CxOk G X b nL C T d) (hd : decode b pc = .ok (.ifnull off, 3)) (k : WM G X (pc + 3) lv st sh r u) : WM G X pc lv (.ref a :: st) sh r u := by
  obtain ⟨p, e, R, s, m, args, below, meth, c, Q, nL', c0, n0⟩ := X
  intro H locs ls k1 n1 h1 h2 h3 h4 h5
  exact lv_ifnull hX.1 hX.2.1 hd (k H locs ls k1 n1 h1 h2 h3 h4 h5)
theorem w_ifnonnull {G : Gt} {X : Xt} {b : ByteArray} {nL : Nat} {C : String} {T : Tt} {d : Nat} {lv : List (Nat × Value)} {st : List Value} {sh : List Shp} {r : Rf} {u : Mem} {a : Nat} {off : Int} {tgt : Nat} (pc : Nat) (hX : CxOk G X b nL C T d) (ht : (pc : Int) + off = (tgt : Int)) (hd : decode b pc = .ok (.ifnonnull off, 3)) (k : WM G X tgt lv st sh r u) : WM G X pc lv (.ref a :: st) sh r u := by
  obtain ⟨p, e, R, s, m, args, below, meth, c, Q, nL', c0, n0⟩ := X
  intro H locs ls k1 n1 h1 h2 h3 h4 h5
  exact lv_ifnonnull hX.1 hX.2.1 hd ht (k H locs ls k1 n1 h1 h2 h3 h4 h5)
theorem w_ldc {G : Gt} {X : Xt} {b : ByteArray} {nL : Nat} {C : String} {T : Tt} {d : Nat} {lv : List (Nat × Value)} {st : List Value} {sh : List Shp} {r : Rf} {u : Mem} {ix : Nat} (v : Int32) (pc : Nat) (hX : CxOk G X b nL C T d) (hc : Cond.constant C ix v ∈ TW) (hd : decode b pc = .ok (.ldc ix, 2)) (k : WM G X (pc + 2) lv (.int v :: st) sh r u) : WM G X pc lv st sh r u := by
  obtain ⟨p, e, R, s, m, args, below, meth, c, Q, nL', c0, n0⟩ := X
  intro H locs ls k1 n1 h1 h2 h3 h4 h5
  exact lv_ldc hX.1 hX.2.1 hX.2.2.2.1 (hX.2.2.2.2.1 _ hc) hd (k H locs ls k1 n1 h1 h2 h3 h4 h5) -- hX.1 hX.2.1 hd (k H locs ls k1 n1 h1 h2 h3 h4 h5)
theorem w_ldcw {G : Gt} {X : Xt} {b : ByteArray} {nL : Nat} {C : String} {T : Tt} {d : Nat} {lv : List (Nat × Value)} {st : List Value} {sh : List Shp} {r : Rf} {u : Mem} {ix : Nat} (v : Int32) (pc : Nat) (hX : CxOk G X b nL C T d) (hc : Cond.constant C ix v ∈ TW) (hd : decode b pc = .ok (.ldc_w ix, 3)) (k : WM G X (pc + 3) lv (.int v :: st) sh r u) : WM G X pc lv st sh r u := by
  obtain ⟨p, e, R, s, m, args, below, meth, c, Q, nL', c0, n0⟩ := X
  intro H locs ls k1 n1 h1 h2 h3 h4 h5
  exact lv_ldcw hX.1 hX.2.1 hX.2.2.2.1 (hX.2.2.2.2.1 _ hc) hd (k H locs ls k1 n1 h1 h2 h3 h4 h5) -- hX.1 hX.2.1 hd (k H locs ls k1 n1 h1 h2 h3 h4 h5)
theorem w_iload_n {G : Gt} {X : Xt} {b : ByteArray} {nL : Nat} {C : String} {T : Tt} {d : Nat} {lv : List (Nat × Value)} {st : List Value} {sh : List Shp} {r : Rf} {u : Mem} {i : Nat} {j : Fin 4} {x : Int32} (q : Nat) (pc : Nat) (hX : CxOk G X b nL C T d) (hi : (j : Nat) = i) (hq : lv[q]? = some (i, .int x)) (hd : decode b pc = .ok (.iload_n j, 1)) (k : WM G X (pc + 1) lv (.int x :: st) sh r u) : WM G X pc lv st sh r u := by
  obtain ⟨p, e, R, s, m, args, below, meth, c, Q, nL', c0, n0⟩ := X
  intro H locs ls k1 n1 h1 h2 h3 h4 h5
  exact lv_iload_n hX.1 hX.2.1 hd hi (lvs_at h3 q hq) (k H locs ls k1 n1 h1 h2 h3 h4 h5)
theorem w_iload {G : Gt} {X : Xt} {b : ByteArray} {nL : Nat} {C : String} {T : Tt} {d : Nat} {lv : List (Nat × Value)} {st : List Value} {sh : List Shp} {r : Rf} {u : Mem} {i : Nat} {x : Int32} (q : Nat) (pc : Nat) (hX : CxOk G X b nL C T d) (hq : lv[q]? = some (i, .int x)) (hd : decode b pc = .ok (.iload i, 2)) (k : WM G X (pc + 2) lv (.int x :: st) sh r u) : WM G X pc lv st sh r u := by
  obtain ⟨p, e, R, s, m, args, below, meth, c, Q, nL', c0, n0⟩ := X
  intro H locs ls k1 n1 h1 h2 h3 h4 h5
  exact lv_iload hX.1 hX.2.1 hd (lvs_at h3 q hq) (k H locs ls k1 n1 h1 h2 h3 h4 h5)
theorem w_aload_n {G : Gt} {X : Xt} {b : ByteArray} {nL : Nat} {C : String} {T : Tt} {d : Nat} {lv : List (Nat × Value)} {st : List Value} {sh : List Shp} {r : Rf} {u : Mem} {i a : Nat} {j : Fin 4} (q : Nat) (pc : Nat) (hX : CxOk G X b nL C T d) (hi : (j : Nat) = i) (hq : lv[q]? = some (i, .ref a)) (hd : decode b pc = .ok (.aload_n j, 1)) (k : WM G X (pc + 1) lv (.ref a :: st) sh r u) : WM G X pc lv st sh r u := by
  obtain ⟨p, e, R, s, m, args, below, meth, c, Q, nL', c0, n0⟩ := X
  intro H locs ls k1 n1 h1 h2 h3 h4 h5
  exact lv_aload_n hX.1 hX.2.1 hd hi (lvs_at h3 q hq) (k H locs ls k1 n1 h1 h2 h3 h4 h5)
theorem w_istore_n {G : Gt} {X : Xt} {b : ByteArray} {nL : Nat} {C : String} {T : Tt} {d : Nat} {lv : List (Nat × Value)} {st : List Value} {sh : List Shp} {r : Rf} {u : Mem} {j : Fin 4} {x : Int32} {i : Nat} {lv' : List (Nat × Value)} (pc : Nat) (hX : CxOk G X b nL C T d) (hi : (j : Nat) = i) (hd : decode b pc = .ok (.istore_n j, 1)) (hn : i < nL) (hl : (i, .int x) :: lv.filter (fun q => !(q.1 == i) && !(q.1 + 1 == i && q.2.category == 2)) = lv') (k : WM G X (pc + 1) lv' st sh r u) : WM G X pc lv (.int x :: st) sh r u := by
  obtain ⟨p, e, R, s, m, args, below, meth, c, Q, nL', c0, n0⟩ := X
  intro H locs ls k1 n1 h1 h2 h3 h4 h5
  subst hl
  have hn' : nL' = nL := hX.2.2.2.2.2.2.1
  subst hn'
  exact lv_istore_n hX.1 hX.2.1 hd hi h3 hn (lvs_set G lv i (.int x)) (fun ls' h3' => k H locs ls' k1 n1 h1 h2 h3' h4 h5)
theorem w_istore {G : Gt} {X : Xt} {b : ByteArray} {nL : Nat} {C : String} {T : Tt} {d : Nat} {lv : List (Nat × Value)} {st : List Value} {sh : List Shp} {r : Rf} {u : Mem} {x : Int32} {i : Nat} {lv' : List (Nat × Value)} (pc : Nat) (hX : CxOk G X b nL C T d) (hd : decode b pc = .ok (.istore i, 2)) (hn : i < nL) (hl : (i, .int x) :: lv.filter (fun q => !(q.1 == i) && !(q.1 + 1 == i && q.2.category == 2)) = lv') (k : WM G X (pc + 2) lv' st sh r u) : WM G X pc lv (.int x :: st) sh r u := by
  obtain ⟨p, e, R, s, m, args, below, meth, c, Q, nL', c0, n0⟩ := X
  intro H locs ls k1 n1 h1 h2 h3 h4 h5
  subst hl
  have hn' : nL' = nL := hX.2.2.2.2.2.2.1
  subst hn'
  exact lv_istore hX.1 hX.2.1 hd h3 hn (lvs_set G lv i (.int x)) (fun ls' h3' => k H locs ls' k1 n1 h1 h2 h3' h4 h5)
theorem w_astore_n {G : Gt} {X : Xt} {b : ByteArray} {nL : Nat} {C : String} {T : Tt} {d : Nat} {lv : List (Nat × Value)} {st : List Value} {sh : List Shp} {r : Rf} {u : Mem} {j : Fin 4} {a : Nat} {i : Nat} {lv' : List (Nat × Value)} (pc : Nat) (hX : CxOk G X b nL C T d) (hi : (j : Nat) = i) (hd : decode b pc = .ok (.astore_n j, 1)) (hn : i < nL) (hl : (i, .ref a) :: lv.filter (fun q => !(q.1 == i) && !(q.1 + 1 == i && q.2.category == 2)) = lv') (k : WM G X (pc + 1) lv' st sh r u) : WM G X pc lv (.ref a :: st) sh r u := by
  obtain ⟨p, e, R, s, m, args, below, meth, c, Q, nL', c0, n0⟩ := X
  intro H locs ls k1 n1 h1 h2 h3 h4 h5
  subst hl
  have hn' : nL' = nL := hX.2.2.2.2.2.2.1
  subst hn'
  exact lv_astore_n hX.1 hX.2.1 hd hi h3 hn (lvs_set G lv i (.ref a)) (fun ls' h3' => k H locs ls' k1 n1 h1 h2 h3' h4 h5)
theorem w_iinc {G : Gt} {X : Xt} {b : ByteArray} {nL : Nat} {C : String} {T : Tt} {d : Nat} {lv : List (Nat × Value)} {st : List Value} {sh : List Shp} {r : Rf} {u : Mem} {i : Nat} {n : Int} {x w : Int32} {lv' : List (Nat × Value)} (pc q : Nat) (hX : CxOk G X b nL C T d) (hd : decode b pc = .ok (.iinc i n, 3)) (hq : lv[q]? = some (i, .int x)) (hw : x + Int32.ofInt n = w) (hn : i < nL) (hl : (i, .int w) :: lv.filter (fun q => !(q.1 == i) && !(q.1 + 1 == i && q.2.category == 2)) = lv') (k : WM G X (pc + 3) lv' st sh r u) : WM G X pc lv st sh r u := by
  obtain ⟨p, e, R, s, m, args, below, meth, c, Q, nL', c0, n0⟩ := X
  intro H locs ls k1 n1 h1 h2 h3 h4 h5
  subst hl
  have hn' : nL' = nL := hX.2.2.2.2.2.2.1
  subst hn'
  exact lv_iinc hX.1 hX.2.1 hd h3 (k := q) (x := x) (by simp [lvs, hq, cv]) hw hn (lvs_set G lv i (.int w)) (fun ls' h3' => k H locs ls' k1 n1 h1 h2 h3' h4 h5)
theorem w_if_eq {G : Gt} {X : Xt} {b : ByteArray} {nL : Nat} {C : String} {T : Tt} {d : Nat} {lv : List (Nat × Value)} {st : List Value} {sh : List Shp} {r : Rf} {u : Mem} {x : Int32} {off : Int} {tgt : Nat} (pc : Nat) (hX : CxOk G X b nL C T d) (hd : decode b pc = .ok (.ifCond .eq off, 3)) (ht : (pc : Int) + off = (tgt : Int)) (kt : x = 0 → WM G X tgt lv st sh r u) (kf : ¬ x = 0 → WM G X (pc + 3) lv st sh r u) : WM G X pc lv (.int x :: st) sh r u := by
  obtain ⟨p, e, R, s, m, args, below, meth, c, Q, nL', c0, n0⟩ := X
  intro H locs ls k1 n1 h1 h2 h3 h4 h5
  exact lv_if_eq hX.1 hX.2.1 hd ht (fun h => kt h H locs ls k1 n1 h1 h2 h3 h4 h5) (fun h => kf h H locs ls k1 n1 h1 h2 h3 h4 h5)
theorem w_if_ne {G : Gt} {X : Xt} {b : ByteArray} {nL : Nat} {C : String} {T : Tt} {d : Nat} {lv : List (Nat × Value)} {st : List Value} {sh : List Shp} {r : Rf} {u : Mem} {x : Int32} {off : Int} {tgt : Nat} (pc : Nat) (hX : CxOk G X b nL C T d) (hd : decode b pc = .ok (.ifCond .ne off, 3)) (ht : (pc : Int) + off = (tgt : Int)) (kt : ¬ x = 0 → WM G X tgt lv st sh r u) (kf : x = 0 → WM G X (pc + 3) lv st sh r u) : WM G X pc lv (.int x :: st) sh r u := by
  obtain ⟨p, e, R, s, m, args, below, meth, c, Q, nL', c0, n0⟩ := X
  intro H locs ls k1 n1 h1 h2 h3 h4 h5
  exact lv_if_ne hX.1 hX.2.1 hd ht (fun h => kt h H locs ls k1 n1 h1 h2 h3 h4 h5) (fun h => kf h H locs ls k1 n1 h1 h2 h3 h4 h5)
theorem w_if_lt {G : Gt} {X : Xt} {b : ByteArray} {nL : Nat} {C : String} {T : Tt} {d : Nat} {lv : List (Nat × Value)} {st : List Value} {sh : List Shp} {r : Rf} {u : Mem} {x : Int32} {off : Int} {tgt : Nat} (pc : Nat) (hX : CxOk G X b nL C T d) (hd : decode b pc = .ok (.ifCond .lt off, 3)) (ht : (pc : Int) + off = (tgt : Int)) (kt : x < 0 → WM G X tgt lv st sh r u) (kf : ¬ x < 0 → WM G X (pc + 3) lv st sh r u) : WM G X pc lv (.int x :: st) sh r u := by
  obtain ⟨p, e, R, s, m, args, below, meth, c, Q, nL', c0, n0⟩ := X
  intro H locs ls k1 n1 h1 h2 h3 h4 h5
  exact lv_if_lt hX.1 hX.2.1 hd ht (fun h => kt h H locs ls k1 n1 h1 h2 h3 h4 h5) (fun h => kf h H locs ls k1 n1 h1 h2 h3 h4 h5)
theorem w_if_ge {G : Gt} {X : Xt} {b : ByteArray} {nL : Nat} {C : String} {T : Tt} {d : Nat} {lv : List (Nat × Value)} {st : List Value} {sh : List Shp} {r : Rf} {u : Mem} {x : Int32} {off : Int} {tgt : Nat} (pc : Nat) (hX : CxOk G X b nL C T d) (hd : decode b pc = .ok (.ifCond .ge off, 3)) (ht : (pc : Int) + off = (tgt : Int)) (kt : 0 ≤ x → WM G X tgt lv st sh r u) (kf : ¬ 0 ≤ x → WM G X (pc + 3) lv st sh r u) : WM G X pc lv (.int x :: st) sh r u := by
  obtain ⟨p, e, R, s, m, args, below, meth, c, Q, nL', c0, n0⟩ := X
  intro H locs ls k1 n1 h1 h2 h3 h4 h5
  exact lv_if_ge hX.1 hX.2.1 hd ht (fun h => kt h H locs ls k1 n1 h1 h2 h3 h4 h5) (fun h => kf h H locs ls k1 n1 h1 h2 h3 h4 h5)
theorem w_if_gt {G : Gt} {X : Xt} {b : ByteArray} {nL : Nat} {C : String} {T : Tt} {d : Nat} {lv : List (Nat × Value)} {st : List Value} {sh : List Shp} {r : Rf} {u : Mem} {x : Int32} {off : Int} {tgt : Nat} (pc : Nat) (hX : CxOk G X b nL C T d) (hd : decode b pc = .ok (.ifCond .gt off, 3)) (ht : (pc : Int) + off = (tgt : Int)) (kt : 0 < x → WM G X tgt lv st sh r u) (kf : ¬ 0 < x → WM G X (pc + 3) lv st sh r u) : WM G X pc lv (.int x :: st) sh r u := by
  obtain ⟨p, e, R, s, m, args, below, meth, c, Q, nL', c0, n0⟩ := X
  intro H locs ls k1 n1 h1 h2 h3 h4 h5
  exact lv_if_gt hX.1 hX.2.1 hd ht (fun h => kt h H locs ls k1 n1 h1 h2 h3 h4 h5) (fun h => kf h H locs ls k1 n1 h1 h2 h3 h4 h5)
theorem w_if_le {G : Gt} {X : Xt} {b : ByteArray} {nL : Nat} {C : String} {T : Tt} {d : Nat} {lv : List (Nat × Value)} {st : List Value} {sh : List Shp} {r : Rf} {u : Mem} {x : Int32} {off : Int} {tgt : Nat} (pc : Nat) (hX : CxOk G X b nL C T d) (hd : decode b pc = .ok (.ifCond .le off, 3)) (ht : (pc : Int) + off = (tgt : Int)) (kt : x ≤ 0 → WM G X tgt lv st sh r u) (kf : ¬ x ≤ 0 → WM G X (pc + 3) lv st sh r u) : WM G X pc lv (.int x :: st) sh r u := by
  obtain ⟨p, e, R, s, m, args, below, meth, c, Q, nL', c0, n0⟩ := X
  intro H locs ls k1 n1 h1 h2 h3 h4 h5
  exact lv_if_le hX.1 hX.2.1 hd ht (fun h => kt h H locs ls k1 n1 h1 h2 h3 h4 h5) (fun h => kf h H locs ls k1 n1 h1 h2 h3 h4 h5)
theorem w_icmp_eq {G : Gt} {X : Xt} {b : ByteArray} {nL : Nat} {C : String} {T : Tt} {d : Nat} {lv : List (Nat × Value)} {st : List Value} {sh : List Shp} {r : Rf} {u : Mem} {x y : Int32} {off : Int} {tgt : Nat} (pc : Nat) (hX : CxOk G X b nL C T d) (hd : decode b pc = .ok (.if_icmp .eq off, 3)) (ht : (pc : Int) + off = (tgt : Int)) (kt : x = y → WM G X tgt lv st sh r u) (kf : ¬ x = y → WM G X (pc + 3) lv st sh r u) : WM G X pc lv (.int y :: .int x :: st) sh r u := by
  obtain ⟨p, e, R, s, m, args, below, meth, c, Q, nL', c0, n0⟩ := X
  intro H locs ls k1 n1 h1 h2 h3 h4 h5
  exact lv_icmp_eq hX.1 hX.2.1 hd ht (fun h => kt h H locs ls k1 n1 h1 h2 h3 h4 h5) (fun h => kf h H locs ls k1 n1 h1 h2 h3 h4 h5)
theorem w_icmp_ne {G : Gt} {X : Xt} {b : ByteArray} {nL : Nat} {C : String} {T : Tt} {d : Nat} {lv : List (Nat × Value)} {st : List Value} {sh : List Shp} {r : Rf} {u : Mem} {x y : Int32} {off : Int} {tgt : Nat} (pc : Nat) (hX : CxOk G X b nL C T d) (hd : decode b pc = .ok (.if_icmp .ne off, 3)) (ht : (pc : Int) + off = (tgt : Int)) (kt : ¬ x = y → WM G X tgt lv st sh r u) (kf : x = y → WM G X (pc + 3) lv st sh r u) : WM G X pc lv (.int y :: .int x :: st) sh r u := by
  obtain ⟨p, e, R, s, m, args, below, meth, c, Q, nL', c0, n0⟩ := X
  intro H locs ls k1 n1 h1 h2 h3 h4 h5
  exact lv_icmp_ne hX.1 hX.2.1 hd ht (fun h => kt h H locs ls k1 n1 h1 h2 h3 h4 h5) (fun h => kf h H locs ls k1 n1 h1 h2 h3 h4 h5)
theorem w_icmp_lt {G : Gt} {X : Xt} {b : ByteArray} {nL : Nat} {C : String} {T : Tt} {d : Nat} {lv : List (Nat × Value)} {st : List Value} {sh : List Shp} {r : Rf} {u : Mem} {x y : Int32} {off : Int} {tgt : Nat} (pc : Nat) (hX : CxOk G X b nL C T d) (hd : decode b pc = .ok (.if_icmp .lt off, 3)) (ht : (pc : Int) + off = (tgt : Int)) (kt : x < y → WM G X tgt lv st sh r u) (kf : ¬ x < y → WM G X (pc + 3) lv st sh r u) : WM G X pc lv (.int y :: .int x :: st) sh r u := by
  obtain ⟨p, e, R, s, m, args, below, meth, c, Q, nL', c0, n0⟩ := X
  intro H locs ls k1 n1 h1 h2 h3 h4 h5
  exact lv_icmp_lt hX.1 hX.2.1 hd ht (fun h => kt h H locs ls k1 n1 h1 h2 h3 h4 h5) (fun h => kf h H locs ls k1 n1 h1 h2 h3 h4 h5)
theorem w_icmp_ge {G : Gt} {X : Xt} {b : ByteArray} {nL : Nat} {C : String} {T : Tt} {d : Nat} {lv : List (Nat × Value)} {st : List Value} {sh : List Shp} {r : Rf} {u : Mem} {x y : Int32} {off : Int} {tgt : Nat} (pc : Nat) (hX : CxOk G X b nL C T d) (hd : decode b pc = .ok (.if_icmp .ge off, 3)) (ht : (pc : Int) + off = (tgt : Int)) (kt : y ≤ x → WM G X tgt lv st sh r u) (kf : ¬ y ≤ x → WM G X (pc + 3) lv st sh r u) : WM G X pc lv (.int y :: .int x :: st) sh r u := by
  obtain ⟨p, e, R, s, m, args, below, meth, c, Q, nL', c0, n0⟩ := X
  intro H locs ls k1 n1 h1 h2 h3 h4 h5
  exact lv_icmp_ge hX.1 hX.2.1 hd ht (fun h => kt h H locs ls k1 n1 h1 h2 h3 h4 h5) (fun h => kf h H locs ls k1 n1 h1 h2 h3 h4 h5)
theorem w_icmp_gt {G : Gt} {X : Xt} {b : ByteArray} {nL : Nat} {C : String} {T : Tt} {d : Nat} {lv : List (Nat × Value)} {st : List Value} {sh : List Shp} {r : Rf} {u : Mem} {x y : Int32} {off : Int} {tgt : Nat} (pc : Nat) (hX : CxOk G X b nL C T d) (hd : decode b pc = .ok (.if_icmp .gt off, 3)) (ht : (pc : Int) + off = (tgt : Int)) (kt : y < x → WM G X tgt lv st sh r u) (kf : ¬ y < x → WM G X (pc + 3) lv st sh r u) : WM G X pc lv (.int y :: .int x :: st) sh r u := by
  obtain ⟨p, e, R, s, m, args, below, meth, c, Q, nL', c0, n0⟩ := X
  intro H locs ls k1 n1 h1 h2 h3 h4 h5
  exact lv_icmp_gt hX.1 hX.2.1 hd ht (fun h => kt h H locs ls k1 n1 h1 h2 h3 h4 h5) (fun h => kf h H locs ls k1 n1 h1 h2 h3 h4 h5)
theorem w_icmp_le {G : Gt} {X : Xt} {b : ByteArray} {nL : Nat} {C : String} {T : Tt} {d : Nat} {lv : List (Nat × Value)} {st : List Value} {sh : List Shp} {r : Rf} {u : Mem} {x y : Int32} {off : Int} {tgt : Nat} (pc : Nat) (hX : CxOk G X b nL C T d) (hd : decode b pc = .ok (.if_icmp .le off, 3)) (ht : (pc : Int) + off = (tgt : Int)) (kt : x ≤ y → WM G X tgt lv st sh r u) (kf : ¬ x ≤ y → WM G X (pc + 3) lv st sh r u) : WM G X pc lv (.int y :: .int x :: st) sh r u := by
  obtain ⟨p, e, R, s, m, args, below, meth, c, Q, nL', c0, n0⟩ := X
  intro H locs ls k1 n1 h1 h2 h3 h4 h5
  exact lv_icmp_le hX.1 hX.2.1 hd ht (fun h => kt h H locs ls k1 n1 h1 h2 h3 h4 h5) (fun h => kf h H locs ls k1 n1 h1 h2 h3 h4 h5)
theorem w_tabOut {G : Gt} {X : Xt} {b : ByteArray} {nL : Nat} {C : String} {T : Tt} {d : Nat} {lv : List (Nat × Value)} {st : List Value} {sh : List Shp} {r : Rf} {u : Mem} {x : Int32} {dflt lo hi : Int} {offs : Array Int} {len tgt : Nat} (pc : Nat) (hX : CxOk G X b nL C T d) (hd : decode b pc = .ok (.tableswitch dflt lo hi offs, len)) (h : x.toInt < lo ∨ hi < x.toInt) (ht : (pc : Int) + dflt = (tgt : Int)) (k : WM G X tgt lv st sh r u) : WM G X pc lv (.int x :: st) sh r u := by
  obtain ⟨p, e, R, s, m, args, below, meth, c, Q, nL', c0, n0⟩ := X
  intro H locs ls k1 n1 h1 h2 h3 h4 h5
  exact lv_tableOut hX.1 hX.2.1 hd h ht (k H locs ls k1 n1 h1 h2 h3 h4 h5)
theorem w_tabIn {G : Gt} {X : Xt} {b : ByteArray} {nL : Nat} {C : String} {T : Tt} {d : Nat} {lv : List (Nat × Value)} {st : List Value} {sh : List Shp} {r : Rf} {u : Mem} {x : Int32} {dflt lo hi off : Int} {offs : Array Int} {len tgt : Nat} (pc : Nat) (hX : CxOk G X b nL C T d) (hd : decode b pc = .ok (.tableswitch dflt lo hi offs, len)) (z1 : ¬ x.toInt < lo) (z2 : ¬ hi < x.toInt) (ho : offs[(x.toInt - lo).toNat]? = some off) (ht : (pc : Int) + off = (tgt : Int)) (k : WM G X tgt lv st sh r u) : WM G X pc lv (.int x :: st) sh r u := by
  obtain ⟨p, e, R, s, m, args, below, meth, c, Q, nL', c0, n0⟩ := X
  intro H locs ls k1 n1 h1 h2 h3 h4 h5
  exact lv_tableIn hX.1 hX.2.1 hd z1 z2 ho ht (k H locs ls k1 n1 h1 h2 h3 h4 h5)
theorem w_lookup {G : Gt} {X : Xt} {b : ByteArray} {nL : Nat} {C : String} {T : Tt} {d : Nat} {lv : List (Nat × Value)} {st : List Value} {sh : List Shp} {r : Rf} {u : Mem} {x : Int32} {dflt off : Int} {ps : Array (Int × Int)} {len tgt : Nat} (pc : Nat) (hX : CxOk G X b nL C T d) (hd : decode b pc = .ok (.lookupswitch dflt ps, len)) (hp : (ps.toList.zip (ps.toList.drop 1)).all (fun (a, next) => a.1 < next.1) = true) (ho : Op.lookupswitch.offset ps.toList dflt x.toInt = off) (ht : (pc : Int) + off = (tgt : Int)) (k : WM G X tgt lv st sh r u) : WM G X pc lv (.int x :: st) sh r u := by
  obtain ⟨p, e, R, s, m, args, below, meth, c, Q, nL', c0, n0⟩ := X
  intro H locs ls k1 n1 h1 h2 h3 h4 h5
  exact lv_lookup hX.1 hX.2.1 hd hp ho ht (k H locs ls k1 n1 h1 h2 h3 h4 h5)
theorem w_iret {G : Gt} {X : Xt} {b : ByteArray} {nL : Nat} {C : String} {T : Tt} {d : Nat} {lv : List (Nat × Value)} {sh : List Shp} {r : Rf} {u : Mem} {x : Int32} (pc : Nat) (hX : CxOk G X b nL C T d) (hR : CxRet G X (some .int) T) (hd : decode b pc = .ok (.ireturn, 1)) (hT : T = (some (.int x), sh, r, u)) : WM G X pc lv [.int x] sh r u := by
  obtain ⟨p, e, R, s, m, args, below, meth, c, Q, nL', c0, n0⟩ := X
  intro H locs ls k1 n1 h1 h2 h3 h4 h5
  subst hT
  obtain ⟨hr, rfl⟩ := hR
  have e1 : k1 = sh.length - c0 := by omega
  have e2 : n1 = ssum sh - n0 := by omega
  subst e1; subst e2
  have hl : meth.locks = false := hX.2.2.2.2.2.2.2.2.2.2.2
  exact W.iret (v := x) hX.1 hX.2.1 hr (fun t ht hW => ⟨rfl, by rw [ht]; exact h1, RepW.warm hW hX.2.2.2.2.2.1⟩) h2 hd hl
theorem w_zret {G : Gt} {X : Xt} {b : ByteArray} {nL : Nat} {C : String} {T : Tt} {d : Nat} {lv : List (Nat × Value)} {sh : List Shp} {r : Rf} {u : Mem} {x : Int32} (pc : Nat) (hX : CxOk G X b nL C T d) (hR : CxRet G X (some .boolean) T) (hx : narrow .boolean (.int x) = .int x) (hd : decode b pc = .ok (.ireturn, 1)) (hT : T = (some (.int x), sh, r, u)) : WM G X pc lv [.int x] sh r u := by
  obtain ⟨p, e, R, s, m, args, below, meth, c, Q, nL', c0, n0⟩ := X
  intro H locs ls k1 n1 h1 h2 h3 h4 h5
  subst hT
  obtain ⟨hr, rfl⟩ := hR
  have e1 : k1 = sh.length - c0 := by omega
  have e2 : n1 = ssum sh - n0 := by omega
  subst e1; subst e2
  have hl : meth.locks = false := hX.2.2.2.2.2.2.2.2.2.2.2
  exact W.zret (v := x) hX.1 hX.2.1 hr hx (fun t ht hW => ⟨rfl, by rw [ht]; exact h1, RepW.warm hW hX.2.2.2.2.2.1⟩) h2 hd hl
theorem w_vret {G : Gt} {X : Xt} {b : ByteArray} {nL : Nat} {C : String} {T : Tt} {d : Nat} {lv : List (Nat × Value)} {sh : List Shp} {r : Rf} {u : Mem} (pc : Nat) (hX : CxOk G X b nL C T d) (hR : CxRet G X none T) (hd : decode b pc = .ok (.return_, 1)) (hT : T = (none, sh, r, u)) : WM G X pc lv [] sh r u := by
  obtain ⟨p, e, R, s, m, args, below, meth, c, Q, nL', c0, n0⟩ := X
  intro H locs ls k1 n1 h1 h2 h3 h4 h5
  subst hT
  obtain ⟨hr, rfl⟩ := hR
  have e1 : k1 = sh.length - c0 := by omega
  have e2 : n1 = ssum sh - n0 := by omega
  subst e1; subst e2
  have hl : meth.locks = false := hX.2.2.2.2.2.2.2.2.2.2.2
  exact W.vret hX.1 hX.2.1 hr (fun t ht hW => ⟨rfl, by rw [ht]; exact h1, RepW.warm hW hX.2.2.2.2.2.1⟩) h2 hd hl
theorem w_aret {G : Gt} {X : Xt} {b : ByteArray} {nL : Nat} {C : String} {T : Tt} {d : Nat} {lv : List (Nat × Value)} {sh : List Shp} {r : Rf} {u : Mem} {a : Nat} {rt : FieldType} (pc : Nat) (hX : CxOk G X b nL C T d) (hR : CxRet G X (some rt) T) (hrt : (∃ n, rt = .object n) ∨ ∃ t, rt = .array t) (hd : decode b pc = .ok (.areturn, 1)) (hT : T = (some (.ref a), sh, r, u)) : WM G X pc lv [.ref a] sh r u := by
  obtain ⟨p, e, R, s, m, args, below, meth, c, Q, nL', c0, n0⟩ := X
  intro H locs ls k1 n1 h1 h2 h3 h4 h5
  subst hT
  obtain ⟨hr, rfl⟩ := hR
  have e1 : k1 = sh.length - c0 := by omega
  have e2 : n1 = ssum sh - n0 := by omega
  subst e1; subst e2
  have hl : meth.locks = false := hX.2.2.2.2.2.2.2.2.2.2.2
  exact W.aret (v := .ref (adr G a)) hX.1 hX.2.1 hr hrt (Or.inr ⟨_, rfl⟩) (fun t ht hW => ⟨rfl, by rw [ht]; exact h1, RepW.warm hW hX.2.2.2.2.2.1⟩) h2 hd hl
