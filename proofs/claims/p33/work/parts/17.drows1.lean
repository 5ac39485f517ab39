theorem w_aload {G : Gt} {X : Xt} {b : ByteArray} {nL : Nat} {C : String} {T : Tt} {d : Nat} {lv : List (Nat × Value)} {st : List Value} {sh : List Shp} {r : Rf} {u : Mem} {i a : Nat} (q : Nat) (pc : Nat) (hX : CxOk G X b nL C T d) (hq : lv[q]? = some (i, .ref a)) (hd : decode b pc = .ok (.aload i, 2)) (k : WM G X (pc + 2) lv (.ref a :: st) sh r u) : WM G X pc lv st sh r u := by
  obtain ⟨p, e, R, s, m, args, below, meth, c, Q, nL', c0, n0⟩ := X
  intro H locs ls k1 n1 h1 h2 h3 h4 h5
  obtain ⟨x1, x2, x3, x4, x5, x6, x7, x8, x9, x10, x11, x12⟩ := hX
  exact lv_aload x1 x2 hd (lvs_at h3 q hq) (k H locs ls k1 n1 h1 h2 h3 h4 h5)
theorem w_aloadN {G : Gt} {X : Xt} {b : ByteArray} {nL : Nat} {C : String} {T : Tt} {d : Nat} {lv : List (Nat × Value)} {st : List Value} {sh : List Shp} {r : Rf} {u : Mem} {i : Nat} (q : Nat) (pc : Nat) (hX : CxOk G X b nL C T d) (hq : lv[q]? = some (i, .null)) (hd : decode b pc = .ok (.aload i, 2)) (k : WM G X (pc + 2) lv (.null :: st) sh r u) : WM G X pc lv st sh r u := by
  obtain ⟨p, e, R, s, m, args, below, meth, c, Q, nL', c0, n0⟩ := X
  intro H locs ls k1 n1 h1 h2 h3 h4 h5
  obtain ⟨x1, x2, x3, x4, x5, x6, x7, x8, x9, x10, x11, x12⟩ := hX
  exact lv_aloadN x1 x2 hd (lvs_at h3 q hq) (k H locs ls k1 n1 h1 h2 h3 h4 h5)
theorem w_aload_nN {G : Gt} {X : Xt} {b : ByteArray} {nL : Nat} {C : String} {T : Tt} {d : Nat} {lv : List (Nat × Value)} {st : List Value} {sh : List Shp} {r : Rf} {u : Mem} {i : Nat} {j : Fin 4} (q : Nat) (pc : Nat) (hX : CxOk G X b nL C T d) (hi : (j : Nat) = i) (hq : lv[q]? = some (i, .null)) (hd : decode b pc = .ok (.aload_n j, 1)) (k : WM G X (pc + 1) lv (.null :: st) sh r u) : WM G X pc lv st sh r u := by
  obtain ⟨p, e, R, s, m, args, below, meth, c, Q, nL', c0, n0⟩ := X
  intro H locs ls k1 n1 h1 h2 h3 h4 h5
  obtain ⟨x1, x2, x3, x4, x5, x6, x7, x8, x9, x10, x11, x12⟩ := hX
  exact lv_aload_nN x1 x2 hd hi (lvs_at h3 q hq) (k H locs ls k1 n1 h1 h2 h3 h4 h5)
theorem w_astore {G : Gt} {X : Xt} {b : ByteArray} {nL : Nat} {C : String} {T : Tt} {d : Nat} {lv : List (Nat × Value)} {st : List Value} {sh : List Shp} {r : Rf} {u : Mem} {a : Nat} {i : Nat} {lv' : List (Nat × Value)} (pc : Nat) (hX : CxOk G X b nL C T d) (hd : decode b pc = .ok (.astore i, 2)) (hn : i < nL) (hl : (i, .ref a) :: lv.filter (fun q => !(q.1 == i) && !(q.1 + 1 == i && q.2.category == 2)) = lv') (k : WM G X (pc + 2) lv' st sh r u) : WM G X pc lv (.ref a :: st) sh r u := by
  obtain ⟨p, e, R, s, m, args, below, meth, c, Q, nL', c0, n0⟩ := X
  intro H locs ls k1 n1 h1 h2 h3 h4 h5
  obtain ⟨x1, x2, x3, x4, x5, x6, x7, x8, x9, x10, x11, x12⟩ := hX
  subst hl
  subst x7
  exact lv_astore x1 x2 hd h3 hn (lvs_set G lv i (.ref a)) (fun ls' h3' => k H locs ls' k1 n1 h1 h2 h3' h4 h5)
theorem w_astoreN {G : Gt} {X : Xt} {b : ByteArray} {nL : Nat} {C : String} {T : Tt} {d : Nat} {lv : List (Nat × Value)} {st : List Value} {sh : List Shp} {r : Rf} {u : Mem} {i : Nat} {lv' : List (Nat × Value)} (pc : Nat) (hX : CxOk G X b nL C T d) (hd : decode b pc = .ok (.astore i, 2)) (hn : i < nL) (hl : (i, .null) :: lv.filter (fun q => !(q.1 == i) && !(q.1 + 1 == i && q.2.category == 2)) = lv') (k : WM G X (pc + 2) lv' st sh r u) : WM G X pc lv (.null :: st) sh r u := by
  obtain ⟨p, e, R, s, m, args, below, meth, c, Q, nL', c0, n0⟩ := X
  intro H locs ls k1 n1 h1 h2 h3 h4 h5
  obtain ⟨x1, x2, x3, x4, x5, x6, x7, x8, x9, x10, x11, x12⟩ := hX
  subst hl
  subst x7
  exact lv_astoreN x1 x2 hd h3 hn (lvs_set G lv i (.null)) (fun ls' h3' => k H locs ls' k1 n1 h1 h2 h3' h4 h5)
theorem w_astore_nN {G : Gt} {X : Xt} {b : ByteArray} {nL : Nat} {C : String} {T : Tt} {d : Nat} {lv : List (Nat × Value)} {st : List Value} {sh : List Shp} {r : Rf} {u : Mem} {j : Fin 4} {i : Nat} {lv' : List (Nat × Value)} (pc : Nat) (hX : CxOk G X b nL C T d) (hi : (j : Nat) = i) (hd : decode b pc = .ok (.astore_n j, 1)) (hn : i < nL) (hl : (i, .null) :: lv.filter (fun q => !(q.1 == i) && !(q.1 + 1 == i && q.2.category == 2)) = lv') (k : WM G X (pc + 1) lv' st sh r u) : WM G X pc lv (.null :: st) sh r u := by
  obtain ⟨p, e, R, s, m, args, below, meth, c, Q, nL', c0, n0⟩ := X
  intro H locs ls k1 n1 h1 h2 h3 h4 h5
  obtain ⟨x1, x2, x3, x4, x5, x6, x7, x8, x9, x10, x11, x12⟩ := hX
  subst hl
  subst x7
  exact lv_astore_nN x1 x2 hd hi h3 hn (lvs_set G lv i (.null)) (fun ls' h3' => k H locs ls' k1 n1 h1 h2 h3' h4 h5)
theorem w_dup_x1 {G : Gt} {X : Xt} {b : ByteArray} {nL : Nat} {C : String} {T : Tt} {d : Nat} {lv : List (Nat × Value)} {st : List Value} {sh : List Shp} {r : Rf} {u : Mem} {v w : Value} (pc : Nat) (hX : CxOk G X b nL C T d) (hv : v.category = 1) (hw : w.category = 1) (hd : decode b pc = .ok (.dup_x1, 1)) (k : WM G X (pc + 1) lv (v :: w :: v :: st) sh r u) : WM G X pc lv (v :: w :: st) sh r u := by
  obtain ⟨p, e, R, s, m, args, below, meth, c, Q, nL', c0, n0⟩ := X
  intro H locs ls k1 n1 h1 h2 h3 h4 h5
  obtain ⟨x1, x2, x3, x4, x5, x6, x7, x8, x9, x10, x11, x12⟩ := hX
  exact lv_dup_x1 (va := cv G v) (vb := cv G w) x1 x2 hd (by rw [cv_cat]; exact hv) (by rw [cv_cat]; exact hw) (k H locs ls k1 n1 h1 h2 h3 h4 h5)
theorem w_null {G : Gt} {X : Xt} {b : ByteArray} {nL : Nat} {C : String} {T : Tt} {d : Nat} {lv : List (Nat × Value)} {st : List Value} {sh : List Shp} {r : Rf} {u : Mem} (pc : Nat) (hX : CxOk G X b nL C T d) (hd : decode b pc = .ok (.aconst_null, 1)) (k : WM G X (pc + 1) lv (.null :: st) sh r u) : WM G X pc lv st sh r u := by
  obtain ⟨p, e, R, s, m, args, below, meth, c, Q, nL', c0, n0⟩ := X
  intro H locs ls k1 n1 h1 h2 h3 h4 h5
  obtain ⟨x1, x2, x3, x4, x5, x6, x7, x8, x9, x10, x11, x12⟩ := hX
  exact lv_null x1 x2 hd (k H locs ls k1 n1 h1 h2 h3 h4 h5)
theorem w_ifnullN {G : Gt} {X : Xt} {b : ByteArray} {nL : Nat} {C : String} {T : Tt} {d : Nat} {lv : List (Nat × Value)} {st : List Value} {sh : List Shp} {r : Rf} {u : Mem} {off : Int} {tgt : Nat} (pc : Nat) (hX : CxOk G X b nL C T d) (ht : (pc : Int) + off = (tgt : Int)) (hd : decode b pc = .ok (.ifnull off, 3)) (k : WM G X tgt lv st sh r u) : WM G X pc lv (.null :: st) sh r u := by
  obtain ⟨p, e, R, s, m, args, below, meth, c, Q, nL', c0, n0⟩ := X
  intro H locs ls k1 n1 h1 h2 h3 h4 h5
  obtain ⟨x1, x2, x3, x4, x5, x6, x7, x8, x9, x10, x11, x12⟩ := hX
  exact lv_ifnullN x1 x2 hd ht (k H locs ls k1 n1 h1 h2 h3 h4 h5)
theorem w_ifnonnullN {G : Gt} {X : Xt} {b : ByteArray} {nL : Nat} {C : String} {T : Tt} {d : Nat} {lv : List (Nat × Value)} {st : List Value} {sh : List Shp} {r : Rf} {u : Mem} {off : Int} (pc : Nat) (hX : CxOk G X b nL C T d) (hd : decode b pc = .ok (.ifnonnull off, 3)) (k : WM G X (pc + 3) lv st sh r u) : WM G X pc lv (.null :: st) sh r u := by
  obtain ⟨p, e, R, s, m, args, below, meth, c, Q, nL', c0, n0⟩ := X
  intro H locs ls k1 n1 h1 h2 h3 h4 h5
  obtain ⟨x1, x2, x3, x4, x5, x6, x7, x8, x9, x10, x11, x12⟩ := hX
  exact lv_ifnonnullN x1 x2 hd (k H locs ls k1 n1 h1 h2 h3 h4 h5)
theorem w_anret {G : Gt} {X : Xt} {b : ByteArray} {nL : Nat} {C : String} {T : Tt} {d : Nat} {lv : List (Nat × Value)} {sh : List Shp} {r : Rf} {u : Mem} {rt : FieldType} (pc : Nat) (hX : CxOk G X b nL C T d) (hR : CxRet G X (some rt) T) (hrt : (∃ n, rt = .object n) ∨ ∃ t, rt = .array t) (hd : decode b pc = .ok (.areturn, 1)) (hT : T = (some .null, sh, r, u)) : WM G X pc lv [.null] sh r u := by
  obtain ⟨p, e, R, s, m, args, below, meth, c, Q, nL', c0, n0⟩ := X
  intro H locs ls k1 n1 h1 h2 h3 h4 h5
  subst hT
  obtain ⟨hr, rfl⟩ := hR
  have e1 : k1 = sh.length - c0 := by omega
  have e2 : n1 = ssum sh - n0 := by omega
  subst e1; subst e2
  have hl : meth.locks = false := hX.2.2.2.2.2.2.2.2.2.2.2
  exact W.aret (v := .null) hX.1 hX.2.1 hr hrt (Or.inl rfl) (fun t ht hW => ⟨rfl, by rw [ht]; exact h1, RepW.warm hW hX.2.2.2.2.2.1⟩) h2 hd hl
theorem w_getIN {G : Gt} {X : Xt} {b : ByteArray} {nL : Nat} {C : String} {T : Tt} {d : Nat} {lv : List (Nat × Value)} {st : List Value} {sh : List Shp} {r : Rf} {u : Mem} {ci a j N ix : Nat} {Rn rf host : String} {F : u_T} {ty : Nat → FieldType} (pc : Nat) (hX : CxOk G X b nL C T d) (hC : CI ci Rn F N ty) (hs : sh[a]? = some (.inr (.inl ci))) (hf : (fkind ci)[j]? = some false) (hl : Cond.fieldLinkNest C ix rf (F j).2.1 (F j).2.2.1 host ∈ NW) (hr : (F j).1 = rf) (hd : decode b pc = .ok (.getfield ix, 3)) (k : WM G X (pc + 3) lv (.int (u a j) :: st) sh r u) : WM G X pc lv (.ref a :: st) sh r u := by
  obtain ⟨p, e, R, s, m, args, below, meth, c, Q, nL', c0, n0⟩ := X
  intro H locs ls k1 n1 h1 h2 h3 h4 h5
  obtain ⟨x1, x2, x3, x4, x5, x6, x7, x8, x9, x10, x11, x12⟩ := hX
  have hk : j < N := by rw [← hC.2.2.2.2]; exact (List.getElem?_eq_some_iff.mp hf).1
  have hP := vaP1 (h1.1 a _ hs)
  show W p (gL G) e R s m args below meth c H locs k1 n1 Q (F0 m pc ls (.ref (adr G a) :: sts G st))
  rw [h1.adr0 hs]
  exact va_getN (C := Rn) (T := F) (N := N) (ref := rf) x1 x2 x5 hC.2.1 x4 x6.1 hP 0 rfl hC.1 j hk (va_Nw.use rfl (x6.2.1 _ hl)) (fun x hx => by rw [hr] at hx; exact hx) (v := .int (u a j)) (flds_I G _ _ hf) hd (k H locs ls k1 n1 h1 h2 h3 h4 h5)
theorem flds_O (G : Gt) {ci k : Nat} (r : Nat → Option Nat) (u : Nat → Int32) (hf : (fkind ci)[k]? = some true) : (flds G ci r u)[k]? = some (va_rf ((r k).map (adr G))) := by
  simp [flds, List.getElem?_mapIdx, hf]
theorem cv_ov (G : Gt) (o : Option Nat) : cv G (ov o) = va_rf (o.map (adr G)) := by cases o <;> rfl
theorem flds_setO (G : Gt) {ci k a : Nat} (r : Rf) (u : Nat → Int32) (o : Option Nat) (hf : (fkind ci)[k]? = some true) : (flds G ci (r a) u).set k (va_rf (o.map (adr G))) = flds G ci (roset r a k o a) u := by
  apply List.ext_getElem?
  intro i
  by_cases hj : i = k
  · subst hj
    have h1 : i < (flds G ci (r a) u).length := by rw [flds_len]; exact (List.getElem?_eq_some_iff.mp hf).1
    rw [List.getElem?_set_self h1, flds_O G _ u hf]
    simp [roset]
  · rw [List.getElem?_set_ne (Ne.symm hj)]
    simp [flds, List.getElem?_mapIdx, roset, hj]
theorem w_getO {G : Gt} {X : Xt} {b : ByteArray} {nL : Nat} {C : String} {T : Tt} {d : Nat} {lv : List (Nat × Value)} {st : List Value} {sh : List Shp} {r : Rf} {u : Mem} {ci a j N ix : Nat} {Rn rf : String} {F : u_T} {ty : Nat → FieldType} (pc : Nat) (hX : CxOk G X b nL C T d) (hC : CI ci Rn F N ty) (hs : sh[a]? = some (.inr (.inl ci))) (hf : (fkind ci)[j]? = some true) (hl : Cond.fieldLink C ix rf (F j).2.1 (F j).2.2.1 ∈ TW) (hr : (F j).1 = rf) (hd : decode b pc = .ok (.getfield ix, 3)) (k : WM G X (pc + 3) lv (ov (r a j) :: st) sh r u) : WM G X pc lv (.ref a :: st) sh r u := by
  obtain ⟨p, e, R, s, m, args, below, meth, c, Q, nL', c0, n0⟩ := X
  intro H locs ls k1 n1 h1 h2 h3 h4 h5
  obtain ⟨x1, x2, x3, x4, x5, x6, x7, x8, x9, x10, x11, x12⟩ := hX
  have hk : j < N := by rw [← hC.2.2.2.2]; exact (List.getElem?_eq_some_iff.mp hf).1
  have hP := vaP1 (h1.1 a _ hs)
  show W p (gL G) e R s m args below meth c H locs k1 n1 Q (F0 m pc ls (.ref (adr G a) :: sts G st))
  rw [h1.adr0 hs]
  have hk9 := k H locs ls k1 n1 h1 h2 h3 h4 h5
  have e9 : sts G (ov (r a j) :: st) = va_rf ((r a j).map (adr G)) :: sts G st := by rw [← cv_ov]; rfl
  rw [e9] at hk9
  exact va_get (C := Rn) (T := F) (N := N) (ref := rf) x1 x2 x5 hC.2.1 x4 x6.1 hP 0 rfl hC.1 j hk (x5 _ hl) (fun x hx => by rw [hr] at hx; exact hx) (v := va_rf ((r a j).map (adr G))) (flds_O G _ _ hf) hd hk9
theorem w_putO {G : Gt} {X : Xt} {b : ByteArray} {nL : Nat} {C : String} {T : Tt} {d : Nat} {lv : List (Nat × Value)} {st : List Value} {sh : List Shp} {r : Rf} {u : Mem} {ci a j N ix : Nat} {Rn rf : String} {F : u_T} {ty : Nat → FieldType} (o : Option Nat) (pc : Nat) (hX : CxOk G X b nL C T d) (hC : CI ci Rn F N ty) (hs : sh[a]? = some (.inr (.inl ci))) (hf : (fkind ci)[j]? = some true) (hl : Cond.fieldLink C ix rf (F j).2.1 (F j).2.2.1 ∈ TW) (hr : (F j).1 = rf) (hfin : (F j).2.2.2 = false) (hnar : ∀ o : Option Nat, narrow (ty j) (va_rf o) = va_rf o) (hfit : ∀ o : Option Nat, fits (ty j) (va_rf o) = true) (hd : decode b pc = .ok (.putfield ix, 3)) (k : WM G X (pc + 3) lv st sh (roset r a j o) u) : WM G X pc lv (ov o :: .ref a :: st) sh r u := by
  obtain ⟨p, e, R, s, m, args, below, meth, c, Q, nL', c0, n0⟩ := X
  intro H locs ls k1 n1 h1 h2 h3 h4 h5
  obtain ⟨x1, x2, x3, x4, x5, x6, x7, x8, x9, x10, x11, x12⟩ := hX
  have hk : j < N := by rw [← hC.2.2.2.2]; exact (List.getElem?_eq_some_iff.mp hf).1
  have hap := va_apart (own := C) x5 hC.2.1 ty hC.2.2.1 hC.2.2.2.1 x6.1 hC.1
  obtain ⟨rr, g1, cell, q1, q2, q3, q4⟩ := h1.1 a _ hs
  have hrr : rr = (Rn, F, N) := Option.some.inj (g1.symm.trans hC.1)
  subst hrr
  obtain ⟨hS, hfc, kC, hkC, hkind⟩ := x6.1.1 ci _ hC.1
  obtain ⟨cf, kf, fi, f, hi, hsl⟩ := hS j hk
  have hlay := x5 _ (hC.2.1 _ (u_in_lay hk))
  unfold u_lay at hlay
  rw [if_neg (by rw [hfin]; decide)] at hlay
  have hst := (u_facts hfc hkC (u_lays x5 hC.2.1 hk) hi).1
  have h6 := u_store hfc hkC hkind hlay hi (hC.2.2.1 j hk) (hnar (o.map (adr G))) (hfit (o.map (adr G)))
  show W p (gL G) e R s m args below meth c H locs k1 n1 Q (F0 m pc ls (cv G (ov o) :: .ref (adr G a) :: sts G st))
  rw [h1.adr0 hs, cv_ov]
  refine W.putK x1 x2 (f := f) ⟨x4, x5 _ hl, ⟨_, _, _, by rw [hr] at hi; exact hi⟩, hst⟩ (by rw [q2]; exact h6) q1 q3 (by rw [hsl]; exact k2_hasslot (q4 j hk)) rfl rfl hd fun H' e1 e2 e3 => ?_
  rw [hsl] at e1
  refine k H' _ ls k1 n1 (h1.put hs (r' := roset r a j o) (u' := u) ?_ e2 e3 (fun _ _ => rfl) (fun y hy => by funext i; simp [roset, hy])) (loc_in h2) h3 h4 h5
  show va_at (gD G) vwCl (gN G + a, .inr (ci, flds G ci (roset r a j o a) (u a))) H'
  rw [← flds_setO G _ _ _ hf]
  exact ⟨_, hC.1, t_OB.to (V := updV (vp_V (flds G ci (r a) (u a))) j (va_rf (o.map (adr G)))) ⟨_, e1, q2, q3, t_set q4 hap hk (va_rf (o.map (adr G)))⟩ (fun y _ => vp_updV_set (by rw [flds_len]; exact (List.getElem?_eq_some_iff.mp hf).1) (va_rf (o.map (adr G))) y)⟩
theorem w_getON {G : Gt} {X : Xt} {b : ByteArray} {nL : Nat} {C : String} {T : Tt} {d : Nat} {lv : List (Nat × Value)} {st : List Value} {sh : List Shp} {r : Rf} {u : Mem} {ci a j N ix : Nat} {Rn rf host : String} {F : u_T} {ty : Nat → FieldType} (pc : Nat) (hX : CxOk G X b nL C T d) (hC : CI ci Rn F N ty) (hs : sh[a]? = some (.inr (.inl ci))) (hf : (fkind ci)[j]? = some true) (hl : Cond.fieldLinkNest C ix rf (F j).2.1 (F j).2.2.1 host ∈ NW) (hr : (F j).1 = rf) (hd : decode b pc = .ok (.getfield ix, 3)) (k : WM G X (pc + 3) lv (ov (r a j) :: st) sh r u) : WM G X pc lv (.ref a :: st) sh r u := by
  obtain ⟨p, e, R, s, m, args, below, meth, c, Q, nL', c0, n0⟩ := X
  intro H locs ls k1 n1 h1 h2 h3 h4 h5
  obtain ⟨x1, x2, x3, x4, x5, x6, x7, x8, x9, x10, x11, x12⟩ := hX
  have hk : j < N := by rw [← hC.2.2.2.2]; exact (List.getElem?_eq_some_iff.mp hf).1
  have hP := vaP1 (h1.1 a _ hs)
  show W p (gL G) e R s m args below meth c H locs k1 n1 Q (F0 m pc ls (.ref (adr G a) :: sts G st))
  rw [h1.adr0 hs]
  have hk9 := k H locs ls k1 n1 h1 h2 h3 h4 h5
  have e9 : sts G (ov (r a j) :: st) = va_rf ((r a j).map (adr G)) :: sts G st := by rw [← cv_ov]; rfl
  rw [e9] at hk9
  exact va_getN (C := Rn) (T := F) (N := N) (ref := rf) x1 x2 x5 hC.2.1 x4 x6.1 hP 0 rfl hC.1 j hk (va_Nw.use rfl (x6.2.1 _ hl)) (fun x hx => by rw [hr] at hx; exact hx) (v := va_rf ((r a j).map (adr G))) (flds_O G _ _ hf) hd hk9
theorem w_putIN {G : Gt} {X : Xt} {b : ByteArray} {nL : Nat} {C : String} {T : Tt} {d : Nat} {lv : List (Nat × Value)} {st : List Value} {sh : List Shp} {r : Rf} {u : Mem} {ci a j N ix : Nat} {Rn rf host : String} {F : u_T} {ty : Nat → FieldType} {x : Int32} (pc : Nat) (hX : CxOk G X b nL C T d) (hC : CI ci Rn F N ty) (hs : sh[a]? = some (.inr (.inl ci))) (hf : (fkind ci)[j]? = some false) (hl : Cond.fieldLinkNest C ix rf (F j).2.1 (F j).2.2.1 host ∈ NW) (hr : (F j).1 = rf) (hfin : (F j).2.2.2 = false) (hnar : narrow (ty j) (.int x) = .int x) (hfit : fits (ty j) (.int x) = true) (hd : decode b pc = .ok (.putfield ix, 3)) (k : WM G X (pc + 3) lv st sh r (mupd u a j x)) : WM G X pc lv (.int x :: .ref a :: st) sh r u := by
  obtain ⟨p, e, R, s, m, args, below, meth, c, Q, nL', c0, n0⟩ := X
  intro H locs ls k1 n1 h1 h2 h3 h4 h5
  obtain ⟨x1, x2, x3, x4, x5, x6, x7, x8, x9, x10, x11, x12⟩ := hX
  have hk : j < N := by rw [← hC.2.2.2.2]; exact (List.getElem?_eq_some_iff.mp hf).1
  have hap := va_apart (own := C) x5 hC.2.1 ty hC.2.2.1 hC.2.2.2.1 x6.1 hC.1
  obtain ⟨rr, g1, cell, q1, q2, q3, q4⟩ := h1.1 a _ hs
  have hrr : rr = (Rn, F, N) := Option.some.inj (g1.symm.trans hC.1)
  subst hrr
  obtain ⟨hS, hfc, kC, hkC, hkind⟩ := x6.1.1 ci _ hC.1
  obtain ⟨cf, kf, fi, f, hi, hsl⟩ := hS j hk
  have hlay := x5 _ (hC.2.1 _ (u_in_lay hk))
  unfold u_lay at hlay
  rw [if_neg (by rw [hfin]; decide)] at hlay
  have hst := (u_facts hfc hkC (u_lays x5 hC.2.1 hk) hi).1
  have h6 := u_store hfc hkC hkind hlay hi (hC.2.2.1 j hk) hnar hfit
  show W p (gL G) e R s m args below meth c H locs k1 n1 Q (F0 m pc ls (.int x :: .ref (adr G a) :: sts G st))
  rw [h1.adr0 hs]
  refine va_WputK x1 x2 (f := f) x4 (va_Nw.use rfl (x6.2.1 _ hl)) (by rw [hr] at hi; exact hi) hst (by rw [q2]; exact h6) q1 q3 (by rw [hsl]; exact k2_hasslot (q4 j hk)) rfl rfl hd fun H' e1 e2 e3 => ?_
  rw [hsl] at e1
  refine k H' _ ls k1 n1 (h1.put hs (u' := mupd u a j x) ?_ e2 e3 (fun z hz => mupd_ne u j x hz) (fun _ _ => rfl)) (loc_in h2) h3 h4 h5
  show va_at (gD G) vwCl (gN G + a, .inr (ci, flds G ci (r a) (mupd u a j x a))) H'
  rw [mupd_at, ← flds_setI G _ _ _ hf]
  exact ⟨_, hC.1, t_OB.to (V := updV (vp_V (flds G ci (r a) (u a))) j (.int x)) ⟨_, e1, q2, q3, t_set q4 hap hk (.int x)⟩ (fun z _ => vp_updV_set (by rw [flds_len]; exact (List.getElem?_eq_some_iff.mp hf).1) (.int x) z)⟩
theorem w_putON {G : Gt} {X : Xt} {b : ByteArray} {nL : Nat} {C : String} {T : Tt} {d : Nat} {lv : List (Nat × Value)} {st : List Value} {sh : List Shp} {r : Rf} {u : Mem} {ci a j N ix : Nat} {Rn rf host : String} {F : u_T} {ty : Nat → FieldType} (o : Option Nat) (pc : Nat) (hX : CxOk G X b nL C T d) (hC : CI ci Rn F N ty) (hs : sh[a]? = some (.inr (.inl ci))) (hf : (fkind ci)[j]? = some true) (hl : Cond.fieldLinkNest C ix rf (F j).2.1 (F j).2.2.1 host ∈ NW) (hr : (F j).1 = rf) (hfin : (F j).2.2.2 = false) (hnar : ∀ o : Option Nat, narrow (ty j) (va_rf o) = va_rf o) (hfit : ∀ o : Option Nat, fits (ty j) (va_rf o) = true) (hd : decode b pc = .ok (.putfield ix, 3)) (k : WM G X (pc + 3) lv st sh (roset r a j o) u) : WM G X pc lv (ov o :: .ref a :: st) sh r u := by
  obtain ⟨p, e, R, s, m, args, below, meth, c, Q, nL', c0, n0⟩ := X
  intro H locs ls k1 n1 h1 h2 h3 h4 h5
  obtain ⟨x1, x2, x3, x4, x5, x6, x7, x8, x9, x10, x11, x12⟩ := hX
  have hk : j < N := by rw [← hC.2.2.2.2]; exact (List.getElem?_eq_some_iff.mp hf).1
  have hap := va_apart (own := C) x5 hC.2.1 ty hC.2.2.1 hC.2.2.2.1 x6.1 hC.1
  obtain ⟨rr, g1, cell, q1, q2, q3, q4⟩ := h1.1 a _ hs
  have hrr : rr = (Rn, F, N) := Option.some.inj (g1.symm.trans hC.1)
  subst hrr
  obtain ⟨hS, hfc, kC, hkC, hkind⟩ := x6.1.1 ci _ hC.1
  obtain ⟨cf, kf, fi, f, hi, hsl⟩ := hS j hk
  have hlay := x5 _ (hC.2.1 _ (u_in_lay hk))
  unfold u_lay at hlay
  rw [if_neg (by rw [hfin]; decide)] at hlay
  have hst := (u_facts hfc hkC (u_lays x5 hC.2.1 hk) hi).1
  have h6 := u_store hfc hkC hkind hlay hi (hC.2.2.1 j hk) (hnar (o.map (adr G))) (hfit (o.map (adr G)))
  show W p (gL G) e R s m args below meth c H locs k1 n1 Q (F0 m pc ls (cv G (ov o) :: .ref (adr G a) :: sts G st))
  rw [h1.adr0 hs, cv_ov]
  refine va_WputK x1 x2 (f := f) x4 (va_Nw.use rfl (x6.2.1 _ hl)) (by rw [hr] at hi; exact hi) hst (by rw [q2]; exact h6) q1 q3 (by rw [hsl]; exact k2_hasslot (q4 j hk)) rfl rfl hd fun H' e1 e2 e3 => ?_
  rw [hsl] at e1
  refine k H' _ ls k1 n1 (h1.put hs (r' := roset r a j o) (u' := u) ?_ e2 e3 (fun _ _ => rfl) (fun y hy => by funext i; simp [roset, hy])) (loc_in h2) h3 h4 h5
  show va_at (gD G) vwCl (gN G + a, .inr (ci, flds G ci (roset r a j o a) (u a))) H'
  rw [← flds_setO G _ _ _ hf]
  exact ⟨_, hC.1, t_OB.to (V := updV (vp_V (flds G ci (r a) (u a))) j (va_rf (o.map (adr G)))) ⟨_, e1, q2, q3, t_set q4 hap hk (va_rf (o.map (adr G)))⟩ (fun y _ => vp_updV_set (by rw [flds_len]; exact (List.getElem?_eq_some_iff.mp hf).1) (va_rf (o.map (adr G))) y)⟩
theorem w_aald1 {G : Gt} {X : Xt} {b : ByteArray} {nL : Nat} {C : String} {T : Tt} {d : Nat} {lv : List (Nat × Value)} {st : List Value} {sh : List Shp} {r : Rf} {u : Mem} {a n q : Nat} {i : Int32} (pc : Nat) (hX : CxOk G X b nL C T d) (hs : sh[a]? = some (.inr (.inr (1, n)))) (hin : vp_in i n) (hq : r a i.toNatClampNeg = some q) (hd : decode b pc = .ok (.aaload, 1)) (k : WM G X (pc + 1) lv (.ref q :: st) sh r u) : WM G X pc lv (.int i :: .ref a :: st) sh r u := by
  obtain ⟨p, e, R, s, m, args, below, meth, c, Q, nL', c0, n0⟩ := X
  intro H locs ls k1 n1 h1 h2 h3 h4 h5
  obtain ⟨x1, x2, x3, x4, x5, x6, x7, x8, x9, x10, x11, x12⟩ := hX
  have hP := vaP1 (h1.1 a _ hs)
  show W p (gL G) e R s m args below meth c H locs k1 n1 Q (F0 m pc ls (.int i :: .ref (adr G a) :: sts G st))
  rw [h1.adr0 hs]
  have hk := k H locs ls k1 n1 h1 h2 h3 h4 h5
  have hlt : i.toNatClampNeg < n := Nat.not_le.mp fun q => hin (Or.inr q)
  have e9 : va_rf ((r a i.toNatClampNeg).map (adr G)) = .ref (adr G q) := by rw [hq]; rfl
  have hk2 : W p (gL G) e R s m args below meth c H locs k1 n1 Q (F0 m (pc + 1) ls (va_rf ((r a i.toNatClampNeg).map (adr G)) :: sts G st)) := by rw [e9]; exact hk
  exact va_aldq x1 x2 x6.1 hP 0 2 rfl rfl hin hd hk2
theorem w_aast1 {G : Gt} {X : Xt} {b : ByteArray} {nL : Nat} {C : String} {T : Tt} {d : Nat} {lv : List (Nat × Value)} {st : List Value} {sh : List Shp} {r : Rf} {u : Mem} {a n z : Nat} {i : Int32} (pc : Nat) (hX : CxOk G X b nL C T d) (hs : sh[a]? = some (.inr (.inr (1, n)))) (hz : sh[z]? = some (.inr (.inl 12))) (hin : vp_in i n) (hd : decode b pc = .ok (.aastore, 1)) (k : WM G X (pc + 1) lv st sh (roset r a i.toNatClampNeg (some z)) u) : WM G X pc lv (.ref z :: .int i :: .ref a :: st) sh r u := by
  obtain ⟨p, e, R, s, m, args, below, meth, c, Q, nL', c0, n0⟩ := X
  intro H locs ls k1 n1 h1 h2 h3 h4 h5
  obtain ⟨x1, x2, x3, x4, x5, x6, x7, x8, x9, x10, x11, x12⟩ := hX
  have hlt : i.toNatClampNeg < n := Nat.not_le.mp fun q => hin (Or.inr q)
  have h0 : ¬ i < 0 := fun q => hin (Or.inl q)
  have hc : H[gN G + a]? = some (vp_cell ((gQ G).1) (n, .inr (.inr (.inr (.inr (fun k => (r a k).map (adr G))))))) := h1.1 a _ hs
  have hcZ : vwCl[12]? = some (RX12, TX12, 20) := rfl
  obtain ⟨r', hr', cellV, g1, g2, g3, -⟩ := h1.1 z _ hz
  have hcls := (x6.1.1 12 _ hcZ).2
  obtain ⟨kA, comp, k1', k2', k3', -⟩ := (x6.1.2 2 _ rfl).2
  have hcomp : comp = (gD G).1 12 := Option.some.inj (k3'.symm.trans hcls.1)
  subst hcomp
  obtain ⟨kC, hkC, -⟩ := hcls.2
  show W p (gL G) e R s m args below meth c H locs k1 n1 Q (F0 m pc ls (.ref (adr G z) :: .int i :: .ref (adr G a) :: sts G st))
  rw [h1.adr0 hs, h1.adr0 hz]
  refine W.aast x1 x2 hc (fun q h => by cases h) (fun h => by cases h) k1' k2' rfl hkC ⟨h0, by show _ < (arrV _ _ _).slots.size; rw [arrV_size]; exact hlt⟩ g1 (fun q h => by rw [g3] at h; cases h) (by rw [g2]; exact hkC) (by rw [g2]; exact va_asg _ _) rfl rfl hd fun H1 e1 zz oq => ?_
  refine k H1 _ ls k1 n1 (h1.put hs (r' := roset r a i.toNatClampNeg (some z)) (u' := u) ?_ zz oq (fun _ _ => rfl) (fun y hy => by funext j; simp [roset, hy])) (loc_in h2) h3 h4 h5
  show H1[gN G + a]? = some (vp_cell ((gQ G).1) (n, .inr (.inr (.inr (.inr (fun k => (roset r a i.toNatClampNeg (some z) a k).map (adr G)))))))
  rw [e1, vp_cell_q, vp_cell_q, arrV_store]
  congr 2
  funext q
  by_cases hq : q = i.toNatClampNeg
  · subst hq
    have e7 : roset r a i.toNatClampNeg (some z) a i.toNatClampNeg = some z := by simp [roset]
    simp [updV, e7, va_rf, h1.adr0 hz]
  · have e7 : roset r a i.toNatClampNeg (some z) a q = r a q := by simp [roset, hq]
    simp [updV, hq, e7]
theorem w_aald2 {G : Gt} {X : Xt} {b : ByteArray} {nL : Nat} {C : String} {T : Tt} {d : Nat} {lv : List (Nat × Value)} {st : List Value} {sh : List Shp} {r : Rf} {u : Mem} {a n q : Nat} {i : Int32} (pc : Nat) (hX : CxOk G X b nL C T d) (hs : sh[a]? = some (.inr (.inr (2, n)))) (hin : vp_in i n) (hq : r a i.toNatClampNeg = some q) (hd : decode b pc = .ok (.aaload, 1)) (k : WM G X (pc + 1) lv (.ref q :: st) sh r u) : WM G X pc lv (.int i :: .ref a :: st) sh r u := by
  obtain ⟨p, e, R, s, m, args, below, meth, c, Q, nL', c0, n0⟩ := X
  intro H locs ls k1 n1 h1 h2 h3 h4 h5
  obtain ⟨x1, x2, x3, x4, x5, x6, x7, x8, x9, x10, x11, x12⟩ := hX
  have hP := vaP1 (h1.1 a _ hs)
  show W p (gL G) e R s m args below meth c H locs k1 n1 Q (F0 m pc ls (.int i :: .ref (adr G a) :: sts G st))
  rw [h1.adr0 hs]
  have hk := k H locs ls k1 n1 h1 h2 h3 h4 h5
  have hlt : i.toNatClampNeg < n := Nat.not_le.mp fun q => hin (Or.inr q)
  have e9 : va_rf ((r a i.toNatClampNeg).map (adr G)) = .ref (adr G q) := by rw [hq]; rfl
  have hk2 : W p (gL G) e R s m args below meth c H locs k1 n1 Q (F0 m (pc + 1) ls (va_rf ((r a i.toNatClampNeg).map (adr G)) :: sts G st)) := by rw [e9]; exact hk
  exact W.aald (v := va_rf ((r a i.toNatClampNeg).map (adr G))) (ty := .array .int) x1 x2 (hP 0 _ rfl) ((x6.1.2 3 _ rfl).1 n (fun j => va_rf ((r a j).map (adr G)))) rfl (fun q => by cases q) (by show ¬ (i < 0 ∨ (arrV _ _ _).slots.size ≤ _); rw [arrV_size]; exact hin) (by show (arrV _ _ _).slots[_]? = _; rw [arrV_read _ _ hlt]) rfl rfl hd hk2
theorem w_aast2 {G : Gt} {X : Xt} {b : ByteArray} {nL : Nat} {C : String} {T : Tt} {d : Nat} {lv : List (Nat × Value)} {st : List Value} {sh : List Shp} {r : Rf} {u : Mem} {a n n2 z : Nat} {i : Int32} (pc : Nat) (hX : CxOk G X b nL C T d) (hs : sh[a]? = some (.inr (.inr (2, n)))) (hz : sh[z]? = some (.inl n2)) (hin : vp_in i n) (hd : decode b pc = .ok (.aastore, 1)) (k : WM G X (pc + 1) lv st sh (roset r a i.toNatClampNeg (some z)) u) : WM G X pc lv (.ref z :: .int i :: .ref a :: st) sh r u := by
  obtain ⟨p, e, R, s, m, args, below, meth, c, Q, nL', c0, n0⟩ := X
  intro H locs ls k1 n1 h1 h2 h3 h4 h5
  obtain ⟨x1, x2, x3, x4, x5, x6, x7, x8, x9, x10, x11, x12⟩ := hX
  have hlt : i.toNatClampNeg < n := Nat.not_le.mp fun q => hin (Or.inr q)
  have h0 : ¬ i < 0 := fun q => hin (Or.inl q)
  have hc : H[gN G + a]? = some (vp_cell ((gQ G).2.1) (n, .inr (.inr (.inr (.inr (fun k => (r a k).map (adr G))))))) := h1.1 a _ hs
  have hcz : H[gN G + z]? = some (vp_cell (gI G) (n2, .inl (u z))) := h1.1 z _ hz
  obtain ⟨kA, k1', k2'⟩ := x6.2.2.2.2.2.2.2.2.2.2.2.2.2.1
  obtain ⟨-, kC, hkC, cm0, hkk0⟩ := (x6.1.2 0 _ rfl).1 n2 (fun j => .int (u z j))
  show W p (gL G) e R s m args below meth c H locs k1 n1 Q (F0 m pc ls (.ref (adr G z) :: .int i :: .ref (adr G a) :: sts G st))
  rw [h1.adr0 hs, h1.adr0 hz]
  refine W.aast x1 x2 hc (fun q h => by cases h) (fun h => by cases h) k1' k2' rfl hkC ⟨h0, by show _ < (arrV _ _ _).slots.size; rw [arrV_size]; exact hlt⟩ hcz (fun q h => by cases h) hkC (va_asg _ _) rfl rfl hd fun H1 e1 zz oq => ?_
  refine k H1 _ ls k1 n1 (h1.put hs (r' := roset r a i.toNatClampNeg (some z)) (u' := u) ?_ zz oq (fun _ _ => rfl) (fun y hy => by funext j; simp [roset, hy])) (loc_in h2) h3 h4 h5
  show H1[gN G + a]? = some (vp_cell ((gQ G).2.1) (n, .inr (.inr (.inr (.inr (fun k => (roset r a i.toNatClampNeg (some z) a k).map (adr G)))))))
  rw [e1, vp_cell_q, vp_cell_q, arrV_store]
  congr 2
  funext q
  by_cases hq : q = i.toNatClampNeg
  · subst hq
    have e7 : roset r a i.toNatClampNeg (some z) a i.toNatClampNeg = some z := by simp [roset]
    simp [updV, e7, va_rf, h1.adr0 hz]
  · have e7 : roset r a i.toNatClampNeg (some z) a q = r a q := by simp [roset, hq]
    simp [updV, hq, e7]
theorem w_alen1 {G : Gt} {X : Xt} {b : ByteArray} {nL : Nat} {C : String} {T : Tt} {d : Nat} {lv : List (Nat × Value)} {st : List Value} {sh : List Shp} {r : Rf} {u : Mem} {a n : Nat} (pc : Nat) (hX : CxOk G X b nL C T d) (hs : sh[a]? = some (.inr (.inr (1, n)))) (hd : decode b pc = .ok (.arraylength, 1)) (k : WM G X (pc + 1) lv (.int (nI n) :: st) sh r u) : WM G X pc lv (.ref a :: st) sh r u := by
  obtain ⟨p, e, R, s, m, args, below, meth, c, Q, nL', c0, n0⟩ := X
  intro H locs ls k1 n1 h1 h2 h3 h4 h5
  obtain ⟨x1, x2, x3, x4, x5, x6, x7, x8, x9, x10, x11, x12⟩ := hX
  have hP := vaP1 (h1.1 a _ hs)
  show W p (gL G) e R s m args below meth c H locs k1 n1 Q (F0 m pc ls (.ref (adr G a) :: sts G st))
  rw [h1.adr0 hs]
  exact va_alen x1 x2 x6.1 hP 0 2 rfl rfl rfl hd (k H locs ls k1 n1 h1 h2 h3 h4 h5)
theorem w_alen2 {G : Gt} {X : Xt} {b : ByteArray} {nL : Nat} {C : String} {T : Tt} {d : Nat} {lv : List (Nat × Value)} {st : List Value} {sh : List Shp} {r : Rf} {u : Mem} {a n : Nat} (pc : Nat) (hX : CxOk G X b nL C T d) (hs : sh[a]? = some (.inr (.inr (2, n)))) (hd : decode b pc = .ok (.arraylength, 1)) (k : WM G X (pc + 1) lv (.int (nI n) :: st) sh r u) : WM G X pc lv (.ref a :: st) sh r u := by
  obtain ⟨p, e, R, s, m, args, below, meth, c, Q, nL', c0, n0⟩ := X
  intro H locs ls k1 n1 h1 h2 h3 h4 h5
  obtain ⟨x1, x2, x3, x4, x5, x6, x7, x8, x9, x10, x11, x12⟩ := hX
  have hP := vaP1 (h1.1 a _ hs)
  show W p (gL G) e R s m args below meth c H locs k1 n1 Q (F0 m pc ls (.ref (adr G a) :: sts G st))
  rw [h1.adr0 hs]
  exact va_alen x1 x2 x6.1 hP 0 3 rfl rfl rfl hd (k H locs ls k1 n1 h1 h2 h3 h4 h5)
theorem w_alen3 {G : Gt} {X : Xt} {b : ByteArray} {nL : Nat} {C : String} {T : Tt} {d : Nat} {lv : List (Nat × Value)} {st : List Value} {sh : List Shp} {r : Rf} {u : Mem} {a n : Nat} (pc : Nat) (hX : CxOk G X b nL C T d) (hs : sh[a]? = some (.inr (.inr (3, n)))) (hd : decode b pc = .ok (.arraylength, 1)) (k : WM G X (pc + 1) lv (.int (nI n) :: st) sh r u) : WM G X pc lv (.ref a :: st) sh r u := by
  obtain ⟨p, e, R, s, m, args, below, meth, c, Q, nL', c0, n0⟩ := X
  intro H locs ls k1 n1 h1 h2 h3 h4 h5
  obtain ⟨x1, x2, x3, x4, x5, x6, x7, x8, x9, x10, x11, x12⟩ := hX
  have hP := vaP1 (h1.1 a _ hs)
  show W p (gL G) e R s m args below meth c H locs k1 n1 Q (F0 m pc ls (.ref (adr G a) :: sts G st))
  rw [h1.adr0 hs]
  exact va_alen x1 x2 x6.1 hP 0 4 rfl rfl rfl hd (k H locs ls k1 n1 h1 h2 h3 h4 h5)
theorem w_bald3 {G : Gt} {X : Xt} {b : ByteArray} {nL : Nat} {C : String} {T : Tt} {d : Nat} {lv : List (Nat × Value)} {st : List Value} {sh : List Shp} {r : Rf} {u : Mem} {a n : Nat} {i : Int32} (pc : Nat) (hX : CxOk G X b nL C T d) (hs : sh[a]? = some (.inr (.inr (3, n)))) (hin : vp_in i n) (hd : decode b pc = .ok (.baload, 1)) (k : WM G X (pc + 1) lv (.int (u a i.toNatClampNeg) :: st) sh r u) : WM G X pc lv (.int i :: .ref a :: st) sh r u := by
  obtain ⟨p, e, R, s, m, args, below, meth, c, Q, nL', c0, n0⟩ := X
  intro H locs ls k1 n1 h1 h2 h3 h4 h5
  obtain ⟨x1, x2, x3, x4, x5, x6, x7, x8, x9, x10, x11, x12⟩ := hX
  have hP := vaP1 (h1.1 a _ hs)
  show W p (gL G) e R s m args below meth c H locs k1 n1 Q (F0 m pc ls (.int i :: .ref (adr G a) :: sts G st))
  rw [h1.adr0 hs]
  exact va_bald x1 x2 x6.1 hP 0 4 rfl rfl hin hd (k H locs ls k1 n1 h1 h2 h3 h4 h5)
theorem w_bast3 {G : Gt} {X : Xt} {b : ByteArray} {nL : Nat} {C : String} {T : Tt} {d : Nat} {lv : List (Nat × Value)} {st : List Value} {sh : List Shp} {r : Rf} {u : Mem} {a n : Nat} {i x : Int32} (pc : Nat) (hX : CxOk G X b nL C T d) (hs : sh[a]? = some (.inr (.inr (3, n)))) (hin : vp_in i n) (hd : decode b pc = .ok (.bastore, 1)) (k : WM G X (pc + 1) lv st sh r (mupd u a i.toNatClampNeg x.toInt8.toInt32)) : WM G X pc lv (.int x :: .int i :: .ref a :: st) sh r u := by
  obtain ⟨p, e, R, s, m, args, below, meth, c, Q, nL', c0, n0⟩ := X
  intro H locs ls k1 n1 h1 h2 h3 h4 h5
  obtain ⟨x1, x2, x3, x4, x5, x6, x7, x8, x9, x10, x11, x12⟩ := hX
  have hc : H[gN G + a]? = some (vp_cell (gQ G).2.2 (n, .inl (u a))) := h1.1 a _ hs
  show W p (gL G) e R s m args below meth c H locs k1 n1 Q (F0 m pc ls (.int x :: .int i :: .ref (adr G a) :: sts G st))
  rw [h1.adr0 hs]
  refine W.bast x1 x2 hc ((x6.1.2 4 _ rfl).1 n (fun j => .int (u a j))) (fun q => by cases q) (by show ¬ (i < 0 ∨ (arrV _ _ _).slots.size ≤ _); rw [arrV_size]; exact hin) rfl rfl hd fun H1 e1 z oq => ?_
  refine k H1 _ ls k1 n1 (h1.put hs (u' := mupd u a i.toNatClampNeg x.toInt8.toInt32) ?_ z oq (fun j hj => mupd_ne u _ _ hj) (fun _ _ => rfl)) (loc_in h2) h3 h4 h5
  show H1[gN G + a]? = some (vp_cell (gQ G).2.2 (n, .inl (mupd u a i.toNatClampNeg x.toInt8.toInt32 a)))
  rw [e1, mupd_at, vp_cell_i, vp_cell_i, arrV_store]
  congr 2
  funext q
  by_cases hq : q = i.toNatClampNeg
  · subst hq
    simp [updV, upd, narrow_byte]
  · simp [updV, upd, hq]
theorem w_gsO {G : Gt} {X : Xt} {b : ByteArray} {nL : Nat} {C : String} {T : Tt} {d : Nat} {lv : List (Nat × Value)} {st : List Value} {sh : List Shp} {r : Rf} {u : Mem} {ix : Nat} (pc : Nat) (hX : CxOk G X b nL C T d) (hl : Cond.fieldLink C ix "java/lang/Integer" "DigitOnes" "[B" ∈ TW) (hd : decode b pc = .ok (.getstatic ix, 3)) (k : WM G X (pc + 3) lv (.ref 3500000 :: st) sh r u) : WM G X pc lv st sh r u := by
  obtain ⟨p, e, R, s, m, args, below, meth, c, Q, nL', c0, n0⟩ := X
  intro H locs ls k1 n1 h1 h2 h3 h4 h5
  obtain ⟨x1, x2, x3, x4, x5, x6, x7, x8, x9, x10, x11, x12⟩ := hX
  obtain ⟨cf, kf, fi, f, a, cell, g1, g2, g3, g4, g5, g6, g7, g8⟩ := (x6.2.2.2.2.2.2.2.2.2.2.2.2.2.2.1).kept (h1.base x6)
  have hk := k H locs ls k1 n1 h1 h2 h3 h4 h5
  exact W.gets x1 x2 x4 (x5 _ hl) g1 g2 g3 g4 g5 (fun e => by rw [e] at g6; cases g6) g7 rfl hd hk
theorem w_baldO {G : Gt} {X : Xt} {b : ByteArray} {nL : Nat} {C : String} {T : Tt} {d : Nat} {lv : List (Nat × Value)} {st : List Value} {sh : List Shp} {r : Rf} {u : Mem} {j : Int32} (pc : Nat) (hX : CxOk G X b nL C T d) (hin : vp_in j 100) (hd : decode b pc = .ok (.baload, 1)) (k : WM G X (pc + 1) lv (.int (digO j.toNatClampNeg) :: st) sh r u) : WM G X pc lv (.int j :: .ref 3500000 :: st) sh r u := by
  obtain ⟨p, e, R, s, m, args, below, meth, c, Q, nL', c0, n0⟩ := X
  intro H locs ls k1 n1 h1 h2 h3 h4 h5
  obtain ⟨x1, x2, x3, x4, x5, x6, x7, x8, x9, x10, x11, x12⟩ := hX
  obtain ⟨cell, g1, g2, g3, g4, g5, g6, g7⟩ := (x6.2.2.2.2.2.2.2.2.2.2.2.2.2.2.2.2.1).kept (h1.base x6)
  have hlt : j.toNatClampNeg < 100 := Nat.not_le.mp fun q => hin (Or.inr q)
  have hin' : ¬ (j < 0 ∨ cell.slots.size ≤ j.toNatClampNeg) := by
    intro q
    rcases q with q | q
    · exact hin (Or.inl q)
    · omega
  exact W.bald (v := .int (digO j.toNatClampNeg)) x1 x2 g1 g2 g3 hin' (g6 _ hlt) rfl rfl hd (k H locs ls k1 n1 h1 h2 h3 h4 h5)
theorem w_gsT {G : Gt} {X : Xt} {b : ByteArray} {nL : Nat} {C : String} {T : Tt} {d : Nat} {lv : List (Nat × Value)} {st : List Value} {sh : List Shp} {r : Rf} {u : Mem} {ix : Nat} (pc : Nat) (hX : CxOk G X b nL C T d) (hl : Cond.fieldLink C ix "java/lang/Integer" "DigitTens" "[B" ∈ TW) (hd : decode b pc = .ok (.getstatic ix, 3)) (k : WM G X (pc + 3) lv (.ref 3500001 :: st) sh r u) : WM G X pc lv st sh r u := by
  obtain ⟨p, e, R, s, m, args, below, meth, c, Q, nL', c0, n0⟩ := X
  intro H locs ls k1 n1 h1 h2 h3 h4 h5
  obtain ⟨x1, x2, x3, x4, x5, x6, x7, x8, x9, x10, x11, x12⟩ := hX
  obtain ⟨cf, kf, fi, f, a, cell, g1, g2, g3, g4, g5, g6, g7, g8⟩ := (x6.2.2.2.2.2.2.2.2.2.2.2.2.2.2.2.1).kept (h1.base x6)
  have hk := k H locs ls k1 n1 h1 h2 h3 h4 h5
  exact W.gets x1 x2 x4 (x5 _ hl) g1 g2 g3 g4 g5 (fun e => by rw [e] at g6; cases g6) g7 rfl hd hk
theorem w_baldT {G : Gt} {X : Xt} {b : ByteArray} {nL : Nat} {C : String} {T : Tt} {d : Nat} {lv : List (Nat × Value)} {st : List Value} {sh : List Shp} {r : Rf} {u : Mem} {j : Int32} (pc : Nat) (hX : CxOk G X b nL C T d) (hin : vp_in j 100) (hd : decode b pc = .ok (.baload, 1)) (k : WM G X (pc + 1) lv (.int (digT j.toNatClampNeg) :: st) sh r u) : WM G X pc lv (.int j :: .ref 3500001 :: st) sh r u := by
  obtain ⟨p, e, R, s, m, args, below, meth, c, Q, nL', c0, n0⟩ := X
  intro H locs ls k1 n1 h1 h2 h3 h4 h5
  obtain ⟨x1, x2, x3, x4, x5, x6, x7, x8, x9, x10, x11, x12⟩ := hX
  obtain ⟨cell, g1, g2, g3, g4, g5, g6, g7⟩ := (x6.2.2.2.2.2.2.2.2.2.2.2.2.2.2.2.2.2).kept (h1.base x6)
  have hlt : j.toNatClampNeg < 100 := Nat.not_le.mp fun q => hin (Or.inr q)
  have hin' : ¬ (j < 0 ∨ cell.slots.size ≤ j.toNatClampNeg) := by
    intro q
    rcases q with q | q
    · exact hin (Or.inl q)
    · omega
  exact W.bald (v := .int (digT j.toNatClampNeg)) x1 x2 g1 g2 g3 hin' (g6 _ hlt) rfl rfl hd (k H locs ls k1 n1 h1 h2 h3 h4 h5)
