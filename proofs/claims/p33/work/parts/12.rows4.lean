/-- a constructor's own name, for its final fields -/
def CxNm (X : Xt) (nm : String) : Prop := match X with
  | (p, e, R, s, m, args, below, meth, c, Q, nL', c0, n0) => meth.name = nm
theorem w_putFI {G : Gt} {X : Xt} {b : ByteArray} {nL : Nat} {C : String} {T : Tt} {d : Nat} {lv : List (Nat × Value)} {st : List Value} {sh : List Shp} {r : Rf} {u : Mem} {ci a j N ix : Nat} {x : Int32} {Rn : String}{rf : String} {F : u_T} {ty : Nat → FieldType} (pc : Nat) (hX : CxOk G X b nL C T d) (hNm : CxNm X "<init>") (hC : CI ci Rn F N ty) (hs : sh[a]? = some (.inr (.inl ci))) (hf : (fkind ci)[j]? = some false) (hl : Cond.fieldLink C ix rf (F j).2.1 (F j).2.2.1 ∈ TW) (hr : (F j).1 = rf) (hdecl : (F j).1 = C) (hfin : (F j).2.2.2 = true) (hnar : narrow (ty j) (.int x) = .int x) (hfit : fits (ty j) (.int x) = true) (hd : decode b pc = .ok (.putfield ix, 3)) (k : WM G X (pc + 3) lv st sh r (mupd u a j x)) : WM G X pc lv (.int x :: .ref a :: st) sh r u := by
  obtain ⟨p, e, R, s, m, args, below, meth, c, Q, nL', c0, n0⟩ := X
  intro H locs ls k1 n1 h1 h2 h3 h4 h5
  obtain ⟨x1, x2, x3, x4, x5, x6, x7, x8, x9, x10, x11, x12⟩ := hX
  have hk : j < N := by rw [← hC.2.2.2.2]; exact (List.getElem?_eq_some_iff.mp hf).1
  have hap := va_apart (own := C) x5 hC.2.1 ty hC.2.2.1 hC.2.2.2.1 x6.1 hC.1
  obtain ⟨rr, g1, cell, q1, q2, q3, q4⟩ := h1.1 a _ hs
  have hrr : rr = (Rn, F, N) := Option.some.inj (g1.symm.trans hC.1)
  subst hrr
  obtain ⟨hS, hfc, kC, hkC, hkind⟩ := x6.1.1 ci _ hC.1
  obtain ⟨cf, kf, fi, f, hi, hsl⟩ := hS j hk
  have hlay := x5 _ (hC.2.1 _ (u_in_lay hk))
  unfold u_lay at hlay
  rw [if_pos hfin] at hlay
  have hst := (u_facts hfc hkC (u_lays x5 hC.2.1 hk) hi).1
  have hcf : m.cls = cf := by
    obtain ⟨_, _, c', _, _, _, -, -, hf', -, -, -, hown2, -⟩ := Cond.laysFinal_spec hlay
    have e1 : c' = cf := by have := hi.symm.trans hf'; simp at this; exact this.1.symm
    rw [hdecl] at hown2
    rw [← e1]; exact Option.some.inj (x4.symm.trans hown2)
  have h6 := u_fits hfc hkC hkind (Or.inr hlay) hi (hC.2.2.1 j hk) hnar hfit
  show W p (gL G) e R s m args below meth c H locs k1 n1 Q (F0 m pc ls (.int x :: .ref (adr G a) :: sts G st))
  rw [h1.adr0 hs]
  refine W.putFinK x1 x2 x4 (x5 _ hl) (by rw [hr] at hi; exact hi) hst hcf hNm (by rw [q2]; exact h6) q1 q3 (by rw [hsl]; exact k2_hasslot (q4 j hk)) rfl rfl hd fun H' e1 e2 e3 => ?_
  rw [hsl] at e1
  refine k H' _ ls k1 n1 (h1.put hs (u' := mupd u a j x) ?_ e2 e3 (fun z hz => mupd_ne u j x hz) (fun _ _ => rfl)) (loc_in h2) h3 h4 h5
  show va_at (gD G) vwCl (gN G + a, .inr (ci, flds G ci (r a) (mupd u a j x a))) H'
  rw [mupd_at, ← flds_setI G _ _ _ hf]
  exact ⟨_, hC.1, t_OB.to (V := updV (vp_V (flds G ci (r a) (u a))) j (.int x)) ⟨_, e1, q2, q3, t_set q4 hap hk (.int x)⟩ (fun z _ => vp_updV_set (by rw [flds_len]; exact (List.getElem?_eq_some_iff.mp hf).1) (.int x) z)⟩
theorem w_putFR {G : Gt} {X : Xt} {b : ByteArray} {nL : Nat} {C : String} {T : Tt} {d : Nat} {lv : List (Nat × Value)} {st : List Value} {sh : List Shp} {r : Rf} {u : Mem} {ci a j N ix z : Nat} {Rn : String}{rf : String} {F : u_T} {ty : Nat → FieldType} (pc : Nat) (hX : CxOk G X b nL C T d) (hNm : CxNm X "<init>") (hC : CI ci Rn F N ty) (hs : sh[a]? = some (.inr (.inl ci))) (hf : (fkind ci)[j]? = some true) (hl : Cond.fieldLink C ix rf (F j).2.1 (F j).2.2.1 ∈ TW) (hr : (F j).1 = rf) (hdecl : (F j).1 = C) (hfin : (F j).2.2.2 = true) (hnar : ∀ q : Nat, narrow (ty j) (.ref q) = .ref q) (hfit : ∀ q : Nat, fits (ty j) (.ref q) = true) (hd : decode b pc = .ok (.putfield ix, 3)) (k : WM G X (pc + 3) lv st sh (rset r a j z) u) : WM G X pc lv (.ref z :: .ref a :: st) sh r u := by
  obtain ⟨p, e, R, s, m, args, below, meth, c, Q, nL', c0, n0⟩ := X
  intro H locs ls k1 n1 h1 h2 h3 h4 h5
  obtain ⟨x1, x2, x3, x4, x5, x6, x7, x8, x9, x10, x11, x12⟩ := hX
  have hk : j < N := by rw [← hC.2.2.2.2]; exact (List.getElem?_eq_some_iff.mp hf).1
  have hap := va_apart (own := C) x5 hC.2.1 ty hC.2.2.1 hC.2.2.2.1 x6.1 hC.1
  obtain ⟨rr, g1, cell, q1, q2, q3, q4⟩ := h1.1 a _ hs
  have hrr : rr = (Rn, F, N) := Option.some.inj (g1.symm.trans hC.1)
  subst hrr
  obtain ⟨hS, hfc, kC, hkC, hkind⟩ := x6.1.1 ci _ hC.1
  obtain ⟨cf, kf, fi, f, hi, hsl⟩ := hS j hk
  have hlay := x5 _ (hC.2.1 _ (u_in_lay hk))
  unfold u_lay at hlay
  rw [if_pos hfin] at hlay
  have hst := (u_facts hfc hkC (u_lays x5 hC.2.1 hk) hi).1
  have hcf : m.cls = cf := by
    obtain ⟨_, _, c', _, _, _, -, -, hf', -, -, -, hown2, -⟩ := Cond.laysFinal_spec hlay
    have e1 : c' = cf := by have := hi.symm.trans hf'; simp at this; exact this.1.symm
    rw [hdecl] at hown2
    rw [← e1]; exact Option.some.inj (x4.symm.trans hown2)
  have h6 := u_fits hfc hkC hkind (Or.inr hlay) hi (hC.2.2.1 j hk) (hnar (adr G z)) (hfit (adr G z))
  show W p (gL G) e R s m args below meth c H locs k1 n1 Q (F0 m pc ls (.ref (adr G z) :: .ref (adr G a) :: sts G st))
  rw [h1.adr0 hs]
  refine W.putFinK x1 x2 x4 (x5 _ hl) (by rw [hr] at hi; exact hi) hst hcf hNm (by rw [q2]; exact h6) q1 q3 (by rw [hsl]; exact k2_hasslot (q4 j hk)) rfl rfl hd fun H' e1 e2 e3 => ?_
  rw [hsl] at e1
  refine k H' _ ls k1 n1 (h1.put hs (r' := rset r a j z) (u' := u) ?_ e2 e3 (fun _ _ => rfl) (fun y hy => by funext i; simp [rset, hy])) (loc_in h2) h3 h4 h5
  show va_at (gD G) vwCl (gN G + a, .inr (ci, flds G ci (rset r a j z a) (u a))) H'
  rw [← flds_setR G _ _ hf]
  exact ⟨_, hC.1, t_OB.to (V := updV (vp_V (flds G ci (r a) (u a))) j (.ref (adr G z))) ⟨_, e1, q2, q3, t_set q4 hap hk (.ref (adr G z))⟩ (fun y _ => vp_updV_set (by rw [flds_len]; exact (List.getElem?_eq_some_iff.mp hf).1) (.ref (adr G z)) y)⟩
theorem RepC.push {G : Gt} {sh : List Shp} {r : Rf} {u : Mem} {H H' : Heap} {s0 : Shp} (h : RepC G sh r u H) (e : va_at (gD G) vwCl (gN G + sh.length, cellv G s0 (r sh.length) (u sh.length)) H') (z : H'.size = H.size + 1) (oq : ∀ q : Nat, q < H.size → H'[q]? = H[q]?) (hl : sh.length + 1 ≤ 590000) (hl2 : ssum sh + ssz s0 ≤ 7080000) : RepC G (sh ++ [s0]) r u H' := by
  refine ⟨fun j s hj => ?_, by rw [z, h.2.1]; simp; omega, fun q hq => (oq q (by rw [h.2.1]; omega)).trans (h.2.2.1 q hq), by simp; omega, by simp [ssum] at hl2 ⊢; omega⟩
  rcases Nat.lt_trichotomy j sh.length with hlt | heq | hgt
  · rw [List.getElem?_append_left hlt] at hj
    exact (h.1 j s hj).kept (oq _ (by show gN G + j < H.size; rw [h.2.1]; omega))
  · subst heq
    simp at hj
    subst hj
    exact e
  · rw [List.getElem?_eq_none (by simp; omega)] at hj
    cases hj
theorem ssum_push (sh : List Shp) (s0 : Shp) : ssum (sh ++ [s0]) = ssum sh + ssz s0 := by simp [ssum]
/-- a new cell: what is asked of the numbers at its place: zeros, no references -/
def Fresh (sh : List Shp) (r : Rf) (u : Mem) : Prop := (∀ k, r sh.length k = none) ∧ ∀ k, u sh.length k = 0
theorem w_new {G : Gt} {X : Xt} {b : ByteArray} {nL : Nat} {C : String} {T : Tt} {d : Nat} {lv : List (Nat × Value)} {st : List Value} {sh : List Shp} {r : Rf} {u : Mem} {ci N ix : Nat} {Rn : String} {F : u_T} {ty : Nat → FieldType} (a : Nat) (pc : Nat) (hX : CxOk G X b nL C T d) (hC : CI ci Rn F N ty) (ha : a = sh.length) (hF : Fresh sh r u) (hty : ∀ j, j < N → defaultValue (ty j) = vp_V (flds G ci (fun _ => none) (fun _ => 0)) j) (w1 : Cond.classLink C ix Rn ∈ TW) (w2 : Cond.instantiable Rn N ∈ TW) (w3 : Cond.initialized Rn ∈ TW) (q1 : (sh ++ [.inr (.inl ci)] : List Shp).length ≤ T.2.1.length) (q2 : ssum (sh ++ [.inr (.inl ci)]) ≤ ssum T.2.1) (q3 : sh.length + 1 ≤ 590000) (q4 : ssum sh + ssz (.inr (.inl ci)) ≤ 7080000) (hd : decode b pc = .ok (.new ix, 3)) (k : WM G X (pc + 3) lv (.ref a :: st) (sh ++ [.inr (.inl ci)]) r u) : WM G X pc lv st sh r u := by
  obtain ⟨p, e, R, s, m, args, below, meth, c, Q, nL', c0, n0⟩ := X
  intro H locs ls k1 n1 h1 h2 h3 h4 h5
  obtain ⟨x1, x2, x3, x4, x5, x6, x7, x8, x9, x10, x11, x12⟩ := hX
  have hz := ssum_push sh (.inr (.inl ci))
  have hN : ssz (.inr (.inl ci)) = N := hC.2.2.2.2
  rw [hz, hN] at q2
  rw [List.length_append, List.length_singleton] at q1
  have hKn := x6.1.1 ci _ hC.1
  refine W.newcK x1 x2 x4 (x5 _ w1) (x5 _ w2) (x5 _ w3) rfl hd (by omega) (by omega) hKn.2.1 rfl fun H1 kC hkC e1 z1 o1 => ?_
  have hb := (u_born ty x5 hC.2.1 hKn hkC e1 hC.2.2.1).to hty
  have hsz := h1.2.1
  have e9 : va_at (gD G) vwCl (gN G + sh.length, cellv G (.inr (.inl ci)) (r sh.length) (u sh.length)) H1 := by
    have f1 : r sh.length = fun _ => none := funext hF.1
    have f2 : u sh.length = fun _ => 0 := funext hF.2
    rw [f1, f2, ← hsz]
    exact ⟨_, hC.1, hb⟩
  have h9 := k H1 locs ls (k1 + 1) (n1 + N) (h1.push e9 z1 o1 q3 q4) h2 h3 (by rw [List.length_append, List.length_singleton]; omega) (by rw [hz, hN]; omega)
  have e8 : sts G (.ref a :: st) = .ref H.size :: sts G st := by
    show Value.ref (adr G a) :: sts G st = _
    rw [hsz, ha]
    unfold adr
    rw [if_pos (by omega)]
  rw [e8] at h9
  exact h9
theorem w_newa {G : Gt} {X : Xt} {b : ByteArray} {nL : Nat} {C : String} {T : Tt} {d : Nat} {lv : List (Nat × Value)} {st : List Value} {sh : List Shp} {r : Rf} {u : Mem} {i : Int32} {n : Nat} (a : Nat) (pc : Nat) (hX : CxOk G X b nL C T d) (ha : a = sh.length) (hF : Fresh sh r u) (hi : ¬ i < 0) (hn : i.toNatClampNeg = n) (hn2 : n * 4 ≤ 536870912) (w1 : Cond.arrayClass .int ∈ TW) (q1 : (sh ++ [.inl n] : List Shp).length ≤ T.2.1.length) (q2 : ssum (sh ++ [.inl n]) ≤ ssum T.2.1) (q3 : sh.length + 1 ≤ 590000) (q4 : ssum sh + ssz (.inl n) ≤ 7080000) (hd : decode b pc = .ok (.newarray .int, 2)) (k : WM G X (pc + 2) lv (.ref a :: st) (sh ++ [.inl n]) r u) : WM G X pc lv (.int i :: st) sh r u := by
  obtain ⟨p, e, R, s, m, args, below, meth, c, Q, nL', c0, n0⟩ := X
  intro H locs ls k1 n1 h1 h2 h3 h4 h5
  obtain ⟨x1, x2, x3, x4, x5, x6, x7, x8, x9, x10, x11, x12⟩ := hX
  have hz := ssum_push sh (.inl n)
  have hN : ssz (.inl n) = n := rfl
  rw [hz, hN] at q2
  rw [List.length_append, List.length_singleton] at q1
  have hsz := h1.2.1
  refine va_newaK (atype := .int) x1 x2 (x5 _ w1) rfl hd rfl hi hn hn2 (by omega) (by omega) rfl fun H1 cA e1 z1 o1 hAr hNm => ?_
  have hcA : cA = gI G := by
    have g := (x6.1.2 0 _ rfl).2
    exact Option.some.inj (hNm.symm.trans g)
  subst hcA
  have e9 : va_at (gD G) vwCl (gN G + sh.length, cellv G (.inl n) (r sh.length) (u sh.length)) H1 := by
    have f2 : u sh.length = fun _ => 0 := funext hF.2
    rw [f2, ← hsz]
    exact e1
  have h9 := k H1 locs ls (k1 + 1) (n1 + n) (h1.push e9 z1 o1 q3 q4) h2 h3 (by rw [List.length_append, List.length_singleton]; omega) (by rw [hz, hN]; omega)
  have e8 : sts G (.ref a :: st) = .ref H.size :: sts G st := by
    show Value.ref (adr G a) :: sts G st = _
    rw [hsz, ha]
    unfold adr
    rw [if_pos (by omega)]
  rw [e8] at h9
  exact h9
theorem w_newq {G : Gt} {X : Xt} {b : ByteArray} {nL : Nat} {C : String} {T : Tt} {d : Nat} {lv : List (Nat × Value)} {st : List Value} {sh : List Shp} {r : Rf} {u : Mem} {i : Int32} {n ix : Nat} (a : Nat) (pc : Nat) (hX : CxOk G X b nL C T d) (ha : a = sh.length) (hF : Fresh sh r u) (hi : ¬ i < 0) (hn : i.toNatClampNeg = n) (hn2 : n * 4 ≤ 536870912) (w1 : Cond.classLink C ix "OldestDown$Being" ∈ TW) (q1 : (sh ++ [.inr (.inr (0, n))] : List Shp).length ≤ T.2.1.length) (q2 : ssum (sh ++ [.inr (.inr (0, n))]) ≤ ssum T.2.1) (q3 : sh.length + 1 ≤ 590000) (q4 : ssum sh + ssz (.inr (.inr (0, n))) ≤ 7080000) (hd : decode b pc = .ok (.anewarray ix, 3)) (k : WM G X (pc + 3) lv (.ref a :: st) (sh ++ [.inr (.inr (0, n))]) r u) : WM G X pc lv (.int i :: st) sh r u := by
  obtain ⟨p, e, R, s, m, args, below, meth, c, Q, nL', c0, n0⟩ := X
  intro H locs ls k1 n1 h1 h2 h3 h4 h5
  obtain ⟨x1, x2, x3, x4, x5, x6, x7, x8, x9, x10, x11, x12⟩ := hX
  have hz := ssum_push sh (.inr (.inr (0, n)))
  have hN : ssz (.inr (.inr (0, n))) = n := rfl
  rw [hz, hN] at q2
  rw [List.length_append, List.length_singleton] at q1
  have hsz := h1.2.1
  subst hn
  refine W.anew x1 x2 x4 (x5 _ w1) (va_AO.use x6.2.2.2.2.2.2.2.2.1) rfl hd rfl hi hn2 (by omega) (by omega) fun cA kA comp f1 f2 f3 f4 => ?_
  generalize hH1 : H.push ({ cls := cA, slots := Array.replicate i.toNatClampNeg .null, vm := .none } : Cell) = H1
  have z1 : H1.size = H.size + 1 := by rw [← hH1, Array.size_push]
  have e1 : H1[H.size]? = some (arrV cA i.toNatClampNeg (fun _ => .null)) := by rw [← hH1, Array.getElem?_push_size, ← arrV_new]
  have o1 : ∀ q : Nat, q < H.size → H1[q]? = H[q]? := fun q hq => by rw [← hH1, Array.getElem?_push, if_neg (Nat.ne_of_lt hq)]
  have hcA : cA = gR G := by
    obtain ⟨kA', comp', t1, t2, t3, t4⟩ := (x6.1.2 1 _ rfl).2
    exact Option.some.inj (f1.symm.trans t4)
  subst hcA
  have e9 : va_at (gD G) vwCl (gN G + sh.length, cellv G (.inr (.inr (0, i.toNatClampNeg))) (r sh.length) (u sh.length)) H1 := by
    have f1 : r sh.length = fun _ => none := funext hF.1
    rw [f1, ← hsz]
    exact e1
  have h9 := k H1 locs ls (k1 + 1) (n1 + i.toNatClampNeg) (h1.push e9 z1 o1 q3 q4) h2 h3 (by rw [List.length_append, List.length_singleton]; omega) (by rw [hz, hN]; omega)
  have e8 : sts G (.ref a :: st) = .ref H.size :: sts G st := by
    show Value.ref (adr G a) :: sts G st = _
    rw [hsz, ha]
    unfold adr
    rw [if_pos (by omega)]
  rw [e8] at h9
  exact h9
theorem w_aast {G : Gt} {X : Xt} {b : ByteArray} {nL : Nat} {C : String} {T : Tt} {d : Nat} {lv : List (Nat × Value)} {st : List Value} {sh : List Shp} {r : Rf} {u : Mem} {a n z : Nat} {i : Int32} (pc : Nat) (hX : CxOk G X b nL C T d) (hs : sh[a]? = some (.inr (.inr (0, n)))) (hz : sh[z]? = some (.inr (.inl 0))) (hin : vp_in i n) (hd : decode b pc = .ok (.aastore, 1)) (k : WM G X (pc + 1) lv st sh (rset r a i.toNatClampNeg z) u) : WM G X pc lv (.ref z :: .int i :: .ref a :: st) sh r u := by
  obtain ⟨p, e, R, s, m, args, below, meth, c, Q, nL', c0, n0⟩ := X
  intro H locs ls k1 n1 h1 h2 h3 h4 h5
  obtain ⟨x1, x2, x3, x4, x5, x6, x7, x8, x9, x10, x11, x12⟩ := hX
  have hcZ : vwCl[0]? = some (RX0, TX0, 10) := rfl
  have hlt : i.toNatClampNeg < n := Nat.not_le.mp fun q => hin (Or.inr q)
  have h0 : ¬ i < 0 := fun q => hin (Or.inl q)
  obtain ⟨r', hr', cellV, g1, g2, g3, -⟩ := h1.1 z _ hz
  have hcls := (x6.1.1 0 _ hcZ).2
  obtain ⟨kA, comp, k1', k2', k3', -⟩ := (x6.1.2 1 _ rfl).2
  have hcomp : comp = (gD G).1 0 := Option.some.inj (k3'.symm.trans hcls.1)
  subst hcomp
  obtain ⟨kC, hkC, -⟩ := hcls.2
  have hc : H[gN G + a]? = some (vp_cell (gR G) (n, .inr (.inr (.inr (.inr (fun k => (r a k).map (adr G))))))) := h1.1 a _ hs
  show W p (gL G) e R s m args below meth c H locs k1 n1 Q (F0 m pc ls (.ref (adr G z) :: .int i :: .ref (adr G a) :: sts G st))
  rw [h1.adr0 hs, h1.adr0 hz]
  refine W.aast x1 x2 hc (fun q h => by cases h) (fun h => by cases h) k1' k2' rfl hkC ⟨h0, by show _ < (arrV _ _ _).slots.size; rw [arrV_size]; exact hlt⟩ g1 (fun q h => by rw [g3] at h; cases h) (by rw [g2]; exact hkC) (by rw [g2]; exact va_assign hcls) rfl rfl hd fun H1 e1 zz oq => ?_
  refine k H1 _ ls k1 n1 (h1.put hs (r' := rset r a i.toNatClampNeg z) (u' := u) ?_ zz oq (fun _ _ => rfl) (fun y hy => by funext j; simp [rset, hy])) (loc_in h2) h3 h4 h5
  show H1[gN G + a]? = some (vp_cell (gR G) (n, .inr (.inr (.inr (.inr (fun k => (rset r a i.toNatClampNeg z a k).map (adr G)))))))
  rw [e1, vp_cell_q, vp_cell_q, arrV_store]
  congr 2
  funext q
  by_cases hq : q = i.toNatClampNeg
  · subst hq
    have e7 : rset r a i.toNatClampNeg z a i.toNatClampNeg = some z := by simp [rset]
    simp [updV, e7, va_rf, h1.adr0 hz]
  · have e7 : rset r a i.toNatClampNeg z a q = r a q := by simp [rset, hq]
    simp [updV, hq, e7]
theorem w_objInit {G : Gt} {X : Xt} {b : ByteArray} {nL : Nat} {C : String} {T : Tt} {d : Nat} {lv : List (Nat × Value)} {st : List Value} {sh : List Shp} {r : Rf} {u : Mem} {a ix : Nat} (pc : Nat) (hX : CxOk G X b nL C T d) (w1 : Cond.methodLink C ix Lib.objectInit ∈ TW) (w2 : Cond.instanceMethod Lib.objectInit ∈ TW) (w3 : Cond.code Lib.objectInit ⟨#[0xb1]⟩ 1 none ∈ TW) (hd1 : 1 ≤ d) (hcat : (st.map fun v => v.category).sum ≤ 8) (hd : decode b pc = .ok (.invokespecial ix, 3)) (k : WM G X (pc + 3) lv st sh r u) : WM G X pc lv (.ref a :: st) sh r u := by
  obtain ⟨p, e, R, s, m, args, below, meth, c, Q, nL', c0, n0⟩ := X
  intro H locs ls k1 n1 h1 h2 h3 h4 h5
  obtain ⟨x1, x2, x3, x4, x5, x6, x7, x8, x9, x10, x11, x12⟩ := hX
  have h9 := sts_cat G st
  exact W.objInit x1 x2 x4 (x5 _ w1) (x5 _ w2) (x5 _ w3) rfl (by show ls.size = c.maxLocals; rw [h3.1, x7, x3]) (a := adr G a) (rest := sts G st) rfl hd (by omega) (by show 2 * 0 + _ + 12 ≤ _; rw [h9]; omega) (k H locs ls k1 n1 h1 h2 h3 h4 h5)
theorem w_copy {G : Gt} {X : Xt} {b : ByteArray} {nL : Nat} {C : String} {T : Tt} {d : Nat} {lv : List (Nat × Value)} {st : List Value} {sh : List Shp} {r : Rf} {u : Mem} {a0 a1 m0 m1 ix : Nat} {sp dp n : Int32} (pc : Nat) (hX : CxOk G X b nL C T d) (hs0 : sh[a0]? = some (.inl m0)) (hs1 : sh[a1]? = some (.inl m1)) (w1 : Cond.methodLink C ix arraycopyName ∈ TW) (w2 : Cond.native arraycopyName ∈ TW) (w3 : Cond.static arraycopyName ∈ TW) (w4 : Cond.initialized "java/lang/System" ∈ TW) (z1 : ¬ sp < 0) (z2 : ¬ dp < 0) (z3 : ¬ n < 0) (z4 : sp.toNatClampNeg + n.toNatClampNeg ≤ m0) (z5 : dp.toNatClampNeg + n.toNatClampNeg ≤ m1) (hd1 : 1 ≤ d) (hcat : (st.map fun v => v.category).sum ≤ 8) (hd : decode b pc = .ok (.invokestatic ix, 3))
    (k : WM G X (pc + 3) lv st sh r (mset u a1 (va_cpy (u a0) (u a1) sp.toNatClampNeg dp.toNatClampNeg n.toNatClampNeg))) : WM G X pc lv (.int n :: .int dp :: .ref a1 :: .int sp :: .ref a0 :: st) sh r u := by
  obtain ⟨p, e, R, s, m, args, below, meth, c, Q, nL', c0, n0⟩ := X
  intro H locs ls k1 n1 h1 h2 h3 h4 h5
  obtain ⟨x1, x2, x3, x4, x5, x6, x7, x8, x9, x10, x11, x12⟩ := hX
  have nn : ∀ z : Int32, ¬ z < 0 → z.toInt = (z.toNatClampNeg : Int) := by
    intro z hz
    have hz0 : (0 : Int) ≤ z.toInt := by
      have := Int32.not_lt.mp hz
      simpa using Int32.le_iff_toInt_le.mp this
    show z.toInt = ((z.toInt.toNat : Nat) : Int)
    omega
  have h9 := sts_cat G st
  show W p (gL G) e R s m args below meth c H locs k1 n1 Q (F0 m pc ls (.int n :: .int dp :: .ref (adr G a1) :: .int sp :: .ref (adr G a0) :: sts G st))
  rw [h1.adr0 hs0, h1.adr0 hs1]
  have h8 : nativeFrameWords "java/lang/System" "arraycopy" 5 + 11 ≤ 40 := by decide +kernel
  intro T' hT X
  have hc0 : H[gN G + a0]? = some (vp_cell (gI G) (m0, .inl (u a0))) := h1.1 a0 _ hs0
  have hc1 : H[gN G + a1]? = some (vp_cell (gI G) (m1, .inl (u a1))) := h1.1 a1 _ hs1
  obtain ⟨-, k0, hk0, cm0, hkk0⟩ := (x6.1.2 0 _ rfl).1 m0 (fun j => .int (u a0 j))
  obtain ⟨-, k9, hk9, cm9, hkk9⟩ := (x6.1.2 0 _ rfl).1 m1 (fun j => .int (u a1 j))
  obtain ⟨vm', X', step⟩ := X.arraycopy x1 x4 (x5 _ w1) (x5 _ w2) (x5 _ w3) (x5 _ w4) (src := gN G + a0) (dst := gN G + a1) (cs := vp_cell (gI G) (m0, .inl (u a0))) (cd := vp_cell (gI G) (m1, .inl (u a1))) (srcPos := sp) (destPos := dp) (n := n) (by rw [hT]; exact hc0) (by rw [hT]; exact hc1)
    (fun _ h => by cases h) (fun _ h => by cases h) (fun h => by cases h) (fun h => by cases h) hk0 hk9 hkk0 hkk9 (by simp [refKind]) z1 z2 z3
    (by rw [nn sp z1, nn n z3]; show ¬ _ > ((arrV (gI G) m0 (fun j => .int (u a0 j))).slots.size : Int); rw [arrV_size]; omega)
    (by rw [nn dp z2, nn n z3]; show ¬ _ > ((arrV (gI G) m1 (fun j => .int (u a1 j))).slots.size : Int); rw [arrV_size]; omega)
    (fun vm₁ _ i hi => by
      have e : (vp_cell (gI G) (m0, .inl (u a0))).slots.getD (sp.toNatClampNeg + i) .null = .int (u a0 (sp.toNatClampNeg + i)) := by
        show (arrV (gI G) m0 (fun j => .int (u a0 j))).slots.getD _ _ = _
        rw [Array.getD_eq_getD_getElem?, arrV_read _ _ (by omega)]
        rfl
      refine ⟨?_, ?_⟩
      · rw [e]
        rfl
      · rw [e]
        exact trivial)
    (g := F0 m pc ls (.int n :: .int dp :: .ref (gN G + a1) :: .int sp :: .ref (gN G + a0) :: sts G st)) rfl (by show ls.size = c.maxLocals; rw [h3.1, x7, x3]) (rest := sts G st) rfl (by rw [x2]; exact hd) (by omega) (by show 2 * 0 + _ + _ ≤ _; rw [h9]; omega)
  have e1 : copied (vp_cell (gI G) (m0, .inl (u a0))) (vp_cell (gI G) (m1, .inl (u a1))) sp dp n = vp_cell (gI G) (m1, .inl (va_cpy (u a0) (u a1) sp.toNatClampNeg dp.toNatClampNeg n.toNatClampNeg)) := va_copied (fun z => .int z) (gI G) (gI G) (u a0) (u a1) z4
  rw [e1] at X' step
  have hl : gN G + a1 < H.size := (Array.getElem?_eq_some_iff.mp hc1).1
  have hheap : ((T'.setVm vm').setCell (gN G + a1) (vp_cell (gI G) (m1, .inl (va_cpy (u a0) (u a1) sp.toNatClampNeg dp.toNatClampNeg n.toNatClampNeg)))).heap = H.setIfInBounds (gN G + a1) (vp_cell (gI G) (m1, .inl (va_cpy (u a0) (u a1) sp.toNatClampNeg dp.toNatClampNeg n.toNatClampNeg))) := by rw [← hT]; rfl
  have oq : ∀ q : Nat, q ≠ gN G + a1 → (H.setIfInBounds (gN G + a1) (vp_cell (gI G) (m1, .inl (va_cpy (u a0) (u a1) sp.toNatClampNeg dp.toNatClampNeg n.toNatClampNeg))))[q]? = H[q]? := fun q hq => by simp [Array.getElem?_setIfInBounds, Ne.symm hq]
  obtain ⟨t, b1, b2⟩ := k _ _ ls k1 n1 (h1.put hs1 (u' := mset u a1 (va_cpy (u a0) (u a1) sp.toNatClampNeg dp.toNatClampNeg n.toNatClampNeg)) (by
      show (H.setIfInBounds (gN G + a1) _)[gN G + a1]? = some (vp_cell (gI G) (m1, .inl (mset u a1 _ a1)))
      rw [mset_at]
      simp [Array.getElem?_setIfInBounds, hl]) (by simp) oq (fun j hj => mset_ne u _ hj) (fun _ _ => rfl)) (fun q hq => by
      rcases List.mem_append.mp hq with h | h
      · exact h2 q h
      · obtain ⟨z, -, hz⟩ := List.mem_map.mp h
        rw [← hz]
        exact Nat.le_add_right _ _) h3 h4 h5 _ hheap X'
  exact ⟨t, step t b1, b2⟩
