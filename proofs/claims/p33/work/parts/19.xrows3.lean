theorem w_copyB {G : Gt} {X : Xt} {b : ByteArray} {nL : Nat} {C : String} {T : Tt} {d : Nat} {lv : List (Nat × Value)} {st : List Value} {sh : List Shp} {r : Rf} {u : Mem} {a0 a1 m0 m1 ix : Nat} {sp dp n : Int32} (pc : Nat) (hX : CxOk G X b nL C T d) (hs0 : sh[a0]? = some (.inr (.inr (3, m0)))) (hs1 : sh[a1]? = some (.inr (.inr (3, m1)))) (w1 : Cond.methodLink C ix arraycopyName ∈ TW) (w2 : Cond.native arraycopyName ∈ TW) (w3 : Cond.static arraycopyName ∈ TW) (w4 : Cond.initialized "java/lang/System" ∈ TW) (z1 : ¬ sp < 0) (z2 : ¬ dp < 0) (z3 : ¬ n < 0) (z4 : sp.toNatClampNeg + n.toNatClampNeg ≤ m0) (z5 : dp.toNatClampNeg + n.toNatClampNeg ≤ m1) (hfit : ∀ j, j < n.toNatClampNeg → (-128 ≤ u a0 (sp.toNatClampNeg + j) ∧ u a0 (sp.toNatClampNeg + j) ≤ 127)) (hd1 : 1 ≤ d) (hcat : (st.map fun v => v.category).sum ≤ 8) (hd : decode b pc = .ok (.invokestatic ix, 3))
    (k : WM G X (pc + 3) lv st sh r (mset u a1 (va_cpy (u a0) (u a1) sp.toNatClampNeg dp.toNatClampNeg n.toNatClampNeg))) : WM G X pc lv (.int n :: .int dp :: .ref a1 :: .int sp :: .ref a0 :: st) sh r u := by
  obtain ⟨p, e, R, s, m, args, below, meth, c, Q, nL', c0, n0⟩ := X
  intro H locs ls k1 n1 h1 h2 h3 h4 h5
  obtain ⟨x1, x2, x3, x4, x5, x6, x7, x8, x9, x10, x11, x12⟩ := hX
  have nn : ∀ z : Int32, ¬ z < 0 → z.toInt = (z.toNatClampNeg : Int) := by
    intro z hz
    have hz0 : (0 : Int) ≤ z.toInt := by
      have := Int32.not_lt.mp hz
      simpa using Int32.le_iff_toInt_le.mp this
    show z.toInt = ((z.toInt.toNat : Nat) : Int)
    omega
  have h9 := sts_cat G st
  show W p (gL G) e R s m args below meth c H locs k1 n1 Q (F0 m pc ls (.int n :: .int dp :: .ref (adr G a1) :: .int sp :: .ref (adr G a0) :: sts G st))
  rw [h1.adr0 hs0, h1.adr0 hs1]
  have h8 : nativeFrameWords "java/lang/System" "arraycopy" 5 + 11 ≤ 40 := by decide +kernel
  intro T' hT X
  have hc0 : H[gN G + a0]? = some (vp_cell ((gQ G).2.2) (m0, .inl (u a0))) := h1.1 a0 _ hs0
  have hc1 : H[gN G + a1]? = some (vp_cell ((gQ G).2.2) (m1, .inl (u a1))) := h1.1 a1 _ hs1
  obtain ⟨-, k0, hk0, cm0, hkk0⟩ := (x6.1.2 4 _ rfl).1 m0 (fun j => .int (u a0 j))
  obtain ⟨-, k9, hk9, cm9, hkk9⟩ := (x6.1.2 4 _ rfl).1 m1 (fun j => .int (u a1 j))
  obtain ⟨vm', X', step⟩ := X.arraycopy x1 x4 (x5 _ w1) (x5 _ w2) (x5 _ w3) (x5 _ w4) (src := gN G + a0) (dst := gN G + a1) (cs := vp_cell ((gQ G).2.2) (m0, .inl (u a0))) (cd := vp_cell ((gQ G).2.2) (m1, .inl (u a1))) (srcPos := sp) (destPos := dp) (n := n) (by rw [hT]; exact hc0) (by rw [hT]; exact hc1)
    (fun _ h => by cases h) (fun _ h => by cases h) (fun h => by cases h) (fun h => by cases h) hk0 hk9 hkk0 hkk9 (by simp [refKind]) z1 z2 z3
    (by rw [nn sp z1, nn n z3]; show ¬ _ > ((arrV ((gQ G).2.2) m0 (fun j => .int (u a0 j))).slots.size : Int); rw [arrV_size]; omega)
    (by rw [nn dp z2, nn n z3]; show ¬ _ > ((arrV ((gQ G).2.2) m1 (fun j => .int (u a1 j))).slots.size : Int); rw [arrV_size]; omega)
    (fun vm₁ _ i hi => by
      have e : (vp_cell ((gQ G).2.2) (m0, .inl (u a0))).slots.getD (sp.toNatClampNeg + i) .null = .int (u a0 (sp.toNatClampNeg + i)) := by
        show (arrV ((gQ G).2.2) m0 (fun j => .int (u a0 j))).slots.getD _ _ = _
        rw [Array.getD_eq_getD_getElem?, arrV_read _ _ (by omega)]
        rfl
      refine ⟨?_, ?_⟩
      · rw [e]
        have hf := hfit i hi
        show (decide (_ ≤ _) && decide (_ ≤ _)) = true
        rw [decide_eq_true hf.1, decide_eq_true hf.2]
        rfl
      · rw [e]
        exact trivial)
    (g := F0 m pc ls (.int n :: .int dp :: .ref (gN G + a1) :: .int sp :: .ref (gN G + a0) :: sts G st)) rfl (by show ls.size = c.maxLocals; rw [h3.1, x7, x3]) (rest := sts G st) rfl (by rw [x2]; exact hd) (by omega) (by show 2 * 0 + _ + _ ≤ _; rw [h9]; omega)
  have e1 : copied (vp_cell ((gQ G).2.2) (m0, .inl (u a0))) (vp_cell ((gQ G).2.2) (m1, .inl (u a1))) sp dp n = vp_cell ((gQ G).2.2) (m1, .inl (va_cpy (u a0) (u a1) sp.toNatClampNeg dp.toNatClampNeg n.toNatClampNeg)) := va_copied (fun z => .int z) ((gQ G).2.2) ((gQ G).2.2) (u a0) (u a1) z4
  rw [e1] at X' step
  have hl : gN G + a1 < H.size := (Array.getElem?_eq_some_iff.mp hc1).1
  have hheap : ((T'.setVm vm').setCell (gN G + a1) (vp_cell ((gQ G).2.2) (m1, .inl (va_cpy (u a0) (u a1) sp.toNatClampNeg dp.toNatClampNeg n.toNatClampNeg)))).heap = H.setIfInBounds (gN G + a1) (vp_cell ((gQ G).2.2) (m1, .inl (va_cpy (u a0) (u a1) sp.toNatClampNeg dp.toNatClampNeg n.toNatClampNeg))) := by rw [← hT]; rfl
  have oq : ∀ q : Nat, q ≠ gN G + a1 → (H.setIfInBounds (gN G + a1) (vp_cell ((gQ G).2.2) (m1, .inl (va_cpy (u a0) (u a1) sp.toNatClampNeg dp.toNatClampNeg n.toNatClampNeg))))[q]? = H[q]? := fun q hq => by simp [Array.getElem?_setIfInBounds, Ne.symm hq]
  obtain ⟨t, b1, b2⟩ := k _ _ ls k1 n1 (h1.put hs1 (u' := mset u a1 (va_cpy (u a0) (u a1) sp.toNatClampNeg dp.toNatClampNeg n.toNatClampNeg)) (by
      show (H.setIfInBounds (gN G + a1) _)[gN G + a1]? = some (vp_cell ((gQ G).2.2) (m1, .inl (mset u a1 _ a1)))
      rw [mset_at]
      simp [Array.getElem?_setIfInBounds, hl]) (by simp) oq (fun j hj => mset_ne u _ hj) (fun _ _ => rfl)) (fun q hq => by
      rcases List.mem_append.mp hq with h | h
      · exact h2 q h
      · obtain ⟨z, -, hz⟩ := List.mem_map.mp h
        rw [← hz]
        exact Nat.le_add_right _ _) h3 h4 h5 _ hheap X'
  exact ⟨t, step t b1, b2⟩
theorem w_copyK {G : Gt} {X : Xt} {b : ByteArray} {nL : Nat} {C : String} {T : Tt} {d : Nat} {lv : List (Nat × Value)} {st : List Value} {sh : List Shp} {r : Rf} {u : Mem} {i0 a1 m1 ix : Nat} {sp dp n : Int32} (pc : Nat) (hX : CxOk G X b nL C T d) (hi0 : i0 < strN) (hs1 : sh[a1]? = some (.inr (.inr (3, m1)))) (w1 : Cond.methodLink C ix arraycopyName ∈ TW) (w2 : Cond.native arraycopyName ∈ TW) (w3 : Cond.static arraycopyName ∈ TW) (w4 : Cond.initialized "java/lang/System" ∈ TW) (z1 : ¬ sp < 0) (z2 : ¬ dp < 0) (z3 : ¬ n < 0) (z4 : sp.toNatClampNeg + n.toNatClampNeg ≤ strLen.getD i0 0) (z5 : dp.toNatClampNeg + n.toNatClampNeg ≤ m1) (hfit : ∀ j, j < n.toNatClampNeg → (-128 ≤ (strByt.getD i0 []).getD (sp.toNatClampNeg + j) 0 ∧ (strByt.getD i0 []).getD (sp.toNatClampNeg + j) 0 ≤ 127)) (hd1 : 1 ≤ d) (hcat : (st.map fun v => v.category).sum ≤ 8) (hd : decode b pc = .ok (.invokestatic ix, 3))
    (k : WM G X (pc + 3) lv st sh r (mset u a1 (va_cpy (fun j => (strByt.getD i0 []).getD j 0) (u a1) sp.toNatClampNeg dp.toNatClampNeg n.toNatClampNeg))) : WM G X pc lv (.int n :: .int dp :: .ref a1 :: .int sp :: .ref (3000000 + i0) :: st) sh r u := by
  obtain ⟨p, e, R, s, m, args, below, meth, c, Q, nL', c0, n0⟩ := X
  intro H locs ls k1 n1 h1 h2 h3 h4 h5
  obtain ⟨x1, x2, x3, x4, x5, x6, x7, x8, x9, x10, x11, x12⟩ := hX
  have nn : ∀ z : Int32, ¬ z < 0 → z.toInt = (z.toNatClampNeg : Int) := by
    intro z hz
    have hz0 : (0 : Int) ≤ z.toInt := by
      have := Int32.not_lt.mp hz
      simpa using Int32.le_iff_toInt_le.mp this
    show z.toInt = ((z.toInt.toNat : Nat) : Int)
    omega
  have h9 := sts_cat G st
  show W p (gL G) e R s m args below meth c H locs k1 n1 Q (F0 m pc ls (.int n :: .int dp :: .ref (adr G a1) :: .int sp :: .ref (adr G (3000000 + i0)) :: sts G st))
  rw [adr_V hi0, h1.adr0 hs1]
  obtain ⟨cs, y1, y2, y3, y4, y5, y6, y7⟩ := (x6.2.2.2.1.1 i0 hi0).2.2.2.kept (h1.base x6)
  have h8 : nativeFrameWords "java/lang/System" "arraycopy" 5 + 11 ≤ 40 := by decide +kernel
  intro T' hT X
  have hc1 : H[gN G + a1]? = some (vp_cell ((gQ G).2.2) (m1, .inl (u a1))) := h1.1 a1 _ hs1
  obtain ⟨-, k0, hk0, cm0, hkk0⟩ := id y2
  obtain ⟨-, k9, hk9, cm9, hkk9⟩ := (x6.1.2 4 _ rfl).1 m1 (fun j => .int (u a1 j))
  obtain ⟨vm', X', step⟩ := X.arraycopy x1 x4 (x5 _ w1) (x5 _ w2) (x5 _ w3) (x5 _ w4) (src := gV G i0) (dst := gN G + a1) (cs := cs) (cd := vp_cell ((gQ G).2.2) (m1, .inl (u a1))) (srcPos := sp) (destPos := dp) (n := n) (by rw [hT]; exact y1) (by rw [hT]; exact hc1)
    (fun z h => y2.1 z h) (fun _ h => by cases h) y3 (fun h => by cases h) hk0 hk9 hkk0 hkk9 (by simp [refKind]) z1 z2 z3
    (by rw [nn sp z1, nn n z3]; show ¬ _ > (cs.slots.size : Int); omega)
    (by rw [nn dp z2, nn n z3]; show ¬ _ > ((arrV ((gQ G).2.2) m1 (fun j => .int (u a1 j))).slots.size : Int); rw [arrV_size]; omega)
    (fun vm₁ _ i hi => by
      have e : cs.slots.getD (sp.toNatClampNeg + i) .null = .int ((strByt.getD i0 []).getD (sp.toNatClampNeg + i) 0) := by
        rw [Array.getD_eq_getD_getElem?, y6 _ (by omega)]
        rfl
      refine ⟨?_, ?_⟩
      · rw [e]
        have hf := hfit i hi
        show (decide (_ ≤ _) && decide (_ ≤ _)) = true
        rw [decide_eq_true hf.1, decide_eq_true hf.2]
        rfl
      · rw [e]
        exact trivial)
    (g := F0 m pc ls (.int n :: .int dp :: .ref (gN G + a1) :: .int sp :: .ref (gV G i0) :: sts G st)) rfl (by show ls.size = c.maxLocals; rw [h3.1, x7, x3]) (rest := sts G st) rfl (by rw [x2]; exact hd) (by omega) (by show 2 * 0 + _ + _ ≤ _; rw [h9]; omega)
  have e1 : copied cs (vp_cell ((gQ G).2.2) (m1, .inl (u a1))) sp dp n = vp_cell ((gQ G).2.2) (m1, .inl (va_cpy (fun j => (strByt.getD i0 []).getD j 0) (u a1) sp.toNatClampNeg dp.toNatClampNeg n.toNatClampNeg)) := va_copiedX (fun z => .int z) cs ((gQ G).2.2) (fun j => (strByt.getD i0 []).getD j 0) (u a1) (fun j hj => y6 j hj) z4
  rw [e1] at X' step
  have hl : gN G + a1 < H.size := (Array.getElem?_eq_some_iff.mp hc1).1
  have hheap : ((T'.setVm vm').setCell (gN G + a1) (vp_cell ((gQ G).2.2) (m1, .inl (va_cpy (fun j => (strByt.getD i0 []).getD j 0) (u a1) sp.toNatClampNeg dp.toNatClampNeg n.toNatClampNeg)))).heap = H.setIfInBounds (gN G + a1) (vp_cell ((gQ G).2.2) (m1, .inl (va_cpy (fun j => (strByt.getD i0 []).getD j 0) (u a1) sp.toNatClampNeg dp.toNatClampNeg n.toNatClampNeg))) := by rw [← hT]; rfl
  have oq : ∀ q : Nat, q ≠ gN G + a1 → (H.setIfInBounds (gN G + a1) (vp_cell ((gQ G).2.2) (m1, .inl (va_cpy (fun j => (strByt.getD i0 []).getD j 0) (u a1) sp.toNatClampNeg dp.toNatClampNeg n.toNatClampNeg))))[q]? = H[q]? := fun q hq => by simp [Array.getElem?_setIfInBounds, Ne.symm hq]
  obtain ⟨t, b1, b2⟩ := k _ _ ls k1 n1 (h1.put hs1 (u' := mset u a1 (va_cpy (fun j => (strByt.getD i0 []).getD j 0) (u a1) sp.toNatClampNeg dp.toNatClampNeg n.toNatClampNeg)) (by
      show (H.setIfInBounds (gN G + a1) _)[gN G + a1]? = some (vp_cell ((gQ G).2.2) (m1, .inl (mset u a1 _ a1)))
      rw [mset_at]
      simp [Array.getElem?_setIfInBounds, hl]) (by simp) oq (fun j hj => mset_ne u _ hj) (fun _ _ => rfl)) (fun q hq => by
      rcases List.mem_append.mp hq with h | h
      · exact h2 q h
      · obtain ⟨z, -, hz⟩ := List.mem_map.mp h
        rw [← hz]
        exact Nat.le_add_right _ _) h3 h4 h5 _ hheap X'
  exact ⟨t, step t b1, b2⟩
theorem x_bcpy {G : Gt} {X : Xt} {b : ByteArray} {nL : Nat} {C : String} {T : Tt} {d : Nat} {lv : List (Nat × Value)} {st : List Value} {w : Wd} {a0 a1 ix : Nat} {sp dp n : Int32} {z : Unit} {w1 : Wd} (pc : Nat) (hX : CxOk G X b nL C T d) (g : (dput (bcpy a0 sp a1 dp n)).1 w = some (z, w1)) (w1_ : Cond.methodLink C ix arraycopyName ∈ TW) (hd1 : 1 ≤ d) (hcat : (st.map fun v => v.category).sum ≤ 8) (hd : decode b pc = .ok (.invokestatic ix, 3)) (k : WM G X (pc + 3) lv st w1.1 w1.2.1 w1.2.2) : WM G X pc lv (.int n :: .int dp :: .ref a1 :: .int sp :: .ref a0 :: st) w.1 w.2.1 w.2.2 := by
  replace g := dpt_inv g
  obtain ⟨q, g, rfl⟩ := g
  obtain ⟨m0, h1, g⟩ := o_bind g
  cases e : w.1[a1]? with
  | none => rw [e] at g; cases g
  | some s =>
    rw [e] at g
    rcases s with n2 | ci | ⟨κ, m1⟩
    · cases g
    · cases g
    · match κ, e, g with
      | 0, e, g => cases g
      | 1, e, g => cases g
      | 2, e, g => cases g
      | κ + 4, e, g => cases g
      | 3, e, g =>
        by_cases c : sp < 0 ∨ dp < 0 ∨ n < 0 ∨ m0 < sp.toNatClampNeg + n.toNatClampNeg ∨ m1 < dp.toNatClampNeg + n.toNatClampNeg ∨ ¬ ∀ j, j < n.toNatClampNeg → (-128 ≤ bAt a0 w (sp.toNatClampNeg + j) ∧ bAt a0 w (sp.toNatClampNeg + j) ≤ 127)
        · have g := (if_pos c).symm.trans g
          cases g
        · have g := (if_neg c).symm.trans g
          cases g
          rcases not_or.mp c with ⟨c1, c⟩
          rcases not_or.mp c with ⟨c2, c⟩
          rcases not_or.mp c with ⟨c3, c⟩
          rcases not_or.mp c with ⟨c4, c⟩
          rcases not_or.mp c with ⟨c5, c7⟩
          replace c7 := Decidable.not_not.mp c7
          by_cases c6 : 3000000 ≤ a0 ∧ a0 < 3000000 + strN
          · obtain ⟨i, hi, rfl⟩ := kb_ c6
            rw [bLen_c hi] at h1
            cases h1
            have e3 : bAt (3000000 + i) w = fun j => (strByt.getD i []).getD j 0 := funext fun j => bAt_c hi
            rw [e3] at k
            exact w_copyK pc hX hi e w1_ ac_n ac_s ac_i c1 c2 c3 (Nat.not_lt.mp c4) (Nat.not_lt.mp c5) (fun j hj => by rw [← bAt_c (w := w) hi]; exact c7 j hj) hd1 hcat hd k
          · have e3 : bAt a0 w = w.2.2 a0 := by
              funext j
              unfold bAt
              rw [if_neg c6]
            rw [e3] at k
            exact w_copyB pc hX (bLen_d c6 h1) e w1_ ac_n ac_s ac_i c1 c2 c3 (Nat.not_lt.mp c4) (Nat.not_lt.mp c5) (fun j hj => by rw [← e3]; exact c7 j hj) hd1 hcat hd k
theorem isS_ok {a : Nat} {w : Wd} {x : Unit} (g : isS a w = some x) : (∃ i, i < strN ∧ a = 2000000 + i) ∨ w.1[a]? = some (.inr (.inl 13)) := by
  unfold isS at g
  by_cases c : 2000000 ≤ a ∧ a < 2000000 + strN
  · exact Or.inl (ks_ c)
  · rw [if_neg c] at g
    exact Or.inr (isC_ok g)
theorem x_invS {G : Gt} {X : Xt} {b : ByteArray} {nL : Nat} {C : String} {T : Tt} {d : Nat} {lv : List (Nat × Value)} {st : List Value} {w : Wd} {y : MethodName} {by_ : ByteArray} {ny ix n d2 a : Nat} {ry : Option FieldType} {av : List Value} {T2 : Tt} {z : Unit} (pc : Nat) (hX : CxOk G X b nL C T d) (g : isS a w = some z) (hcl : y.cls = "java/lang/String") (hV : MV y) (hI : MI y by_ ny ry n) (hl : Cond.methodLink C ix y ∈ TW) (hM : CT G y by_ ny ry d2 (.ref a :: av) w.1 w.2.1 w.2.2 T2) (hn : av.length = n) (hd2 : d2 + 1 ≤ d) (hcat : (st.map fun v => v.category).sum ≤ 8) (q1 : T2.2.1.length ≤ T.2.1.length) (q2 : ssum T2.2.1 ≤ ssum T.2.1) (hd : decode b pc = .ok (.invokevirtual ix, 3)) (k : WM G X (pc + 3) lv (T2.1.toList ++ st) T2.2.1 T2.2.2.1 T2.2.2.2) : WM G X pc lv (av.reverse ++ .ref a :: st) w.1 w.2.1 w.2.2 := by
  rcases isS_ok g with ⟨i, hi, rfl⟩ | hs
  · exact w_invVT pc hX hi hcl hV hI hl hM hn hd2 hcat q1 q2 hd k
  · exact w_invV pc hX CI_13 hs hcl hV hI hl hM hn hd2 hcat q1 q2 hd k
theorem sel_priv {C : String} {y z : MethodName} {s : State} {args : Array Value} {n : Nat} (hy : y.cls ≠ "java/lang/invoke/MethodHandle" ∧ y.cls ≠ "java/lang/invoke/VarHandle") (hz : z.cls = y.cls)
    (hins : (Cond.instantiable C n).before args s = true) (hpriv : (Cond.privateMethod y).before args s = true) (hinst : (Cond.instanceMethod y).before args s = true) (hinz : (Cond.instanceMethod z).before args s = true) (hsel : (Cond.selects C z z).before args s = true) :
    (Cond.selects C y y).before args s = true := by
  obtain ⟨c, k, hc, hk, -, hniab, -, -⟩ := Cond.instantiable_spec hins
  obtain ⟨mk, methM, hnamed, hmethM, -, -⟩ := Cond.instanceMethod_spec hinst
  obtain ⟨mz, methZ, hnamez, hmethZ, -, -⟩ := Cond.instanceMethod_spec hinz
  have hfound : s.methodFound? y.cls y.name y.desc = some mk := State.methodFound?_of_named hnamed hy
  have hfounz : s.methodFound? z.cls z.name z.desc = some mz := State.methodFound?_of_named hnamez (by rw [hz]; exact hy)
  have hcls : mz.cls = mk.cls := by
    have e1 := findClass_of_methodNamed hnamed
    have e2 := findClass_of_methodNamed hnamez
    rw [hz] at e2
    exact Option.some.inj (e2.symm.trans e1)
  have hs : selectMethod {} s.vm c mk = .method mk := selectMethod_private hmethM (Cond.privateMethod_at hpriv mk methM hnamed hmethM)
  simp only [Cond.before, Cond.holds, Cond.value, hc, hfounz, hnamez] at hsel
  have h9 : (s.vm.classes[mz.cls]?).any (fun k => !k.isInterface) = true := by
    revert hsel
    cases selectMethod {} s.vm c mz <;> simp
  rw [hcls] at h9
  simp only [Cond.before, Cond.holds, Cond.value, hc, hfound, hnamed, hs]
  simpa using h9
theorem x_invU {G : Gt} {X : Xt} {b : ByteArray} {nL : Nat} {C : String} {T : Tt} {d : Nat} {lv : List (Nat × Value)} {st : List Value} {sh : List Shp} {r : Rf} {u : Mem} {x y : MethodName} {by_ : ByteArray} {ny ix n d2 a : Nat} {ry : Option FieldType} {av : List Value} {T2 : Tt} (pc : Nat) (hX : CxOk G X b nL C T d) (hs : sh[a]? = some (.inr (.inl 14))) (hsm : Cond.sameMethod x.cls x.cls x.name x.desc ∈ TW) (hse : ∀ (args : Array Value) (s : State), (∀ w ∈ TW, w.before args s = true) → (∀ w ∈ NW, va_Nw w s) → (Cond.selects RJ4 x y).before args s = true) (hiy : Cond.instanceMethod y ∈ TW) (hix : Cond.instanceMethod x ∈ TW) {b0 : ByteArray} {m0 : Nat} {r0 : Option FieldType} (h0 : Cond.code x b0 m0 r0 ∈ TW) (hmx : x.cls ≠ "java/lang/invoke/MethodHandle" ∧ x.cls ≠ "java/lang/invoke/VarHandle" ∧ (parseMethodDescriptor x.desc).map (fun d => d.parameters.length) = some n) (hI : MI y by_ ny ry n) (hl : Cond.methodLink C ix x ∈ TW) (hM : CT G y by_ ny ry d2 (.ref a :: av) sh r u T2) (hn : av.length = n) (hd2 : d2 + 1 ≤ d) (hcat : (st.map fun v => v.category).sum ≤ 8) (q1 : T2.2.1.length ≤ T.2.1.length) (q2 : ssum T2.2.1 ≤ ssum T.2.1) (hd : decode b pc = .ok (.invokevirtual ix, 3)) (k : WM G X (pc + 3) lv (T2.1.toList ++ st) T2.2.1 T2.2.2.1 T2.2.2.2) : WM G X pc lv (av.reverse ++ .ref a :: st) sh r u := by
  obtain ⟨p, e, R, s, m, args, below, meth, c, Q, nL', c0, n0⟩ := X
  intro H locs ls k1 n1 h1 h2 h3 h4 h5
  obtain ⟨x1, x2, x3, x4, x5, x6, x7, x8, x9, x10, x11, x12⟩ := hX
  obtain ⟨m1, m2, hM⟩ := hM
  obtain ⟨i1, i2, ⟨i3, i4, i5⟩, i6⟩ := hI
  have hG : GoodIn TW (Cond.code y by_ ny ry :: TW) := goodIn_tw _ (fun w hw => by
    rcases List.mem_cons.mp hw with rfl | hw
    · exact i1
    · exact hw)
  have hroom : d2 + 1 ≤ R.frames ∧ 8 + (ny + 11) + 60 * d2 ≤ R.locals := ⟨by omega, by omega⟩
  have hlen : ∀ sig, parseMethodDescriptor x.desc = some sig → n = sig.parameters.length := fun sig h => by
    have h2 := hmx.2.2
    rw [h] at h2
    exact (Option.some.inj h2).symm
  have cw : va_CU R s args C RJ4 x.cls ix x y by_ ny ry (Cond.code y by_ ny ry :: TW) { frames := d2, cells := T2.2.1.length - sh.length, slots := ssum T2.2.1 - ssum sh, locals := 60 * d2 } (T2.2.1.length - sh.length) (ssum T2.2.1 - ssum sh) n :=
    ⟨⟨rfl, rfl, hroom.1, hroom.2, pay_in x5 hG, List.mem_cons_self⟩, x5 _ i1, x5 _ i2, ⟨hmx.1, hmx.2.1⟩, hlen, x5 _ hl, x5 _ hsm, va_Decl.of (x5 _ hix) (x5 _ h0), hse args s x5 x6.2.1, x5 _ hiy⟩
  show W p (gL G) e R s m args below meth c H locs k1 n1 Q (F0 m pc ls (sts G (av.reverse ++ .ref a :: st)))
  rw [sts_rev]
  refine w_after (mc := T2.2.1.length - sh.length) (ms := ssum T2.2.1 - ssum sh) (va_runU (As := sts G av) (b := adr G a) (rest := sts G st)  ⟨x1, x2, x3, x4, x5⟩ hM cw ⟨pc_blind, w_recv h1 x6 CI_14 hs, fun U hU hW => ⟨rfl, by rw [hU]; exact h1, RepW.warm hW x6⟩⟩ rfl (by simp [sts, hn]) (h3.1.trans x7) rfl (lv_room (by rw [sts_cat]; exact hcat)) hd ⟨by omega, by omega⟩) h2 h3 (by omega) (by omega) k
theorem x_invSU {G : Gt} {X : Xt} {b : ByteArray} {nL : Nat} {C : String} {T : Tt} {d : Nat} {lv : List (Nat × Value)} {st : List Value} {sh : List Shp} {r : Rf} {u : Mem} {y : MethodName} {by_ : ByteArray} {ny ix n d2 a : Nat} {ry : Option FieldType} {av : List Value} {T2 : Tt} (pc : Nat) (hX : CxOk G X b nL C T d) (hs : sh[a]? = some (.inr (.inl 14))) (hsm : Cond.sameMethod y.cls y.cls y.name y.desc ∈ TW) (hsu : Cond.superclass C y.cls ∈ TW) (hiy : Cond.instanceMethod y ∈ TW) (hno : y.name ≠ "<init>") (hI : MI y by_ ny ry n) (hl : Cond.methodLink C ix y ∈ TW) (hM : CT G y by_ ny ry d2 (.ref a :: av) sh r u T2) (hn : av.length = n) (hd2 : d2 + 1 ≤ d) (hcat : (st.map fun v => v.category).sum ≤ 8) (q1 : T2.2.1.length ≤ T.2.1.length) (q2 : ssum T2.2.1 ≤ ssum T.2.1) (hd : decode b pc = .ok (.invokespecial ix, 3)) (k : WM G X (pc + 3) lv (T2.1.toList ++ st) T2.2.1 T2.2.2.1 T2.2.2.2) : WM G X pc lv (av.reverse ++ .ref a :: st) sh r u := by
  obtain ⟨p, e, R, s, m, args, below, meth, c, Q, nL', c0, n0⟩ := X
  intro H locs ls k1 n1 h1 h2 h3 h4 h5
  obtain ⟨x1, x2, x3, x4, x5, x6, x7, x8, x9, x10, x11, x12⟩ := hX
  obtain ⟨m1, m2, hM⟩ := hM
  obtain ⟨i1, i2, ⟨i3, i4, i5⟩, i6⟩ := hI
  have hG : GoodIn TW (Cond.code y by_ ny ry :: TW) := goodIn_tw _ (fun w hw => by
    rcases List.mem_cons.mp hw with rfl | hw
    · exact i1
    · exact hw)
  have hroom : d2 + 1 ≤ R.frames ∧ 8 + (ny + 11) + 60 * d2 ≤ R.locals := ⟨by omega, by omega⟩
  have cw := va_cwSU (R := R) (s := s) (args := args) (own := C) (index := ix) (y := y) (ws := Cond.code y by_ ny ry :: TW) (rm := { frames := d2, cells := T2.2.1.length - sh.length, slots := ssum T2.2.1 - ssum sh, locals := 60 * d2 }) n x5 (fun w hw => by
    rcases List.mem_append.mp hw with hw | hw
    · simp only [List.mem_cons, List.not_mem_nil, or_false] at hw
      rcases hw with rfl | rfl | rfl | rfl | rfl
      · exact tw_good hl
      · exact tw_good hsm
      · exact tw_good hsu
      · exact tw_good hiy
      · exact tw_good i2
    · exact hG w hw) rfl rfl rfl ⟨hno, i5⟩ hroom
  show W p (gL G) e R s m args below meth c H locs k1 n1 Q (F0 m pc ls (sts G (av.reverse ++ .ref a :: st)))
  rw [sts_rev]
  refine w_after (mc := T2.2.1.length - sh.length) (ms := ssum T2.2.1 - ssum sh) (va_runSU (As := sts G av) (b := adr G a) (rest := sts G st) ((x6.1.1 14 _ rfl).2) ⟨x1, x2, x3, x4, x5⟩ hM cw ⟨pc_blind, w_recv h1 x6 CI_14 hs, fun U hU hW => ⟨rfl, by rw [hU]; exact h1, RepW.warm hW x6⟩⟩ rfl (by simp [sts, hn]) (h3.1.trans x7) rfl (lv_room (by rw [sts_cat]; exact hcat)) hd ⟨by omega, by omega⟩) h2 h3 (by omega) (by omega) k
/-- a contract over worlds -/
abbrev CN (G : Gt) (y : MethodName) (b : ByteArray) (nL : Nat) (ret : Option FieldType) (d : Nat) (av : List Value) (w : Wd) (a : Option Value) (w' : Wd) : Prop := CT G y b nL ret d av w.1 w.2.1 w.2.2 (a, w'.1, w'.2.1, w'.2.2)
theorem cn_of {G : Gt} {y : MethodName} {b : ByteArray} {nL : Nat} {ret : Option FieldType} {d : Nat} {av : List Value} {w w' : Wd} {a : Option Value} (hy : plainName y.cls = true) (hc : cat1 av = true) (hn : av.length ≤ nL) (hm : Le w w')
    (body : ∀ X : Xt, CxOk G X b nL y.cls (a, w'.1, w'.2.1, w'.2.2) d → CxNm X y.name → CxRet G X ret (a, w'.1, w'.2.1, w'.2.2) → WM G X 0 (largs 0 av) [] w.1 w.2.1 w.2.2) : CN G y b nL ret d av w a w' := by
  refine ⟨hm.1, hm.2, ?_⟩
  refine Met.ofW (cc := b) (maxL := nL) (ret := ret) hy rfl ?_
  intro p e s m args below meth c s₁ B hml hv
  obtain ⟨rfl, hR, hW⟩ := hv
  have hts := atoms_spec (ws := .code y b nL ret :: TW) B.pre
  have hown : s.vm.findClass y.cls = some m.cls := findClass_of_methodNamed B.named
  have hlocks := B.notSynchronized
  have hlen := lg_sl_len G hc
  have hl := lv_entry (sts G av) (n := nL) (by rw [hlen]; exact hn)
  rw [lg_entry_eq]
  rw [lv_args_sts G hc] at hl
  have hm1 := hm.1
  have hm2 := hm.2
  exact body (p, e, _, s, m, _, below, meth, c, _, nL, w.1.length, ssum w.1) ⟨B.exec, B.bytes, hml, hown, fun w hw => hts w (List.mem_cons_of_mem _ hw), hW, rfl, Nat.le_refl _, Nat.le_refl _, (by show w'.1.length ≤ w'.1.length - w.1.length + w.1.length; omega), (by show ssum w'.1 ≤ ssum w'.1 - ssum w.1 + ssum w.1; omega), hlocks⟩ (name_of_methodNamed B.named B.method).1 ⟨B.returns, rfl⟩ s.heap [] _ 0 0 hR (fun q hq => by cases hq) hl (by omega) (by omega)
def gx (G : Gt) (e : List Shp × Rf) : Gt := (G.1, G.2.1, G.2.2.1, G.2.2.2.1, G.2.2.2.2.1, G.2.2.2.2.2.1, G.2.2.2.2.2.2.1, G.2.2.2.2.2.2.2.1, G.2.2.2.2.2.2.2.2.1, G.2.2.2.2.2.2.2.2.2.1, G.2.2.2.2.2.2.2.2.2.2.1, G.2.2.2.2.2.2.2.2.2.2.2.1, e)
theorem oks_sh {G : Gt} {w : Wd} (h : OKs w) : SHg (gx G (w.1.drop 146, w.2.1)) = w.1 := by
  show SH ++ w.1.drop 146 = w.1
  rw [← h.1, List.take_append_drop]
theorem oks_rh {G : Gt} {w : Wd} (h : OKs w) : RHg (gx G (w.1.drop 146, w.2.1)) = w.2.1 := by
  funext a
  funext k
  show (if a < 146 then RHO a k else w.2.1 a k) = w.2.1 a k
  by_cases c : a < 146
  · rw [if_pos c, h.2 a c]
  · rw [if_neg c]
theorem cs_ {G : Gt} {α : Type} {f : Mem → Option (α × Mem)} {y : MethodName} {b : ByteArray} {nL : Nat} {ret : Option FieldType} {d : Nat} {av : List Value} {w w1 : Wd} {x : α} {a : Option Value} (h : ∀ (G : Gt) (u' : Mem), f w.2.2 = some (x, u') → CT G y b nL ret d av (SHg G) (RHg G) w.2.2 (a, SHg G, RHg G, u')) (g : (dcl f).1 w = some (x, w1)) : CN G y b nL ret d av w a w1 := by
  obtain ⟨h1, u', h2, h3⟩ := dcl_ok g
  have h4 := h (gx G (w.1.drop 146, w.2.1)) u' h2
  rw [oks_sh h1, oks_rh h1] at h4
  have h5 : w1 = (w.1, w.2.1, u') := h3
  rw [h5]
  exact h4
theorem cs_R {G : Gt} {f : Mem → Option Int32} {y : MethodName} {b : ByteArray} {nL : Nat} {ret : Option FieldType} {d : Nat} {av : List Value} {w w1 : Wd} {x : Int32} (h : ∀ (G : Gt), f w.2.2 = some x → CT G y b nL ret d av (SHg G) (RHg G) w.2.2 (some (.int x), SHg G, RHg G, w.2.2)) (g : (dclR f).1 w = some (x, w1)) : CN G y b nL ret d av w (some (.int x)) w1 :=
  cs_ (fun G u' e => by
    obtain ⟨z, h1, h2⟩ := Option.map_eq_some_iff.mp e
    cases h2
    exact h G h1) g
theorem cs_W {G : Gt} {f : Mem → Option (Int32 × Mem)} {y : MethodName} {b : ByteArray} {nL : Nat} {ret : Option FieldType} {d : Nat} {av : List Value} {w w1 : Wd} {x : Int32} (h : ∀ (G : Gt) (u' : Mem), f w.2.2 = some (x, u') → CT G y b nL ret d av (SHg G) (RHg G) w.2.2 (some (.int x), SHg G, RHg G, u')) (g : (dclW f).1 w = some (x, w1)) : CN G y b nL ret d av w (some (.int x)) w1 := cs_ h g
theorem cs_V {G : Gt} {f : Mem → Option Mem} {y : MethodName} {b : ByteArray} {nL : Nat} {ret : Option FieldType} {d : Nat} {av : List Value} {w w1 : Wd} {x : Unit} (h : ∀ (G : Gt) (u' : Mem), f w.2.2 = some u' → CT G y b nL ret d av (SHg G) (RHg G) w.2.2 (none, SHg G, RHg G, u')) (g : (dclV f).1 w = some (x, w1)) : CN G y b nL ret d av w none w1 :=
  cs_ (fun G u' e => by
    obtain ⟨z, h1, h2⟩ := Option.map_eq_some_iff.mp e
    cases h2
    exact h G _ h1) g
