/-! TELLING, row by row -/
theorem d_tl {u : Mem} (h : txD u) (l1 l3 l4 l5 l6 : Int32) (F : Nat) : FX6_tellingLine_34_L54 (F + 2) l1 l3 l4 l5 l6 u = some (mupd u 34 11 (u 34 11 + 1)) := by
  have e117 : ∀ x, FX6_tellingLine_34_b117 l3 x u = some (mupd u 34 11 (u 34 11 + 1)) := fun x => by
    unfold FX6_tellingLine_34_b117 FX6_tellingLine_34_b151
    rw [c_needD h (by decide), b_some, if_neg h.2, b_some]
  show FX6_tellingLine_34_b54 _ _ _ _ _ _ _ = _
  unfold FX6_tellingLine_34_b54
  by_cases c : (400 : Int32) ≤ l6
  · rw [if_pos c]; exact e117 l4
  · rw [if_neg c]
    by_cases c2 : l5 = 0
    · rw [if_pos c2]; exact e117 l4
    · rw [if_neg c2, d_num h, b2_some, if_pos (by decide)]
      unfold FX6_tellingLine_34_b99
      rw [c_takeD h (by decide), b2_some]
      show FX6_tellingLine_34_b54 _ _ _ _ _ _ _ = _
      unfold FX6_tellingLine_34_b54
      rw [if_pos rfl, ite_self]
      exact e117 _
theorem d_b38 {u : Mem} (h : txD u) (l1 l3 : Int32) : FX6_tellingLine_34_b38 l1 l3 u = some (mupd u 34 11 (u 34 11 + 1)) := by
  unfold FX6_tellingLine_34_b38
  rw [c_needD h (by decide), b_some]
  exact d_tl h l1 l3 0 1 0 9998
theorem tl_L {b : Nat → Nat} {n : Nat} {v0 : Int32} {N men L t : Nat} (hZ : pxZ (kk 1 b n) (vv b n v0) N) (hmen : men ≤ 12) (ht : t < men) (hL : L < 16) : ∀ (d j s c F F2 : Nat) (u w : Mem), N - j ≤ d → d + 2 < F → d < F2 → c < j → txA (kk 1 b n) (vv b n v0) (qs b n) N j u → myT 1 b n v0 j w → w 147 78 = nI men → w 146 15 = nI L → w 153 (2 * L + 1) = nI s → s < 2 ^ men → (∃ f y u1 w1, f ≠ 0 ∧ f < 4 ∧ FX6_tellingLine_34_L54 F (nI men) (nI t) (nI s) 1 (nI c) u = some u1 ∧ txR u u1 ∧ txX (qs b n) f y u1 ∧ (bnd2 (FX12_another_146 (nI t) w) fun x9 u10 => (if x9 = 0 then (some (0, u10)) else (FX12_aTelling_146_L69 F2 (nI t) u10))) = some (0, w1) ∧ myR w w1 ∧ myE b n f y w1) ∨ (∃ j' s' u1 w1, j < j' ∧ s' < 2 ^ men ∧ FX6_tellingLine_34_L54 F (nI men) (nI t) (nI s) 1 (nI c) u = some u1 ∧ txR u u1 ∧ txA (kk 1 b n) (vv b n v0) (qs b n) N j' u1 ∧ u1 34 11 = u 34 11 + 1 ∧ u1 50 = upd (u 50) t (u 50 t ||| nI s') ∧ (bnd2 (FX12_another_146 (nI t) w) fun x9 u10 => (if x9 = 0 then (some (0, u10)) else (FX12_aTelling_146_L69 F2 (nI t) u10))) = some (1, w1) ∧ myR w w1 ∧ myT 1 b n v0 j' w1 ∧ w1 153 = upd (w 153) (2 * L + 1) (nI s')) := by
  intro d
  induction d using Nat.strongRecOn with
  | _ d ih =>
  intro j s c F F2 u w hd hF hF2 hc hA hT hm78 h15 hs hs2
  obtain ⟨F, rfl⟩ : ∃ f, F = f + 3 := ⟨F - 3, by omega⟩
  obtain ⟨F2, rfl⟩ : ∃ f, F2 = f + 1 := ⟨F2 - 1, by omega⟩
  have hN := hZ.1.1
  have hj := hA.2.1
  have k4 : 1 < 4 := by decide
  have hv := kk_v 1 b n j
  have hbt : ∀ x, x < 10000 → (nI x = nI t ↔ x = t) := fun x hx => by rw [nn_eq (by omega) (by omega)]
  have e1 : FX6_tellingLine_34_L54 (F + 3) (nI men) (nI t) (nI s) 1 (nI c) u = (bnd2 (FX6_number_34 (nI men - 1) (nI t) u) fun x3 u4 => (if x3 < 0 then (FX6_tellingLine_34_b99 (FX6_tellingLine_34_L54 (F + 2)) (nI men) (nI t) (nI c) (nI s) 0 u4) else ((if 12 ≤ x3 then (FX6_tellingLine_34_b99 (FX6_tellingLine_34_L54 (F + 2)) (nI men) (nI t) (nI c) (nI s) 0 u4) else (FX6_tellingLine_34_b99 (FX6_tellingLine_34_L54 (F + 2)) (nI men) (nI t) (nI c) (nI s) ((1 : Int32) <<< (x3 &&& 31)) u4))))) := by
    show FX6_tellingLine_34_b54 _ _ _ _ _ _ _ = _
    unfold FX6_tellingLine_34_b54
    rw [if_neg (show ¬ (400 : Int32) ≤ nI c by rw [li_le (by decide) (by omega)]; show ¬ 400 ≤ c; omega), if_neg z1]
  have eT : nI (mtk 1 (kk 1 b n j)) = 2 ↔ kk 1 b n j = 1 := by
    constructor
    · intro h
      exact Decidable.byContradiction fun h2 => tN_1_1 hv h2 h
    · exact fun h => tY_1_1 h
  have em : FX12_another_146 (nI t) w = (if kk 1 b n j = 1 ∧ w 146 20 = nI t then (bnd2 (FX12_bad_146 2 w) fun x3 u4 => (bchk x3).bind fun x5 => some (x5, u4)) else FX12_another_146_b22 w) := by
    unfold FX12_another_146
    rw [hT.2.2.2.1]
    by_cases c1 : kk 1 b n j = 1
    · rw [if_pos (tY_1_1 c1)]
      by_cases c2 : w 146 20 = nI t
      · rw [if_pos c2, if_pos ⟨c1, c2⟩]
      · rw [if_neg c2, if_neg (fun h => c2 h.2)]
    · rw [if_neg (tN_1_1 hv c1), if_neg (fun h => c1 h.1)]
  have dead : ∀ (u1 : Mem), txD u1 → (bnd2 (some ((-1 : Int32), u1)) fun x3 u4 => (if x3 < 0 then (FX6_tellingLine_34_b99 (FX6_tellingLine_34_L54 (F + 2)) (nI men) (nI t) (nI c) (nI s) 0 u4) else ((if 12 ≤ x3 then (FX6_tellingLine_34_b99 (FX6_tellingLine_34_L54 (F + 2)) (nI men) (nI t) (nI c) (nI s) 0 u4) else (FX6_tellingLine_34_b99 (FX6_tellingLine_34_L54 (F + 2)) (nI men) (nI t) (nI c) (nI s) ((1 : Int32) <<< (x3 &&& 31)) u4))))) = some (mupd u1 34 11 (u1 34 11 + 1)) := by
    intro u1 h1
    rw [b2_some, if_pos (by decide)]
    unfold FX6_tellingLine_34_b99
    rw [c_takeD h1 (by decide), b2_some]
    exact d_tl h1 _ _ _ _ _ F
  rw [e1, em]
  rcases c_num hZ hbt (show men ≤ 10000 by omega) hA with ⟨p1, p2, p3, p4, p5⟩ | ⟨p1, u1, p2, p3, p4⟩
  · -- a man
    have pt : ¬ vv b n v0 j = t := fun h => by
      unfold pxN at p1
      rw [if_pos p2, if_neg (fun hh => hh.2 h)] at p1
      cases p1
    obtain ⟨s1', s2'⟩ := vv_le (v0 := v0) p2
    have h20 : ¬ w 146 20 = nI t := by
      rw [hT.2.2.2.2, s1', ← s2', nn_eq (by omega) (by omega)]; exact pt
    rw [p5, b2_some, if_neg (nI_pos (by omega)), if_neg (n12 (by omega)), if_neg (fun h => h20 h.2)]
    rcases m_num k4 (show men ≤ 10000 by omega) hT (p := w 147 78 - 1) (by rw [hm78]) with ⟨q1, q2, w2, m2, f2, n2, c2, hT2⟩ | ⟨q1, -⟩
    · have x15 : w2 146 15 = nI L := by rw [f2.2 15 (by decide)]; exact h15
      have hT3 := myT_3 hT2 (2 * L + 1) (nI (s ||| 2 ^ vv b n v0 j))
      have f3 := myR_3 w2 (2 * L + 1) (nI (s ||| 2 ^ vv b n v0 j))
      have hs' : s ||| 2 ^ vv b n v0 j < 2 ^ men := Nat.or_lt_two_pow hs2 (Nat.pow_lt_pow_right (by omega) p3)
      have eb : FX12_another_146_b22 w = some (1, mupd w2 153 (2 * L + 1) (nI (s ||| 2 ^ vv b n v0 j))) := by
        unfold FX12_another_146_b22
        rw [m2, b2_some, if_neg z1, x15, li_mul, nI_1, rb (by show 2 * L + 1 < 48; omega) (by omega), n2, c2]
        show ((wrA w2 153 48 (nI (2 * L + 1)) (w 153 (2 * L + 1) ||| (1 <<< (nI (vv b n v0 j) &&& 31)))).bind _) = _
        rw [hs, nI_or (by omega), wb (by omega) (by omega)]
      rw [eb, b2_some, if_neg z1, nI_shm (by omega)]
      unfold FX6_tellingLine_34_b99
      have e_or : nI s ||| ((1 : Int32) <<< nI (vv b n v0 j)) = nI (s ||| 2 ^ vv b n v0 j) := by
        have := nI_or (U := s) (j := vv b n v0 j) (by omega)
        rw [nI_shm (by omega)] at this
        exact this
      have hA1 := txGo_A (j := j + 1) hA (by omega)
      have H1 := txGo_H (kk 1 b n) u (j + 1)
      have R1 := txGo_R (kk 1 b n) u (j + 1)
      have hv1 := kk_v 1 b n (j + 1)
      rw [e_or, nI_1]
      have e153 : (mupd w2 153 (2 * L + 1) (nI (s ||| 2 ^ vv b n v0 j))) 153 = upd (w 153) (2 * L + 1) (nI (s ||| 2 ^ vv b n v0 j)) := by rw [m_eq, c2]
      have f23 := myR_t f2 f3
      by_cases c5 : kk 1 b n (j + 1) = 257
      · have hj1 := hZ.1.2 (j + 1) (by omega) (by omega)
        obtain ⟨w4, m4, f4, -, c4, hT4⟩ := mk_nx k4 hT3
        have hA2 := txGo_A (j := j + 2) hA1 (by omega)
        have H2 := txH_t H1 (txGo_H (kk 1 b n) (txGo (kk 1 b n) u (j + 1)) (j + 2))
        have R2 := txR_t R1 (txGo_R (kk 1 b n) (txGo (kk 1 b n) u (j + 1)) (j + 2))
        have el : FX12_aTelling_146_L69 (F2 + 1) (nI t) (mupd w2 153 (2 * L + 1) (nI (s ||| 2 ^ vv b n v0 j))) = (bnd2 (FX12_another_146 (nI t) w4) fun x9 u10 => (if x9 = 0 then (some (0, u10)) else (FX12_aTelling_146_L69 F2 (nI t) u10))) := by
          show FX12_aTelling_146_b69 _ _ _ = _
          unfold FX12_aTelling_146_b69
          rw [hT3.2.2.2.1, if_pos (tY_1_257 c5), m4, b_some]
        rw [c_takeY hZ hA1 (nk c5) (by omega), b2_some, el, show j + 1 + 1 = j + 2 by omega]
        have fall := myR_t f23 f4
        rcases ih (d - 1) (by omega) (j + 2) (s ||| 2 ^ vv b n v0 j) (c + 1) (F + 2) F2 (txGo (kk 1 b n) (txGo (kk 1 b n) u (j + 1)) (j + 2)) w4 (by omega) (by omega) (by omega) (by omega) hA2 hT4 (by rw [fall.1 147 (by decide) (by decide)]; exact hm78) (by rw [fall.2 15 (by decide)]; exact h15) (by rw [c4, e153, up_eq]) hs' with ⟨f, y, u1, w5, k1, k2, k3, k5, k6, k7, k8, k9⟩ | ⟨j', s', u1, w5, k1, k2, k3, k5, k6, k7, k8, k9, k10, k11, k12⟩
        · exact Or.inl ⟨f, y, u1, w5, k1, k2, k3, txR_t R2 k5, k6, k7, myR_t fall k8, k9⟩
        · refine Or.inr ⟨j', s', u1, w5, by omega, k2, k3, txR_t R2 k5, k6, by rw [k7, H2.2 11 (by decide) (by decide) (by decide) (by decide)], by rw [k8, H2.1 50 (by decide)], k9, myR_t fall k10, k11, ?_⟩
          rw [k12, c4, e153]
          funext y
          by_cases e : y = 2 * L + 1
          · rw [e, up_eq, up_eq]
          · rw [up_ne e, up_ne e, up_ne e]
      · have el : FX12_aTelling_146_L69 (F2 + 1) (nI t) (mupd w2 153 (2 * L + 1) (nI (s ||| 2 ^ vv b n v0 j))) = (bnd2 (FX12_need_146 159 (mupd w2 153 (2 * L + 1) (nI (s ||| 2 ^ vv b n v0 j)))) fun x2 u3 => (bchk x2).bind fun x4 => some (x4, u3)) := by
          show FX12_aTelling_146_b69 _ _ _ = _
          unfold FX12_aTelling_146_b69
          rw [hT3.2.2.2.1, if_neg (tN_1_257 hv1 c5)]
        have e54 : FX6_tellingLine_34_L54 (F + 2) (nI men) (nI t) (nI (s ||| 2 ^ vv b n v0 j)) 0 (nI (c + 1)) (txGo (kk 1 b n) u (j + 1)) = FX6_tellingLine_34_b117 (nI t) (nI (s ||| 2 ^ vv b n v0 j)) (txGo (kk 1 b n) u (j + 1)) := by
          show FX6_tellingLine_34_b54 _ _ _ _ _ _ _ = _
          unfold FX6_tellingLine_34_b54
          rw [if_pos rfl, ite_self]
        rw [c_takeN hA1 (nkn (hZ.2.2 (j + 1)) (by decide) c5), b2_some, el, e54]
        unfold FX6_tellingLine_34_b117
        by_cases c6 : kk 1 b n (j + 1) = 59
        · have hj1 := hZ.1.2 (j + 1) (by omega) (by omega)
          obtain ⟨w4, m4, f4, -, c4, hT4⟩ := mk_needY k4 hT3 (tY_1_59 c6)
          have hA2 := txGo_A (j := j + 2) hA1 (by omega)
          have H2 := txH_t H1 (txGo_H (kk 1 b n) (txGo (kk 1 b n) u (j + 1)) (j + 2))
          have R2 := txR_t R1 (txGo_R (kk 1 b n) (txGo (kk 1 b n) u (j + 1)) (j + 2))
          rw [c_needY hZ hA1 (nk c6) (by omega), b_some, m4, b2_some, bchk_1, b_some, show j + 1 + 1 = j + 2 by omega]
          generalize (txGo (kk 1 b n) (txGo (kk 1 b n) u (j + 1)) (j + 2)) = ua at hA2 H2 R2
          have ec : (if (ua 34 13) = 0 then ((if nI t < 0 then (FX6_tellingLine_34_b151 ua) else ((if 12 ≤ nI t then (FX6_tellingLine_34_b151 ua) else ((rdA ua 50 12 (nI t)).bind fun x6 => (wrA ua 50 12 (nI t) (x6 ||| nI (s ||| 2 ^ vv b n v0 j))).bind fun u7 => FX6_tellingLine_34_b151 u7))))) else (FX6_tellingLine_34_b151 ua)) = some (mupd (mupd ua 50 t (u 50 t ||| nI (s ||| 2 ^ vv b n v0 j))) 34 11 (u 34 11 + 1)) := by
            rw [if_pos hA2.2.2.2.2.1, if_neg (nI_pos (by omega)), if_neg (n12 (by omega)), rb (by omega) (by omega), wb (by omega) (by omega), H2.1 50 (by decide)]
            unfold FX6_tellingLine_34_b151
            rw [m_ne (show 34 ≠ 50 by decide), H2.2 11 (by decide) (by decide) (by decide) (by decide), b_some]
          rw [ec]
          have uR : txR ua (mupd (mupd ua 50 t (u 50 t ||| nI (s ||| 2 ^ vv b n v0 j))) 34 11 (u 34 11 + 1)) := txR_t (txR_c _ (by omega)) (txR_11 _)
          have o34 : ∀ x, x ≠ 11 → (mupd (mupd ua 50 t (u 50 t ||| nI (s ||| 2 ^ vv b n v0 j))) 34 11 (u 34 11 + 1)) 34 x = ua 34 x := fun x hx => by rw [m_eq, up_ne hx, m_ne (by decide)]
          refine Or.inr ⟨j + 2, s ||| 2 ^ vv b n v0 j, _, w4, by omega, hs', rfl, txR_t R2 uR, ⟨?_, hA2.2.1, by rw [o34 9 (by decide)]; exact hA2.2.2.1, by rw [o34 10 (by decide)]; exact hA2.2.2.2.1, by rw [o34 13 (by decide), o34 14 (by decide)]; exact hA2.2.2.2.2⟩, by rw [m_eq, up_eq], ?_, rfl, myR_t f23 f4, hT4, by rw [c4, e153]⟩
          · unfold txT
            rw [o34 8 (by decide), uR.1 36 (by omega), uR.1 37 (by omega), uR.1 38 (by omega)]
            exact hA2.1
          · rw [m_ne (by decide), m_eq, H2.1 50 (by decide)]
        · obtain ⟨u3, e3, g3, x3⟩ := c_needN hN hA1 (nkn (hZ.2.2 (j + 1)) (by decide) c6)
          obtain ⟨w4, m4, f4, x4⟩ := mk_needN hT3 (tN_1_59 hv1 c6)
          have hD := txX_D x3 (by decide) (by decide)
          rw [e3, b_some, m4, b2_some, bchk_0, b_some, if_neg hD.2]
          unfold FX6_tellingLine_34_b151
          rw [b_some]
          exact Or.inl ⟨1, j + 1, _, w4, by decide, by decide, rfl, txR_t R1 (txR_t (txR_G g3) (txR_11 _)), txX_11 x3 _, rfl, myR_t f23 f4, x4⟩
    · exact absurd ⟨p2, p3⟩ q1
  · have hf4 := pxN_f (kk 1 b n) (vv b n v0) j men t
    rw [p2, dead u1 (txX_D p4 p1 hf4)]
    refine Or.inl ⟨pxN (kk 1 b n) (vv b n v0) j men t, j, mupd u1 34 11 (u1 34 11 + 1), ?_⟩
    by_cases c1 : kk 1 b n j = 1 ∧ w 146 20 = nI t
    · obtain ⟨s1', s2'⟩ := vv_le (v0 := v0) c1.1
      have hvl := vl_le b n (qs b n j)
      have ev : vv b n v0 j = t := by
        have := c1.2
        rw [hT.2.2.2.2, s1', ← s2', nn_eq (by omega) (by omega)] at this
        exact this
      have e2 : pxN (kk 1 b n) (vv b n v0) j men t = 2 := by
        unfold pxN
        rw [if_pos c1.1, if_neg (fun h => h.2 ev)]
      obtain ⟨w4, m4, f4, x4⟩ := mk_bad hT 2
      have m4 : (bnd2 (FX12_bad_146 2 w) fun x u' => (bchk x).bind fun y => some (y, u')) = some (0, w4) := m4
      rw [if_pos c1, m4, b2_some, if_pos rfl]
      exact ⟨w4, p1, hf4, rfl, txR_t (txR_G p3) (txR_11 _), txX_11 p4 _, rfl, f4, by rw [e2]; exact x4⟩
    · rw [if_neg c1]
      rcases m_num k4 (show men ≤ 10000 by omega) hT (p := w 147 78 - 1) (by rw [hm78]) with ⟨q1, q2, -⟩ | ⟨q1, w4, m4, f4, x4⟩
      · exfalso
        apply p1
        obtain ⟨s1', s2'⟩ := vv_le (v0 := v0) q1
        unfold pxN
        rw [if_pos q1, if_pos ⟨q2, fun h => c1 ⟨q1, by rw [hT.2.2.2.2, s1', ← s2', h]⟩⟩]
      · have e2 : pxN (kk 1 b n) (vv b n v0) j men t = (if kk 1 b n j = 1 then 2 else 1) := by
          unfold pxN
          by_cases c2 : kk 1 b n j = 1
          · rw [if_pos c2, if_neg (fun h => q1 ⟨c2, h.1⟩), if_pos c2]
          · rw [if_neg c2, if_neg c2]
        unfold FX12_another_146_b22
        rw [m4, b2_some, if_pos rfl, b2_some, if_pos rfl]
        exact ⟨w4, p1, hf4, rfl, txR_t (txR_G p3) (txR_11 _), txX_11 p4 _, rfl, f4, by rw [e2]; exact x4⟩
theorem tl_step {b : Nat → Nat} {n : Nat} {v0 : Int32} {N : Nat} (hZ : pxZ (kk 1 b n) (vv b n v0) N) {W : Wt} (hW : OkT W) {i L : Nat} {u w : Mem} (hw : w 147 = W) (hA : txA (kk 1 b n) (vv b n v0) (qs b n) N i u) (hT : myT 1 b n v0 i w) (h11 : u 34 11 = nI L) (h15 : w 146 15 = nI L) (hL : L ≤ 16) (h0 : kk 1 b n i ≠ 0) : rowX b n u w (FX6_tellingLine_34 (nI (nmen W)) u) (fun F => FX12_readsRows_146_L7 F 1 w) ∨ ∃ j f x u1 w1, i < j ∧ L < 16 ∧ f < nmen W ∧ x < 2 ^ nmen W ∧ FX6_tellingLine_34 (nI (nmen W)) u = some u1 ∧ txR u u1 ∧ txA (kk 1 b n) (vv b n v0) (qs b n) N j u1 ∧ u1 34 11 = nI (L + 1) ∧ u1 50 = upd (u 50) f (u 50 f ||| nI x) ∧ (∀ F, FX12_readsRows_146_L7 (F + 1) 1 w = FX12_readsRows_146_L7 F 1 w1) ∧ myV w w1 ∧ myT 1 b n v0 j w1 ∧ w1 146 15 = nI (L + 1) ∧ w1 153 (2 * L) = nI f ∧ w1 153 (2 * L + 1) = nI x ∧ ∀ y, y < 2 * L → w1 153 y = w 153 y := by
  have hN := hZ.1.1
  have k4 : 1 < 4 := by decide
  have hv := kk_v 1 b n i
  obtain ⟨hm78, hmen⟩ := OkT_n hW
  have hm78 : w 147 78 = nI (nmen W) := by rw [hw]; exact hm78
  have e0 : ¬ w 146 18 = 0 := by rw [hT.2.2.2.1]; exact tN_1_0 hv h0
  have hi := hZ.1.2 i hA.2.1 h0
  have ar : FX12_aRow_146 w = (bnd2 (FX12_aTelling_146 w) fun x6 u7 => (bchk x6).bind fun x8 => some (x8, u7)) := by
    unfold FX12_aRow_146
    rw [hT.1.2.2, if_pos (by decide)]
  have r0 : ∀ {w1 : Mem}, FX12_aTelling_146 w = some (0, w1) → FX12_aRow_146 w = some (0, w1) := fun h => by rw [ar, h, b2_some, bchk_0, b_some]
  have r1 : ∀ {w1 : Mem}, FX12_aTelling_146 w = some (1, w1) → FX12_aRow_146 w = some (1, w1) := fun h => by rw [ar, h, b2_some, bchk_1, b_some]
  have eb : FX12_begins_146 w = some (if kk 1 b n i = 1 ∧ vv b n v0 i < nmen W then 1 else 0) := by
    unfold FX12_begins_146
    rw [hT.1.2.2, if_pos (by decide), hT.2.2.2.1]
    by_cases c : kk 1 b n i = 1
    · obtain ⟨s1', s2'⟩ := vv_le (v0 := v0) c
      have hvl := vl_le b n (qs b n i)
      rw [if_pos (tY_1_1 c), hT.2.2.2.2, s1', ← s2']
      by_cases c2 : vv b n v0 i < nmen W
      · rw [m_isMan hw hW c2, b_some, if_neg z1, if_pos ⟨c, c2⟩]
      · rw [m_isManN hw hW (fun ⟨m, h1, h2⟩ => c2 (by rw [nn_eq (by omega) (by omega)] at h2; omega)), b_some, if_pos rfl, if_neg (fun h => c2 h.2)]
    · rw [if_neg (tN_1_1 hv c), if_neg (fun h => c h.1)]
  rcases c_num hZ no_bt (show nmen W ≤ 10000 by omega) hA with ⟨p1, p2, p3, p4, p5⟩ | ⟨p1, u1, p2, p3, p4⟩
  · rw [if_pos ⟨p2, p3⟩] at eb
    have hA1 := txGo_A (j := i + 1) hA (by omega)
    have H1 := txGo_H (kk 1 b n) u (i + 1)
    have R1 := txGo_R (kk 1 b n) u (i + 1)
    have g11 : (txGo (kk 1 b n) u (i + 1)) 34 11 = nI L := by rw [H1.2 11 (by decide) (by decide) (by decide) (by decide)]; exact h11
    by_cases cL : L = 16
    · have hA0 := txGo_A (j := i) hA1 (by omega)
      obtain ⟨u2, e2, g2, x2⟩ := c_fail hN hA0 3
      have e2 : FX6_fail_34 3 (txGo (kk 1 b n) (txGo (kk 1 b n) u (i + 1)) i) = some u2 := e2
      refine Or.inl (row_3 hT (u1 := mupd u2 34 11 (u2 34 11 + 1)) ?_ (txR_t R1 (txR_t (txGo_R _ _ _) (txR_t (txR_G g2) (txR_11 _)))) (txX_11 x2 _) e0 (by rw [h15, cL]; decide) eb)
      unfold FX6_tellingLine_34
      rw [p5, b2_some, if_neg (nI_m1 (by omega)), g11, if_pos (show nI L = 16 by rw [cL]; decide), hA.2.2.1, c_go hN hA1.1 hA.2.1, b_some, e2, b_some, d_b38 (txX_D x2 (by decide) (by decide))]
    · have L16 : L < 16 := by omega
      have n16 : w 146 15 ≠ 16 := by rw [h15]; show ¬ nI L = 16; rw [eq_li (by decide) (by omega)]; exact cL
      have ex : FX6_tellingLine_34 (nI (nmen W)) u = FX6_tellingLine_34_b38 (nI (nmen W)) (nI (vv b n v0 i)) (txGo (kk 1 b n) u (i + 1)) := by
        unfold FX6_tellingLine_34
        rw [p5, b2_some, if_neg (nI_m1 (by omega)), g11, if_neg (show ¬ nI L = 16 by rw [eq_li (by decide) (by omega)]; exact cL)]
      rcases m_num k4 (show nmen W ≤ 10000 by omega) hT (p := w 147 78 - 1) (by rw [hm78]) with ⟨q1, q2, w2, m2, f2, n2, c2, hT2⟩ | ⟨q1, -⟩
      · have x15 : w2 146 15 = nI L := by rw [f2.2 15 (by decide)]; exact h15
        have hT3 := myT_3 (myT_3 hT2 (2 * L) (nI (vv b n v0 i))) (2 * L + 1) 0
        have f3 := myR_t (myR_3 w2 (2 * L) (nI (vv b n v0 i))) (myR_3 (mupd w2 153 (2 * L) (nI (vv b n v0 i))) (2 * L + 1) 0)
        have em : FX12_aTelling_146 w = (bnd2 (FX12_need_146 7 (mupd (mupd w2 153 (2 * L) (nI (vv b n v0 i))) 153 (2 * L + 1) 0)) fun x6 u7 => (if x6 = 0 then (some (0, u7)) else (bnd2 (FX12_another_146 (nI (vv b n v0 i)) u7) fun x9 u10 => (if x9 = 0 then (some (0, u10)) else (FX12_aTelling_146_L69 FU (nI (vv b n v0 i)) u10))))) := by
          unfold FX12_aTelling_146
          rw [m2, b2_some, if_neg z1, x15, li_mul, n2, wb (by show 2 * L < 48; omega) (by omega), m_ne (show 146 ≠ 153 by decide), x15, li_mul, nI_1, wb (by show 2 * L + 1 < 48; omega) (by omega)]
        have hv1 := kk_v 1 b n (i + 1)
        rw [ex]
        unfold FX6_tellingLine_34_b38
        by_cases c5 : kk 1 b n (i + 1) = 256
        · have hi1 := hZ.1.2 (i + 1) (by omega) (by omega)
          obtain ⟨w4, m4, f4, -, c4, hT4⟩ := mk_needY k4 hT3 (tY_1_256 c5)
          have hA2 := txGo_A (j := i + 2) hA1 (by omega)
          have H2 := txH_t H1 (txGo_H (kk 1 b n) (txGo (kk 1 b n) u (i + 1)) (i + 2))
          have R2 := txR_t R1 (txGo_R (kk 1 b n) (txGo (kk 1 b n) u (i + 1)) (i + 2))
          have fall := myR_t f2 (myR_t f3 f4)
          rw [c_needY hZ hA1 (nk c5) (by omega), b_some, show i + 1 + 1 = i + 2 by omega]
          rw [m4, b2_some, if_neg z1] at em
          have z0 : nI 0 = 0 := nI_0
          rcases tl_L hZ hmen p3 L16 400 (i + 2) 0 0 FU FU (txGo (kk 1 b n) (txGo (kk 1 b n) u (i + 1)) (i + 2)) w4 (by omega) (by decide) (by decide) (by omega) hA2 hT4 (by rw [fall.1 147 (by decide) (by decide)]; exact hm78) (by rw [fall.2 15 (by decide)]; exact h15) (by rw [c4, m_eq, up_eq]; exact z0.symm) (Nat.two_pow_pos _) with ⟨f, y, u1, w5, k1, k2, k3, k5, k6, k7, k8, k9⟩ | ⟨j', s', u1, w5, k1, k2, k3, k5, k6, k7, k8, k9, k10, k11, k12⟩
          · rw [z0] at k3
            exact Or.inl (row_f (k := 1) k1 k2 k3 (txR_t R2 k5) k6 e0 (Or.inl n16) (r0 (em.trans k7)) (myR_t fall k8) k9)
          · rw [z0] at k3
            refine Or.inr ⟨j', vv b n v0 i, s', u1, mupd w5 146 15 (nI (L + 1)), by omega, L16, p3, k2, k3, txR_t R2 k5, k6, ?_, ?_, fun F => row_y e0 L16 h15 (r1 (em.trans k9)) (myR_t fall k10) F, myV_t (myV_R (myR_t fall k10)) (myV_15 _ _), myT_26 k11 (Or.inr rfl) _, by rw [m_eq, up_eq], ?_, ?_, fun y hy => ?_⟩
            · rw [k7, H2.2 11 (by decide) (by decide) (by decide) (by decide), h11, nI_1]
            · rw [k8, H2.1 50 (by decide)]
            · rw [m_ne (by decide), k12, up_ne (by omega), c4, m_eq, up_ne (by omega), m_eq, up_eq]
            · rw [m_ne (by decide), k12, up_eq]
            · rw [m_ne (by decide), k12, up_ne (by omega), c4, m_eq, up_ne (by omega), m_eq, up_ne (by omega), c2]
        · obtain ⟨u3, e3, g3, x3⟩ := c_needN hN hA1 (nkn (hZ.2.2 (i + 1)) (by decide) c5)
          obtain ⟨w4, m4, f4, x4⟩ := mk_needN hT3 (tN_1_256 hv1 c5)
          have hD := txX_D x3 (by decide) (by decide)
          rw [m4, b2_some, if_pos rfl] at em
          have ed : ((FX6_need_34 256 (txGo (kk 1 b n) u (i + 1))).bind fun u2 => FX6_tellingLine_34_L54 FU (nI (nmen W)) (nI (vv b n v0 i)) 0 1 0 u2) = some (mupd u3 34 11 (u3 34 11 + 1)) := by
            rw [e3, b_some]
            exact d_tl hD _ _ _ _ _ 9998
          exact Or.inl (row_f (k := 1) (by decide) (by decide) ed (txR_t R1 (txR_t (txR_G g3) (txR_11 _))) (txX_11 x3 _) e0 (Or.inl n16) (r0 em) (myR_t f2 (myR_t f3 f4)) x4)
      · exact absurd ⟨p2, p3⟩ q1
  · obtain ⟨v1, v2⟩ := pxN_v (hZ.2.1 i) p1
    rw [if_neg v2] at eb
    rw [v1] at p4
    rcases m_num k4 (show nmen W ≤ 10000 by omega) hT (p := w 147 78 - 1) (by rw [hm78]) with ⟨q1, q2, -⟩ | ⟨-, w2, m2, f2, x2⟩
    · exact absurd ⟨q1, q2⟩ v2
    · have hD := txX_D p4 ft_lt.1 ft_lt.2
      refine Or.inl (row_f (k := 1) (u1 := mupd u1 34 11 (u1 34 11 + 1)) ft_lt.1 ft_lt.2 ?_ (txR_t (txR_G p3) (txR_11 _)) (txX_11 p4 _) e0 (Or.inr eb) (r0 ?_) f2 x2)
      · unfold FX6_tellingLine_34
        rw [p2, b2_some, if_pos rfl, d_b38 hD]
      · unfold FX12_aTelling_146
        rw [m2, b2_some, if_pos rfl]

