/-! ORDERS, row by row -/
theorem or_step {b : Nat → Nat} {n : Nat} {v0 : Int32} {N : Nat} (hZ : pxZ (kk 3 b n) (vv b n v0) N) {i L : Nat} {u w : Mem} (hA : txA (kk 3 b n) (vv b n v0) (qs b n) N i u) (hT : myT 3 b n v0 i w) (h11 : u 34 11 = nI L) (h46 : u 46 3 = nI L) (h15 : w 146 15 = nI L) (hL : L ≤ 16) (h0 : kk 3 b n i ≠ 0) : rowX b n u w (FX6_orderLine_34 u) (fun F => FX12_readsRows_146_L7 F 1 w) ∨ ∃ j dd tt cc u1 w1, i < j ∧ L < 16 ∧ (tt = 11 ∨ tt = 12) ∧ FX6_orderLine_34 u = some u1 ∧ txR u u1 ∧ txA (kk 3 b n) (vv b n v0) (qs b n) N j u1 ∧ u1 34 11 = nI (L + 1) ∧ u1 46 3 = nI (L + 1) ∧ u1 47 = upd (u 47) L dd ∧ u1 48 = upd (u 48) L cc ∧ u1 49 = upd (u 49) L (if tt = 11 then 1 else 0) ∧ (∀ F, FX12_readsRows_146_L7 (F + 1) 1 w = FX12_readsRows_146_L7 F 1 w1) ∧ myV w w1 ∧ myT 3 b n v0 j w1 ∧ w1 146 15 = nI (L + 1) ∧ w1 153 (3 * L) = dd ∧ w1 153 (3 * L + 1) = nI tt ∧ w1 153 (3 * L + 2) = cc ∧ ∀ y, y < 3 * L → w1 153 y = w 153 y := by
  have hN := hZ.1.1
  have k4 : 3 < 4 := by decide
  have hv := kk_v 3 b n i
  have e0 : ¬ w 146 18 = 0 := by rw [hT.2.2.2.1]; exact tN_3_0 hv h0
  have eb : FX12_begins_146 w = some (if kk 3 b n i = 256 then 1 else 0) := by
    unfold FX12_begins_146 FX12_begins_146_b52
    rw [hT.1.2.2, if_neg (by decide), if_neg (by decide), hT.2.2.2.1]
    by_cases c : kk 3 b n i = 256
    · rw [if_pos (tY_3_256 c), if_pos c]
    · rw [if_neg (tN_3_256 hv c), if_neg c]
  have ar : FX12_aRow_146 w = (bnd2 (FX12_anOrder_146 w) fun x6 u7 => (bchk x6).bind fun x8 => some (x8, u7)) := by
    unfold FX12_aRow_146
    rw [hT.1.2.2, if_neg (by decide), if_neg (by decide)]
  have r0 : ∀ {w1 : Mem}, FX12_anOrder_146 w = some (0, w1) → FX12_aRow_146 w = some (0, w1) := fun h => by rw [ar, h, b2_some, bchk_0, b_some]
  have r1 : ∀ {w1 : Mem}, FX12_anOrder_146 w = some (1, w1) → FX12_aRow_146 w = some (1, w1) := fun h => by rw [ar, h, b2_some, bchk_1, b_some]
  -- what is dead stays dead
  have d5 : ∀ (l1 l2 x3 : Int32) (u' : Mem), txD u' → (if (u' 34 13) = 0 then ((FX5_add_46 l1 l2 x3 u').bind fun u9 => FX6_orderLine_34_b79 u9) else (FX6_orderLine_34_b79 u')) = some (mupd u' 34 11 (u' 34 11 + 1)) := fun l1 l2 x3 u' h => by
    rw [if_neg h.2]; rfl
  have d4 : ∀ (l1 l2 x3 : Int32) (u' : Mem), txD u' → ((FX6_need_34 59 u').bind fun u6 => (if (u6 34 13) = 0 then ((FX5_add_46 l1 l2 x3 u6).bind fun u9 => FX6_orderLine_34_b79 u9) else (FX6_orderLine_34_b79 u6))) = some (mupd u' 34 11 (u' 34 11 + 1)) := fun l1 l2 x3 u' h => by
    rw [c_needD h (by decide), b_some, d5 _ _ _ _ h]
  have d3 : ∀ (l1 l2 : Int32) (u' : Mem), txD u' → (bnd2 (FX6_number_34 1 (-1) u') fun x3 u4 => (FX6_need_34 59 u4).bind fun u6 => (if (u6 34 13) = 0 then ((FX5_add_46 l1 l2 x3 u6).bind fun u9 => FX6_orderLine_34_b79 u9) else (FX6_orderLine_34_b79 u6))) = some (mupd u' 34 11 (u' 34 11 + 1)) := fun l1 l2 u' h => by
    rw [d_num h, b2_some, d4 _ _ _ _ h]
  have d2 : ∀ (l1 : Int32) (u' : Mem), txD u' → (if (u' 34 10) = 257 then (FX6_orderLine_34_b31 l1 1 u') else (FX6_orderLine_34_b31 l1 0 u')) = some (mupd u' 34 11 (u' 34 11 + 1)) := fun l1 u' h => by
    rw [h.1, if_neg (by decide)]
    unfold FX6_orderLine_34_b31 FX6_orderLine_34_b46
    rw [if_pos rfl, c_needD h (by decide), b_some, d3 _ _ _ h]
  have d1 : ∀ (u' : Mem), txD u' → (bnd2 (FX6_number_34 999 (-1) u') fun x3 u4 => (if (u4 34 10) = 257 then (FX6_orderLine_34_b31 x3 1 u4) else (FX6_orderLine_34_b31 x3 0 u4))) = some (mupd u' 34 11 (u' 34 11 + 1)) := fun u' h => by
    rw [d_num h, b2_some, d2 _ _ h]
  by_cases c : kk 3 b n i = 256
  · have hi := hZ.1.2 i hA.2.1 h0
    rw [if_pos c] at eb
    by_cases cL : L = 16
    · obtain ⟨u1, e1, g1, x1⟩ := c_fail hN hA 3
      have e1 : FX6_fail_34 3 u = some u1 := e1
      refine Or.inl (row_3 hT (u1 := mupd u1 34 11 (u1 34 11 + 1)) ?_ (txR_t (txR_G g1) (txR_11 _)) (txX_11 x1 _) e0 (by rw [h15, cL]; decide) eb)
      unfold FX6_orderLine_34 FX6_beginLine_34
      rw [hA.2.2.2.1, if_pos (nk c), h11, if_pos (show nI L = 16 by rw [cL]; decide), e1, b_some, b_some, d1 u1 (txX_D x1 (by decide) (by decide))]
    · have L16 : L < 16 := by omega
      have n16 : w 146 15 ≠ 16 := by rw [h15]; show ¬ nI L = 16; rw [eq_li (by decide) (by omega)]; exact cL
      have ex : FX6_orderLine_34 u = (bnd2 (FX6_number_34 999 (-1) (txGo (kk 3 b n) u (i + 1))) fun x3 u4 => (if (u4 34 10) = 257 then (FX6_orderLine_34_b31 x3 1 u4) else (FX6_orderLine_34_b31 x3 0 u4))) := by
        unfold FX6_orderLine_34 FX6_beginLine_34 FX6_beginLine_34_b25
        rw [hA.2.2.2.1, if_pos (nk c), h11, if_neg (show ¬ nI L = 16 by rw [eq_li (by decide) (by omega)]; exact cL), c_needY hZ hA (nk c) (by omega), b_some, b_some]
      obtain ⟨w1, m1, f1, -, c1, hT1⟩ := mk_needY k4 hT (tY_3_256 c)
      have hA1 := txGo_A (j := i + 1) hA (by omega)
      have R1 := txGo_R (kk 3 b n) u (i + 1)
      have H1 := txGo_H (kk 3 b n) u (i + 1)
      rw [ex]
      rcases c_num hZ no_bt (show 1000 ≤ 10000 by decide) hA1 with ⟨p1, p2, p3, p4, p5⟩ | ⟨p1, u2, p2, p3, p4⟩
      · rw [← s999] at p5
        rcases m_num k4 (show 1000 ≤ 10000 by decide) hT1 s999 with ⟨q1, q2, w2, m2, f2, n2, c2, hT2⟩ | ⟨q1, -⟩
        · have hA2 := txGo_A (j := i + 2) hA1 (by omega)
          have x15 : w2 146 15 = nI L := by rw [f2.2 15 (by decide), f1.2 15 (by decide)]; exact h15
          have hT3 := myT_3 hT2 (3 * L) (nI (vv b n v0 (i + 1)))
          have f3 := myR_3 w2 (3 * L) (nI (vv b n v0 (i + 1)))
          have am : ∀ g : Mem → Option (Int32 × Mem), ((wrA w2 153 48 (3 * (w2 146 15)) (w2 146 26)).bind g) = g (mupd w2 153 (3 * L) (nI (vv b n v0 (i + 1)))) := fun g => by
            rw [x15, li_mul, n2, wb (by show 3 * L < 48; omega) (by omega)]
          have hv2 := kk_v 3 b n (i + 2)
          rw [p5, b2_some, show i + 1 + 1 = i + 2 by omega]
          -- a row that goes on
          have go : ∀ (tt cc : Nat) (l2 : Int32), ((tt = 11 ∧ cc = 257 ∧ l2 = 1) ∨ (tt = 12 ∧ cc = 258 ∧ l2 = 0)) → kk 3 b n (i + 2) = cc → nI (mtk 3 (kk 3 b n (i + 2))) = nI tt → ((if (w2 146 18) = 11 then (FX12_anOrder_146_b61 (mupd w2 153 (3 * L) (nI (vv b n v0 (i + 1))))) else ((if (w2 146 18) = 12 then (FX12_anOrder_146_b61 (mupd w2 153 (3 * L) (nI (vv b n v0 (i + 1))))) else (bnd2 (FX12_bad_146 1 (mupd w2 153 (3 * L) (nI (vv b n v0 (i + 1))))) fun x10 u11 => (bchk x10).bind fun x12 => some (x12, u11))))) = FX12_anOrder_146_b61 (mupd w2 153 (3 * L) (nI (vv b n v0 (i + 1))))) → rowX b n u w (FX6_orderLine_34_b46 (nI (vv b n v0 (i + 1))) l2 (nI cc) (txGo (kk 3 b n) (txGo (kk 3 b n) u (i + 1)) (i + 2))) (fun F => FX12_readsRows_146_L7 F 1 w) ∨ ∃ j dd tt cc u1 w1, i < j ∧ L < 16 ∧ (tt = 11 ∨ tt = 12) ∧ FX6_orderLine_34_b46 (nI (vv b n v0 (i + 1))) l2 (nI (kk 3 b n (i + 2))) (txGo (kk 3 b n) (txGo (kk 3 b n) u (i + 1)) (i + 2)) = some u1 ∧ txR u u1 ∧ txA (kk 3 b n) (vv b n v0) (qs b n) N j u1 ∧ u1 34 11 = nI (L + 1) ∧ u1 46 3 = nI (L + 1) ∧ u1 47 = upd (u 47) L dd ∧ u1 48 = upd (u 48) L cc ∧ u1 49 = upd (u 49) L (if tt = 11 then 1 else 0) ∧ (∀ F, FX12_readsRows_146_L7 (F + 1) 1 w = FX12_readsRows_146_L7 F 1 w1) ∧ myV w w1 ∧ myT 3 b n v0 j w1 ∧ w1 146 15 = nI (L + 1) ∧ w1 153 (3 * L) = dd ∧ w1 153 (3 * L + 1) = nI tt ∧ w1 153 (3 * L + 2) = cc ∧ ∀ y, y < 3 * L → w1 153 y = w 153 y := by
            intro tt cc l2 htc hcc htk hsel
            have hk2 : kk 3 b n (i + 2) ≠ 0 := by omega
            have hi2 := hZ.1.2 (i + 2) (by omega) hk2
            have hT3' := myT_3 hT3 (3 * L + 1) (nI tt)
            have f3' := myR_3 (mupd w2 153 (3 * L) (nI (vv b n v0 (i + 1)))) (3 * L + 1) (nI tt)
            obtain ⟨w4, m4, f4, -, c4, hT4⟩ := mk_nx k4 hT3'
            have e61 : FX12_anOrder_146_b61 (mupd w2 153 (3 * L) (nI (vv b n v0 (i + 1)))) = (bnd2 (FX12_number_146 0 1 w4) fun x4 u5 => (if x4 = 0 then (some (0, u5)) else ((wrA u5 153 48 ((3 * (u5 146 15)) + 2) (u5 146 26)).bind fun u7 => bnd2 (FX12_need_146 159 u7) fun x8 u9 => (bchk x8).bind fun x10 => some (x10, u9)))) := by
              unfold FX12_anOrder_146_b61
              rw [m_ne (show 146 ≠ 153 by decide), x15, li_mul, nI_1, hT2.2.2.2.1, htk, wb (by show 3 * L + 1 < 48; omega) (by omega)]
              have m4 : FX12_next0_146 (mupd (mupd w2 153 (3 * L) (nI (vv b n v0 (i + 1)))) 153 (OfNat.ofNat 3 * L + 1) (nI tt)) = some w4 := m4
              rw [m4, b_some]
            have hA3 := txGo_A (j := i + 3) hA2 (by omega)
            unfold FX6_orderLine_34_b46
            rw [hcc, c_needY hZ hA2 (show nI (kk 3 b n (i + 2)) = nI cc by rw [hcc]) hk2, b_some, show i + 2 + 1 = i + 3 by omega]
            rcases c_num hZ no_bt (show 2 ≤ 10000 by decide) hA3 with ⟨z1', z2, z3, z4, z5⟩ | ⟨z1', u4, z2, z3, z4⟩
            · rw [← s1] at z5
              rcases m_num k4 (show 2 ≤ 10000 by decide) hT4 s1 with ⟨y1, y2, w5, m5, f5, n5, c5', hT5⟩ | ⟨y1, -⟩
              · have hA4 := txGo_A (j := i + 4) hA3 (by omega)
                have y15 : w5 146 15 = nI L := by rw [f5.2 15 (by decide), f4.2 15 (by decide), m_ne (by decide), m_ne (by decide)]; exact x15
                have hT6 := myT_3 hT5 (3 * L + 2) (nI (vv b n v0 (i + 3)))
                have f6 := myR_3 w5 (3 * L + 2) (nI (vv b n v0 (i + 3)))
                have am2 : ∀ g : Mem → Option (Int32 × Mem), ((wrA w5 153 48 ((3 * (w5 146 15)) + 2) (w5 146 26)).bind g) = g (mupd w5 153 (3 * L + 2) (nI (vv b n v0 (i + 3)))) := fun g => by
                  rw [y15, li_mul, n5, add_li, wb (by show 3 * L + 2 < 48; omega) (by omega)]
                have wrow : ∀ {x : Int32} {w7 : Mem}, FX12_need_146 159 (mupd w5 153 (3 * L + 2) (nI (vv b n v0 (i + 3)))) = some (x, w7) → x = 0 ∨ x = 1 → FX12_anOrder_146 w = some (x, w7) := fun {x w7} h hx => by
                  unfold FX12_anOrder_146
                  rw [m1, b2_some, if_neg z1, m2, b2_some, if_neg z1, am, m_ne (show 146 ≠ 153 by decide), hsel, e61, m5, b2_some, if_neg z1, am2, h, b2_some, bnd2_bchk hx]
                have fall := myR_t f1 (myR_t f2 (myR_t f3 (myR_t f3' (myR_t f4 (myR_t f5 f6)))))
                rw [z5, b2_some, show i + 3 + 1 = i + 4 by omega]
                have gall : txR u (txGo (kk 3 b n) (txGo (kk 3 b n) (txGo (kk 3 b n) (txGo (kk 3 b n) u (i + 1)) (i + 2)) (i + 3)) (i + 4)) := txR_t R1 (txR_t (txGo_R _ _ _) (txR_t (txGo_R _ _ _) (txGo_R _ _ _)))
                have hall : txH u (txGo (kk 3 b n) (txGo (kk 3 b n) (txGo (kk 3 b n) (txGo (kk 3 b n) u (i + 1)) (i + 2)) (i + 3)) (i + 4)) := txH_t H1 (txH_t (txGo_H _ _ _) (txH_t (txGo_H _ _ _) (txGo_H _ _ _)))
                generalize (txGo (kk 3 b n) (txGo (kk 3 b n) (txGo (kk 3 b n) (txGo (kk 3 b n) u (i + 1)) (i + 2)) (i + 3)) (i + 4)) = ua at hA4 gall hall
                by_cases c6 : kk 3 b n (i + 4) = 59
                · have hi4 := hZ.1.2 (i + 4) (by omega) (by omega)
                  obtain ⟨w7, m7, f7, -, c7, hT7⟩ := mk_needY k4 hT6 (tY_3_59 c6)
                  have hA5 := txGo_A (j := i + 5) hA4 (by omega)
                  have hb := txH_t hall (txGo_H (kk 3 b n) ua (i + 5))
                  have gb := txR_t gall (txGo_R (kk 3 b n) ua (i + 5))
                  have h46b : (txGo (kk 3 b n) ua (i + 5)) 46 3 = nI L := by rw [hb.1 46 (by decide)]; exact h46
                  have hl2 : (if tt = 11 then (1 : Int32) else 0) = l2 := by
                    rcases htc with ⟨rfl, -, rfl⟩ | ⟨rfl, -, rfl⟩ <;> rfl
                  have ea : FX5_add_46 (nI (vv b n v0 (i + 1))) l2 (nI (vv b n v0 (i + 3))) (txGo (kk 3 b n) ua (i + 5)) = some (mupd (mupd (mupd (mupd (txGo (kk 3 b n) ua (i + 5)) 47 L (nI (vv b n v0 (i + 1)))) 49 L l2) 48 L (nI (vv b n v0 (i + 3)))) 46 3 (nI (L + 1))) := by
                    unfold FX5_add_46 FX5_add_46_b43
                    rw [h46b, if_neg (nI_pos (by omega)), if_neg (l16 L16), wb (by omega) (by omega), m_ne (show 46 ≠ 47 by decide), h46b]
                    have two : ∀ x : Int32, ((wrA (mupd (txGo (kk 3 b n) ua (i + 5)) 47 L (nI (vv b n v0 (i + 1)))) 49 16 (nI L) x).bind fun u1 => (wrA u1 48 16 (u1 46 3) (nI (vv b n v0 (i + 3)))).bind fun u2 => (some (mupd u2 46 3 ((u2 46 3) + 1))).bind fun u3 => some u3) = some (mupd (mupd (mupd (mupd (txGo (kk 3 b n) ua (i + 5)) 47 L (nI (vv b n v0 (i + 1)))) 49 L x) 48 L (nI (vv b n v0 (i + 3)))) 46 3 (nI (L + 1))) := fun x => by
                      rw [wb (by omega) (by omega), m_ne (show 46 ≠ 49 by decide), m_ne (show 46 ≠ 47 by decide), h46b, wb (by omega) (by omega), m_ne (show 46 ≠ 48 by decide), m_ne (show 46 ≠ 49 by decide), m_ne (show 46 ≠ 47 by decide), h46b, nI_1, b_some]
                    rcases htc with ⟨-, -, rfl⟩ | ⟨-, -, rfl⟩
                    · rw [if_neg z1]; exact two 1
                    · rw [if_pos rfl]; exact two 0
                  have ec : ((FX6_need_34 59 ua).bind fun u6 => (if (u6 34 13) = 0 then ((FX5_add_46 (nI (vv b n v0 (i + 1))) l2 (nI (vv b n v0 (i + 3))) u6).bind fun u9 => FX6_orderLine_34_b79 u9) else (FX6_orderLine_34_b79 u6))) = some (mupd (mupd (mupd (mupd (mupd (txGo (kk 3 b n) ua (i + 5)) 47 L (nI (vv b n v0 (i + 1)))) 49 L l2) 48 L (nI (vv b n v0 (i + 3)))) 46 3 (nI (L + 1))) 34 11 (nI (L + 1))) := by
                    rw [c_needY hZ hA4 (nk c6) (by omega), b_some, show i + 4 + 1 = i + 5 by omega, if_pos hA5.2.2.2.2.1, ea, b_some]
                    unfold FX6_orderLine_34_b79
                    rw [m_ne (show 34 ≠ 46 by decide), m_ne (show 34 ≠ 48 by decide), m_ne (show 34 ≠ 49 by decide), m_ne (show 34 ≠ 47 by decide), hb.2 11 (by decide) (by decide) (by decide) (by decide), h11, nI_1, b_some]
                  have uR : txR (txGo (kk 3 b n) ua (i + 5)) (mupd (mupd (mupd (mupd (mupd (txGo (kk 3 b n) ua (i + 5)) 47 L (nI (vv b n v0 (i + 1)))) 49 L l2) 48 L (nI (vv b n v0 (i + 3)))) 46 3 (nI (L + 1))) 34 11 (nI (L + 1))) := txR_t (txR_c _ (by omega)) (txR_t (txR_c _ (by omega)) (txR_t (txR_c _ (by omega)) (txR_t (txR_c _ (by omega)) (txR_11 _))))
                  refine Or.inr ⟨i + 5, nI (vv b n v0 (i + 1)), tt, nI (vv b n v0 (i + 3)), _, mupd w7 146 15 (nI (L + 1)), by omega, L16, by omega, ec, txR_t gb uR, ?_, by rw [m_eq, up_eq], by rw [m_ne (by decide), m_eq, up_eq], ?_, ?_, ?_, fun F => row_y e0 L16 h15 (r1 (wrow m7 (Or.inr rfl))) (myR_t fall f7) F, myV_t (myV_R (myR_t fall f7)) (myV_15 _ _), myT_26 hT7 (Or.inr rfl) _, by rw [m_eq, up_eq], ?_, ?_, ?_, fun y hy => ?_⟩
                  · have o34 : ∀ x, x ≠ 11 → (mupd (mupd (mupd (mupd (mupd (txGo (kk 3 b n) ua (i + 5)) 47 L (nI (vv b n v0 (i + 1)))) 49 L l2) 48 L (nI (vv b n v0 (i + 3)))) 46 3 (nI (L + 1))) 34 11 (nI (L + 1))) 34 x = (txGo (kk 3 b n) ua (i + 5)) 34 x := fun x hx => by rw [m_eq, up_ne hx, m_ne (by decide), m_ne (by decide), m_ne (by decide), m_ne (by decide)]
                    refine ⟨?_, hA5.2.1, by rw [o34 9 (by decide)]; exact hA5.2.2.1, by rw [o34 10 (by decide)]; exact hA5.2.2.2.1, by rw [o34 13 (by decide), o34 14 (by decide)]; exact hA5.2.2.2.2⟩
                    unfold txT
                    rw [o34 8 (by decide), uR.1 36 (by omega), uR.1 37 (by omega), uR.1 38 (by omega)]
                    exact hA5.1
                  · rw [m_ne (by decide), m_ne (by decide), m_ne (by decide), m_ne (by decide), m_eq, hb.1 47 (by decide)]
                  · rw [m_ne (by decide), m_ne (by decide), m_eq, m_ne (by decide), m_ne (by decide), hb.1 48 (by decide)]
                  · rw [m_ne (by decide), m_ne (by decide), m_ne (by decide), m_eq, m_ne (by decide), hb.1 49 (by decide), hl2]
                  · rw [m_ne (by decide), c7, m_eq, up_ne (by omega), c5', c4, m_eq, up_ne (by omega), m_eq, up_eq]
                  · rw [m_ne (by decide), c7, m_eq, up_ne (by omega), c5', c4, m_eq, up_eq]
                  · rw [m_ne (by decide), c7, m_eq, up_eq]
                  · rw [m_ne (by decide), c7, m_eq, up_ne (by omega), c5', c4, m_eq, up_ne (by omega), m_eq, up_ne (by omega), c2, c1]
                · obtain ⟨u5, e5, g5, x5⟩ := c_needN hN hA4 (nkn (hZ.2.2 (i + 4)) (by decide) c6)
                  obtain ⟨w7, m7, f7, x7⟩ := mk_needN hT6 (tN_3_59 (kk_v 3 b n (i + 4)) c6)
                  have ec : ((FX6_need_34 59 ua).bind fun u6 => (if (u6 34 13) = 0 then ((FX5_add_46 (nI (vv b n v0 (i + 1))) l2 (nI (vv b n v0 (i + 3))) u6).bind fun u9 => FX6_orderLine_34_b79 u9) else (FX6_orderLine_34_b79 u6))) = some (mupd u5 34 11 (u5 34 11 + 1)) := by
                    rw [e5, b_some, d5 _ _ _ u5 (txX_D x5 (by decide) (by decide))]
                  exact Or.inl (row_f (k := 3) (by decide) (by decide) ec (txR_t gall (txR_t (txR_G g5) (txR_11 _))) (txX_11 x5 _) e0 (Or.inl n16) (r0 (wrow m7 (Or.inl rfl))) (myR_t fall f7) x7)
              · exact absurd ⟨z2, z3⟩ y1
            · obtain ⟨v1, v2⟩ := pxN_v (hZ.2.1 (i + 3)) z1'
              rw [← s1] at z2
              rcases m_num k4 (show 2 ≤ 10000 by decide) hT4 s1 with ⟨y1, y2, -⟩ | ⟨-, w5, m5, f5, x5⟩
              · exact absurd ⟨y1, y2⟩ v2
              · rw [v1] at z4
                have ec : (bnd2 (FX6_number_34 1 (-1) (txGo (kk 3 b n) (txGo (kk 3 b n) (txGo (kk 3 b n) u (i + 1)) (i + 2)) (i + 3))) fun x3 u4 => (FX6_need_34 59 u4).bind fun u6 => (if (u6 34 13) = 0 then ((FX5_add_46 (nI (vv b n v0 (i + 1))) l2 x3 u6).bind fun u9 => FX6_orderLine_34_b79 u9) else (FX6_orderLine_34_b79 u6))) = some (mupd u4 34 11 (u4 34 11 + 1)) := by
                  rw [z2, b2_some, d4 _ _ _ u4 (txX_D z4 ft_lt.1 ft_lt.2)]
                refine Or.inl (row_f (k := 3) ft_lt.1 ft_lt.2 ec (txR_t R1 (txR_t (txGo_R _ _ _) (txR_t (txGo_R _ _ _) (txR_t (txR_G z3) (txR_11 _))))) (txX_11 z4 _) e0 (Or.inl n16) (r0 ?_) (myR_t f1 (myR_t f2 (myR_t f3 (myR_t f3' (myR_t f4 f5))))) x5)
                unfold FX12_anOrder_146
                rw [m1, b2_some, if_neg z1, m2, b2_some, if_neg z1, am, m_ne (show 146 ≠ 153 by decide), hsel, e61, m5, b2_some, if_pos rfl]
          rw [hA2.2.2.2.1]
          by_cases c5 : kk 3 b n (i + 2) = 257
          · rw [if_pos (nk c5)]
            unfold FX6_orderLine_34_b31
            rw [if_neg z1]
            have h := go 11 257 1 (Or.inl ⟨rfl, rfl, rfl⟩) c5 (tY_3_257 c5) (by rw [if_pos (by rw [hT2.2.2.2.1]; exact tY_3_257 c5)])
            rw [c5] at h
            exact h
          · rw [if_neg (nkn (hZ.2.2 (i + 2)) (by decide) c5)]
            unfold FX6_orderLine_34_b31
            rw [if_pos rfl]
            by_cases c5b : kk 3 b n (i + 2) = 258
            · have h := go 12 258 0 (Or.inr ⟨rfl, rfl, rfl⟩) c5b (tY_3_258 c5b) (by rw [if_neg (by rw [hT2.2.2.2.1]; exact tN_3_257 hv2 c5), if_pos (by rw [hT2.2.2.2.1]; exact tY_3_258 c5b)])
              rw [c5b] at h
              exact h
            · obtain ⟨u3, e3, g3, x3⟩ := c_needN hN hA2 (nkn (hZ.2.2 (i + 2)) (by decide) c5b)
              obtain ⟨w4, m4, f4, x4⟩ := mk_bad hT3 1
              have m4 : (bnd2 (FX12_bad_146 1 (mupd w2 153 (3 * L) (nI (vv b n v0 (i + 1))))) fun x u' => (bchk x).bind fun y => some (y, u')) = some (0, w4) := m4
              unfold FX6_orderLine_34_b46
              rw [e3, b_some, d3 _ _ u3 (txX_D x3 (by decide) (by decide))]
              refine Or.inl (row_f (k := 3) (by decide) (by decide) rfl (txR_t R1 (txR_t (txGo_R _ _ _) (txR_t (txR_G g3) (txR_11 _)))) (txX_11 x3 _) e0 (Or.inl n16) (r0 ?_) (myR_t f1 (myR_t f2 (myR_t f3 f4))) x4)
              unfold FX12_anOrder_146
              rw [m1, b2_some, if_neg z1, m2, b2_some, if_neg z1, am, hT3.2.2.2.1, if_neg (tN_3_257 hv2 c5), if_neg (tN_3_258 hv2 c5b), m4]
        · exact absurd ⟨p2, p3⟩ q1
      · obtain ⟨v1, v2⟩ := pxN_v (hZ.2.1 (i + 1)) p1
        rw [← s999] at p2
        rcases m_num k4 (show 1000 ≤ 10000 by decide) hT1 s999 with ⟨y1, y2, -⟩ | ⟨-, w2, m2, f2, x2⟩
        · exact absurd ⟨y1, y2⟩ v2
        · rw [v1] at p4
          rw [p2, b2_some, d2 _ u2 (txX_D p4 ft_lt.1 ft_lt.2)]
          refine Or.inl (row_f (k := 3) ft_lt.1 ft_lt.2 rfl (txR_t R1 (txR_t (txR_G p3) (txR_11 _))) (txX_11 p4 _) e0 (Or.inl n16) (r0 ?_) (myR_t f1 f2) x2)
          unfold FX12_anOrder_146
          rw [m1, b2_some, if_neg z1, m2, b2_some, if_pos rfl]
  · rw [if_neg c] at eb
    obtain ⟨u1, e1, g1, x1⟩ := c_needN hN hA (nkn (hZ.2.2 i) (by decide) c)
    obtain ⟨w1, m1, f1, y1⟩ := mk_needN hT (tN_3_256 hv c)
    refine Or.inl (row_f (k := 3) (u1 := mupd u1 34 11 (u1 34 11 + 1)) (by decide) (by decide) ?_ (txR_t (txR_G g1) (txR_11 _)) (txX_11 x1 _) e0 (Or.inr eb) (r0 ?_) f1 y1)
    · unfold FX6_orderLine_34 FX6_beginLine_34 FX6_beginLine_34_b25
      rw [hA.2.2.2.1, if_neg (nkn (hZ.2.2 i) (by decide) c), e1, b_some, b_some, d1 u1 (txX_D x1 (by decide) (by decide))]
    · unfold FX12_anOrder_146
      rw [m1, b2_some, if_pos rfl]

