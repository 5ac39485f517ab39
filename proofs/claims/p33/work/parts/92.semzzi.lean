/-! WEIGHTS and ORDERS, row by row -/
theorem txR_G {u u' : Mem} (h : txG u u') : txR u u' := ⟨fun c a => h.1 c (by omega) (by omega) (by omega), fun x a b _ c d => h.2.1 x a b c d⟩
theorem txX_11 {Q : Nat → Nat} {f x : Nat} {u : Mem} (h : txX Q f x u) (y : Int32) : txX Q f x (mupd u 34 11 y) := ⟨by rw [m_eq, up_ne (by decide)]; exact h.1, by rw [m_eq, up_ne (by decide)]; exact h.2.1, by rw [m_eq, up_ne (by decide)]; exact h.2.2⟩
theorem pxN_v {K V : Nat → Nat} {j m : Nat} (hV : K j = 1 → V j ≤ 9999) (h : pxN K V j m 100000 ≠ 0) : pxN K V j m 100000 = (if K j = 1 then 2 else 1) ∧ ¬ (K j = 1 ∧ V j < m) := by
  unfold pxN at h ⊢
  by_cases c : K j = 1
  · have := hV c
    rw [if_pos c] at h ⊢
    by_cases c2 : V j < m ∧ ¬ V j = 100000
    · rw [if_pos c2] at h; exact absurd rfl h
    · rw [if_neg c2, if_pos c]; exact ⟨rfl, fun h => c2 ⟨h.2, by omega⟩⟩
  · rw [if_neg c, if_neg c]; exact ⟨rfl, fun h => c h.1⟩
theorem ft_lt {K : Nat → Nat} {j : Nat} : (if K j = 1 then 2 else 1) ≠ 0 ∧ (if K j = 1 then 2 else 1) < 4 := by split <;> exact ⟨by decide, by decide⟩
def myV (u0 u : Mem) : Prop := (∀ c, c ≠ 146 → c ≠ 153 → u c = u0 c) ∧ ∀ j, j < 15 ∨ j = 16 ∨ j = 23 ∨ j = 24 ∨ j = 25 → u 146 j = u0 146 j
theorem myV_r (u : Mem) : myV u u := ⟨fun _ _ _ => rfl, fun _ _ => rfl⟩
theorem myV_t {u u1 u2 : Mem} (h : myV u u1) (h' : myV u1 u2) : myV u u2 := ⟨fun c a b => (h'.1 c a b).trans (h.1 c a b), fun j a => (h'.2 j a).trans (h.2 j a)⟩
theorem myV_R {u u' : Mem} (h : myR u u') : myV u u' := ⟨h.1, fun j a => h.2 j (by omega)⟩
theorem myV_15 (u : Mem) (x : Int32) : myV u (mupd u 146 15 x) := ⟨fun c a _ => m_ne a, fun j a => by rw [m_eq, up_ne (by omega)]⟩
theorem s7 : (7 : Int32) = nI 8 - 1 := by decide
theorem s99 : (99 : Int32) = nI 100 - 1 := by decide
theorem s999 : (999 : Int32) = nI 1000 - 1 := by decide
theorem s1 : (1 : Int32) = nI 2 - 1 := by decide
theorem wt_step {b : Nat → Nat} {n : Nat} {v0 : Int32} {N : Nat} (hZ : pxZ (kk 2 b n) (vv b n v0) N) {i L : Nat} {u w : Mem} (hA : txA (kk 2 b n) (vv b n v0) (qs b n) N i u) (hT : myT 2 b n v0 i w) (h11 : u 34 11 = nI L) (h15 : w 146 15 = nI L) (hL : L ≤ 16) (h0 : kk 2 b n i ≠ 0) : rowX b n u w (FX6_weightLine_34 u) (fun F => FX12_readsRows_146_L7 F 1 w) ∨ ∃ j f x u1 w1, i < j ∧ L < 16 ∧ f < 8 ∧ x ≤ 99 ∧ FX6_weightLine_34 u = some u1 ∧ txR u u1 ∧ txA (kk 2 b n) (vv b n v0) (qs b n) N j u1 ∧ u1 34 11 = nI (L + 1) ∧ u1 51 = upd (u 51) f (nI x) ∧ (∀ F, FX12_readsRows_146_L7 (F + 1) 1 w = FX12_readsRows_146_L7 F 1 w1) ∧ myV w w1 ∧ myT 2 b n v0 j w1 ∧ w1 146 15 = nI (L + 1) ∧ w1 153 (2 * L) = nI f ∧ w1 153 (2 * L + 1) = nI x ∧ ∀ y, y < 2 * L → w1 153 y = w 153 y := by
  have hN := hZ.1.1
  have k4 : 2 < 4 := by decide
  have hv := kk_v 2 b n i
  have e0 : ¬ w 146 18 = 0 := by rw [hT.2.2.2.1]; exact tN_2_0 hv h0
  have eb : FX12_begins_146 w = some (if kk 2 b n i = 256 then 1 else 0) := by
    unfold FX12_begins_146 FX12_begins_146_b52
    rw [hT.1.2.2, if_neg (by decide), if_pos (by decide), hT.2.2.2.1]
    by_cases c : kk 2 b n i = 256
    · rw [if_pos (tY_2_256 c), if_pos c]
    · rw [if_neg (tN_2_256 hv c), if_neg c]
  have ar : FX12_aRow_146 w = (bnd2 (FX12_aWeight_146 w) fun x6 u7 => (bchk x6).bind fun x8 => some (x8, u7)) := by
    unfold FX12_aRow_146
    rw [hT.1.2.2, if_neg (by decide), if_pos (by decide)]
  have r0 : ∀ {w1 : Mem}, FX12_aWeight_146 w = some (0, w1) → FX12_aRow_146 w = some (0, w1) := fun h => by rw [ar, h, b2_some, bchk_0, b_some]
  have r1 : ∀ {w1 : Mem}, FX12_aWeight_146 w = some (1, w1) → FX12_aRow_146 w = some (1, w1) := fun h => by rw [ar, h, b2_some, bchk_1, b_some]
  -- what is dead stays dead
  have d5 : ∀ (x3 x7 : Int32) (u' : Mem), txD u' → (if (u' 34 13) = 0 then ((FX11_isFact x3).bind fun x12 => (if x12 = 0 then (FX6_weightLine_34_b57 u') else ((wrA u' 51 8 x3 x7).bind fun u14 => FX6_weightLine_34_b57 u14))) else (FX6_weightLine_34_b57 u')) = some (mupd u' 34 11 (u' 34 11 + 1)) := fun x3 x7 u' h => by
    rw [if_neg h.2]; rfl
  have d4 : ∀ (x3 x7 : Int32) (u' : Mem), txD u' → ((FX6_need_34 59 u').bind fun u10 => (if (u10 34 13) = 0 then ((FX11_isFact x3).bind fun x12 => (if x12 = 0 then (FX6_weightLine_34_b57 u10) else ((wrA u10 51 8 x3 x7).bind fun u14 => FX6_weightLine_34_b57 u14))) else (FX6_weightLine_34_b57 u10))) = some (mupd u' 34 11 (u' 34 11 + 1)) := fun x3 x7 u' h => by
    rw [c_needD h (by decide), b_some, d5 _ _ _ h]
  have d3 : ∀ (x3 : Int32) (u' : Mem), txD u' → (bnd2 (FX6_number_34 99 (-1) u') fun x7 u8 => (FX6_need_34 59 u8).bind fun u10 => (if (u10 34 13) = 0 then ((FX11_isFact x3).bind fun x12 => (if x12 = 0 then (FX6_weightLine_34_b57 u10) else ((wrA u10 51 8 x3 x7).bind fun u14 => FX6_weightLine_34_b57 u14))) else (FX6_weightLine_34_b57 u10))) = some (mupd u' 34 11 (u' 34 11 + 1)) := fun x3 u' h => by
    rw [d_num h, b2_some, d4 _ _ _ h]
  have d2 : ∀ (x3 : Int32) (u' : Mem), txD u' → ((FX6_need_34 257 u').bind fun u6 => bnd2 (FX6_number_34 99 (-1) u6) fun x7 u8 => (FX6_need_34 59 u8).bind fun u10 => (if (u10 34 13) = 0 then ((FX11_isFact x3).bind fun x12 => (if x12 = 0 then (FX6_weightLine_34_b57 u10) else ((wrA u10 51 8 x3 x7).bind fun u14 => FX6_weightLine_34_b57 u14))) else (FX6_weightLine_34_b57 u10))) = some (mupd u' 34 11 (u' 34 11 + 1)) := fun x3 u' h => by
    rw [c_needD h (by decide), b_some, d3 _ _ h]
  have d1 : ∀ (u' : Mem), txD u' → (bnd2 (FX6_number_34 7 (-1) u') fun x3 u4 => (FX6_need_34 257 u4).bind fun u6 => bnd2 (FX6_number_34 99 (-1) u6) fun x7 u8 => (FX6_need_34 59 u8).bind fun u10 => (if (u10 34 13) = 0 then ((FX11_isFact x3).bind fun x12 => (if x12 = 0 then (FX6_weightLine_34_b57 u10) else ((wrA u10 51 8 x3 x7).bind fun u14 => FX6_weightLine_34_b57 u14))) else (FX6_weightLine_34_b57 u10))) = some (mupd u' 34 11 (u' 34 11 + 1)) := fun u' h => by
    rw [d_num h, b2_some, d2 _ _ h]
  by_cases c : kk 2 b n i = 256
  · have hi := hZ.1.2 i hA.2.1 h0
    rw [if_pos c] at eb
    by_cases cL : L = 16
    · obtain ⟨u1, e1, g1, x1⟩ := c_fail hN hA 3
      have e1 : FX6_fail_34 3 u = some u1 := e1
      refine Or.inl (row_3 hT (u1 := mupd u1 34 11 (u1 34 11 + 1)) ?_ (txR_t (txR_G g1) (txR_11 _)) (txX_11 x1 _) e0 (by rw [h15, cL]; decide) eb)
      unfold FX6_weightLine_34 FX6_beginLine_34
      rw [hA.2.2.2.1, if_pos (nk c), h11, if_pos (show nI L = 16 by rw [cL]; decide), e1, b_some, b_some, d1 u1 (txX_D x1 (by decide) (by decide))]
    · have L16 : L < 16 := by omega
      have n16 : w 146 15 ≠ 16 := by rw [h15]; show ¬ nI L = 16; rw [eq_li (by decide) (by omega)]; exact cL
      have ex : FX6_weightLine_34 u = (bnd2 (FX6_number_34 7 (-1) (txGo (kk 2 b n) u (i + 1))) fun x3 u4 => (FX6_need_34 257 u4).bind fun u6 => bnd2 (FX6_number_34 99 (-1) u6) fun x7 u8 => (FX6_need_34 59 u8).bind fun u10 => (if (u10 34 13) = 0 then ((FX11_isFact x3).bind fun x12 => (if x12 = 0 then (FX6_weightLine_34_b57 u10) else ((wrA u10 51 8 x3 x7).bind fun u14 => FX6_weightLine_34_b57 u14))) else (FX6_weightLine_34_b57 u10))) := by
        unfold FX6_weightLine_34 FX6_beginLine_34 FX6_beginLine_34_b25
        rw [hA.2.2.2.1, if_pos (nk c), h11, if_neg (show ¬ nI L = 16 by rw [eq_li (by decide) (by omega)]; exact cL), c_needY hZ hA (nk c) (by omega), b_some, b_some]
      obtain ⟨w1, m1, f1, -, c1, hT1⟩ := mk_needY k4 hT (tY_2_256 c)
      have hA1 := txGo_A (j := i + 1) hA (by omega)
      have R1 := txGo_R (kk 2 b n) u (i + 1)
      have H1 := txGo_H (kk 2 b n) u (i + 1)
      rw [ex]
      rcases c_num hZ no_bt (show 8 ≤ 10000 by decide) hA1 with ⟨p1, p2, p3, p4, p5⟩ | ⟨p1, u2, p2, p3, p4⟩
      · rw [← s7] at p5
        rcases m_num k4 (show 8 ≤ 10000 by decide) hT1 s7 with ⟨q1, q2, w2, m2, f2, n2, c2, hT2⟩ | ⟨q1, -⟩
        · have hA2 := txGo_A (j := i + 2) hA1 (by omega)
          have x15 : w2 146 15 = nI L := by rw [f2.2 15 (by decide), f1.2 15 (by decide)]; exact h15
          have hT3 := myT_3 hT2 (2 * L) (nI (vv b n v0 (i + 1)))
          have f3 := myR_3 w2 (2 * L) (nI (vv b n v0 (i + 1)))
          have am : ∀ g : Mem → Option (Int32 × Mem), ((wrA w2 153 48 (2 * (w2 146 15)) (w2 146 26)).bind g) = g (mupd w2 153 (2 * L) (nI (vv b n v0 (i + 1)))) := fun g => by
            rw [x15, li_mul, n2, wb (by show 2 * L < 48; omega) (by omega)]
          rw [p5, b2_some]
          by_cases c5 : kk 2 b n (i + 2) = 257
          · have hi2 := hZ.1.2 (i + 2) (by omega) (by omega)
            have hv2 := kk_v 2 b n (i + 2)
            obtain ⟨w4, m4, f4, -, c4, hT4⟩ := mk_needY k4 hT3 (tY_2_257 c5)
            have hA3 := txGo_A (j := i + 3) hA2 (by omega)
            rw [show i + 1 + 1 = i + 2 by omega, c_needY hZ hA2 (nk c5) (by omega), b_some]
            rw [show i + 2 + 1 = i + 3 by omega]
            rcases c_num hZ no_bt (show 100 ≤ 10000 by decide) hA3 with ⟨z1', z2, z3, z4, z5⟩ | ⟨z1', u4, z2, z3, z4⟩
            · rw [← s99] at z5
              rcases m_num k4 (show 100 ≤ 10000 by decide) hT4 s99 with ⟨y1, y2, w5, m5, f5, n5, c5', hT5⟩ | ⟨y1, -⟩
              · have hA4 := txGo_A (j := i + 4) hA3 (by omega)
                have y15 : w5 146 15 = nI L := by rw [f5.2 15 (by decide), f4.2 15 (by decide), m_ne (by decide)]; exact x15
                have hT6 := myT_3 hT5 (2 * L + 1) (nI (vv b n v0 (i + 3)))
                have f6 := myR_3 w5 (2 * L + 1) (nI (vv b n v0 (i + 3)))
                have am2 : ∀ g : Mem → Option (Int32 × Mem), ((wrA w5 153 48 ((2 * (w5 146 15)) + 1) (w5 146 26)).bind g) = g (mupd w5 153 (2 * L + 1) (nI (vv b n v0 (i + 3)))) := fun g => by
                  rw [y15, li_mul, n5, nI_1, wb (by show 2 * L + 1 < 48; omega) (by omega)]
                have wrow : ∀ {x : Int32} {w7 : Mem}, FX12_need_146 159 (mupd w5 153 (2 * L + 1) (nI (vv b n v0 (i + 3)))) = some (x, w7) → x = 0 ∨ x = 1 → FX12_aWeight_146 w = some (x, w7) := fun {x w7} h hx => by
                  unfold FX12_aWeight_146
                  rw [m1, b2_some, if_neg z1, m2, b2_some, if_neg z1, am, m4, b2_some, if_neg z1, m5, b2_some, if_neg z1, am2, h, b2_some, bnd2_bchk hx]
                have fall := myR_t f1 (myR_t f2 (myR_t f3 (myR_t f4 (myR_t f5 f6))))
                rw [z5, b2_some, show i + 3 + 1 = i + 4 by omega]
                have gall : txR u (txGo (kk 2 b n) (txGo (kk 2 b n) (txGo (kk 2 b n) (txGo (kk 2 b n) u (i + 1)) (i + 2)) (i + 3)) (i + 4)) := txR_t R1 (txR_t (txGo_R _ _ _) (txR_t (txGo_R _ _ _) (txGo_R _ _ _)))
                have hall : txH u (txGo (kk 2 b n) (txGo (kk 2 b n) (txGo (kk 2 b n) (txGo (kk 2 b n) u (i + 1)) (i + 2)) (i + 3)) (i + 4)) := txH_t H1 (txH_t (txGo_H _ _ _) (txH_t (txGo_H _ _ _) (txGo_H _ _ _)))
                generalize (txGo (kk 2 b n) (txGo (kk 2 b n) (txGo (kk 2 b n) (txGo (kk 2 b n) u (i + 1)) (i + 2)) (i + 3)) (i + 4)) = ua at hA4 gall hall
                by_cases c6 : kk 2 b n (i + 4) = 59
                · have hi4 := hZ.1.2 (i + 4) (by omega) (by omega)
                  obtain ⟨w7, m7, f7, -, c7, hT7⟩ := mk_needY k4 hT6 (tY_2_59 c6)
                  have hA5 := txGo_A (j := i + 5) hA4 (by omega)
                  have hb := txH_t hall (txGo_H (kk 2 b n) ua (i + 5))
                  have gb := txR_t gall (txGo_R (kk 2 b n) ua (i + 5))
                  have ec : ((FX6_need_34 59 ua).bind fun u10 => (if (u10 34 13) = 0 then ((FX11_isFact (nI (vv b n v0 (i + 1)))).bind fun x12 => (if x12 = 0 then (FX6_weightLine_34_b57 u10) else ((wrA u10 51 8 (nI (vv b n v0 (i + 1))) (nI (vv b n v0 (i + 3)))).bind fun u14 => FX6_weightLine_34_b57 u14))) else (FX6_weightLine_34_b57 u10))) = some (mupd (mupd (txGo (kk 2 b n) ua (i + 5)) 51 (vv b n v0 (i + 1)) (nI (vv b n v0 (i + 3)))) 34 11 (nI (L + 1))) := by
                    rw [c_needY hZ hA4 (nk c6) (by omega), b_some, show i + 4 + 1 = i + 5 by omega, if_pos hA5.2.2.2.2.1, c_fa, b_some, if_pos (show (0 : Int32) ≤ nI (vv b n v0 (i + 1)) ∧ nI (vv b n v0 (i + 1)) ≤ 7 from ⟨nI_0le (by omega), by rw [le_li (by decide) (by omega)]; show vv b n v0 (i + 1) ≤ 7; omega⟩), if_neg z1, wb (by omega) (by omega)]
                    unfold FX6_weightLine_34_b57
                    rw [m_ne (show 34 ≠ 51 by decide), hb.2 11 (by decide) (by decide) (by decide) (by decide), h11, nI_1, b_some]
                  rw [ec]
                  have u5R : txR (txGo (kk 2 b n) ua (i + 5)) (mupd (mupd (txGo (kk 2 b n) ua (i + 5)) 51 (vv b n v0 (i + 1)) (nI (vv b n v0 (i + 3)))) 34 11 (nI (L + 1))) := txR_t (txR_c _ (by omega)) (txR_11 _)
                  refine Or.inr ⟨i + 5, vv b n v0 (i + 1), vv b n v0 (i + 3), _, mupd w7 146 15 (nI (L + 1)), by omega, L16, p3, by omega, rfl, txR_t gb u5R, ?_, by rw [m_eq, up_eq], ?_, fun F => row_y e0 L16 h15 (r1 (wrow m7 (Or.inr rfl))) (myR_t fall f7) F, myV_t (myV_R (myR_t fall f7)) (myV_15 _ _), myT_26 hT7 (Or.inr rfl) _, by rw [m_eq, up_eq], ?_, ?_, fun y hy => ?_⟩
                  · refine ⟨?_, hA5.2.1, ?_, ?_, ?_⟩
                    · unfold txT
                      rw [m_eq, up_ne (by decide), m_ne (show 34 ≠ 51 by decide), m_ne (show 36 ≠ 34 by decide), m_ne (show 36 ≠ 51 by decide), m_ne (show 37 ≠ 34 by decide), m_ne (show 37 ≠ 51 by decide), m_ne (show 38 ≠ 34 by decide), m_ne (show 38 ≠ 51 by decide)]
                      exact hA5.1
                    · rw [m_eq, up_ne (by decide), m_ne (by decide)]; exact hA5.2.2.1
                    · rw [m_eq, up_ne (by decide), m_ne (by decide)]; exact hA5.2.2.2.1
                    · rw [m_eq, up_ne (by decide), up_ne (by decide), m_ne (by decide)]; exact hA5.2.2.2.2
                  · rw [m_ne (by decide), m_eq, hb.1 51 (by decide)]
                  · rw [m_ne (by decide), c7, m_eq, up_ne (by omega), c5', c4, m_eq, up_eq]
                  · rw [m_ne (by decide), c7, m_eq, up_eq]
                  · rw [m_ne (by decide), c7, m_eq, up_ne (by omega), c5', c4, m_eq, up_ne (by omega), c2, c1]
                · obtain ⟨u5, e5, g5, x5⟩ := c_needN hN hA4 (nkn (hZ.2.2 (i + 4)) (by decide) c6)
                  obtain ⟨w7, m7, f7, x7⟩ := mk_needN hT6 (tN_2_59 (kk_v 2 b n (i + 4)) c6)
                  rw [e5, b_some, d5 _ _ u5 (txX_D x5 (by decide) (by decide))]
                  exact Or.inl (row_f (k := 2) (by decide) (by decide) rfl (txR_t gall (txR_t (txR_G g5) (txR_11 _))) (txX_11 x5 _) e0 (Or.inl n16) (r0 (wrow m7 (Or.inl rfl))) (myR_t fall f7) x7)
              · exact absurd ⟨z2, z3⟩ y1
            · obtain ⟨v1, v2⟩ := pxN_v (hZ.2.1 (i + 3)) z1'
              rw [← s99] at z2
              rcases m_num k4 (show 100 ≤ 10000 by decide) hT4 s99 with ⟨y1, y2, -⟩ | ⟨-, w5, m5, f5, x5⟩
              · exact absurd ⟨y1, y2⟩ v2
              · rw [v1] at z4
                rw [z2, b2_some, d4 _ _ u4 (txX_D z4 ft_lt.1 ft_lt.2)]
                refine Or.inl (row_f (k := 2) ft_lt.1 ft_lt.2 rfl (txR_t R1 (txR_t (txGo_R _ _ _) (txR_t (txGo_R _ _ _) (txR_t (txR_G z3) (txR_11 _))))) (txX_11 z4 _) e0 (Or.inl n16) (r0 ?_) (myR_t f1 (myR_t f2 (myR_t f3 (myR_t f4 f5)))) x5)
                unfold FX12_aWeight_146
                rw [m1, b2_some, if_neg z1, m2, b2_some, if_neg z1, am, m4, b2_some, if_neg z1, m5, b2_some, if_pos rfl]
          · rw [show i + 1 + 1 = i + 2 by omega]
            obtain ⟨u3, e3, g3, x3⟩ := c_needN hN hA2 (nkn (hZ.2.2 (i + 2)) (by decide) c5)
            obtain ⟨w4, m4, f4, x4⟩ := mk_needN hT3 (tN_2_257 (kk_v 2 b n (i + 2)) c5)
            rw [e3, b_some, d3 _ u3 (txX_D x3 (by decide) (by decide))]
            refine Or.inl (row_f (k := 2) (by decide) (by decide) rfl (txR_t R1 (txR_t (txGo_R _ _ _) (txR_t (txR_G g3) (txR_11 _)))) (txX_11 x3 _) e0 (Or.inl n16) (r0 ?_) (myR_t f1 (myR_t f2 (myR_t f3 f4))) x4)
            unfold FX12_aWeight_146
            rw [m1, b2_some, if_neg z1, m2, b2_some, if_neg z1, am, m4, b2_some, if_pos rfl]
        · exact absurd ⟨p2, p3⟩ q1
      · obtain ⟨v1, v2⟩ := pxN_v (hZ.2.1 (i + 1)) p1
        rw [← s7] at p2
        rcases m_num k4 (show 8 ≤ 10000 by decide) hT1 s7 with ⟨y1, y2, -⟩ | ⟨-, w2, m2, f2, x2⟩
        · exact absurd ⟨y1, y2⟩ v2
        · rw [v1] at p4
          rw [p2, b2_some, d2 _ u2 (txX_D p4 ft_lt.1 ft_lt.2)]
          refine Or.inl (row_f (k := 2) ft_lt.1 ft_lt.2 rfl (txR_t R1 (txR_t (txR_G p3) (txR_11 _))) (txX_11 p4 _) e0 (Or.inl n16) (r0 ?_) (myR_t f1 f2) x2)
          unfold FX12_aWeight_146
          rw [m1, b2_some, if_neg z1, m2, b2_some, if_pos rfl]
  · rw [if_neg c] at eb
    obtain ⟨u1, e1, g1, x1⟩ := c_needN hN hA (nkn (hZ.2.2 i) (by decide) c)
    obtain ⟨w1, m1, f1, y1⟩ := mk_needN hT (tN_2_256 hv c)
    refine Or.inl (row_f (k := 2) (u1 := mupd u1 34 11 (u1 34 11 + 1)) (by decide) (by decide) ?_ (txR_t (txR_G g1) (txR_11 _)) (txX_11 x1 _) e0 (Or.inr eb) (r0 ?_) f1 y1)
    · unfold FX6_weightLine_34 FX6_beginLine_34 FX6_beginLine_34_b25
      rw [hA.2.2.2.1, if_neg (nkn (hZ.2.2 i) (by decide) c), e1, b_some, b_some, d1 u1 (txX_D x1 (by decide) (by decide))]
    · unfold FX12_aWeight_146
      rw [m1, b2_some, if_pos rfl]

