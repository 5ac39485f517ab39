/-! text, whole -/
theorem text_k {v w : Mem} (h : SP v w) {k : Nat} (hk : k < 4) (hk1 : 1 ≤ k) (hk0 : ∀ a, a < 273 → vkK k a = true → mtk k a = 0 → a = 0) (D : Nat → Mem → Mem → Prop) (line : Mem → Option Mem) (hcl : ∀ (F t : Nat) (u : Mem), t ≤ 400 → ¬ u 34 10 = 0 → FX6_read_34_1_L50 (F + 1) (nI k) (nI t) u = (line u).bind fun u5 => FX6_read_34_1_L50 F (nI k) (nI (t + 1)) u5) (step : ∀ (b : Nat → Nat) (n : Nat) (v0 : Int32) (N : Nat), pxZ (kk k b n) (vv b n v0) N → ∀ (i L : Nat) (u w : Mem), txA (kk k b n) (vv b n v0) (qs b n) N i u → myT k b n v0 i w → u 34 11 = nI L → w 146 15 = nI L → L ≤ 16 → kk k b n i ≠ 0 → D L u w → rowX b n u w (line u) (fun F => FX12_readsRows_146_L7 F 1 w) ∨ ∃ j u1 w1, i < j ∧ L < 16 ∧ line u = some u1 ∧ txR u u1 ∧ txA (kk k b n) (vv b n v0) (qs b n) N j u1 ∧ u1 34 11 = nI (L + 1) ∧ (∀ F, FX12_readsRows_146_L7 (F + 1) 1 w = FX12_readsRows_146_L7 F 1 w1) ∧ myV w w1 ∧ myT k b n v0 j w1 ∧ w1 146 15 = nI (L + 1) ∧ D (L + 1) u1 w1) (hD0 : ∀ u w1 : Mem, (∀ c, c < 34 → u c = v c) → u 46 3 = 0 → (∀ i, i < 12 → u 50 i = 0) → (∀ i, i < 8 → u 51 i = 1) → (∀ c, c ≠ 146 → w1 c = w c) → D 0 u w1) : ∃ u' x w', FX6_read_34_1 (nI k) v = FX6_read_34_1_b127 (nI k) u' ∧ FX12_text_146 (nI k) w = FX12_text_146_b60 (nI k) x w' ∧ (∀ c, c < 34 ∨ c = 35 ∨ 51 < c → u' c = v c) ∧ u' 34 12 = 0 ∧ (∀ c, c ≠ 146 → c ≠ 153 → w' c = w c) ∧ (∀ j, j < 12 → w' 146 j = w 146 j) ∧ w' 146 23 = 0 ∧ w' 146 25 = -1 ∧ ((x = 0 ∧ ∃ f y, f ≠ 0 ∧ f < 4 ∧ u' 34 13 = nI f ∧ u' 34 14 = nI y ∧ w' 146 21 = nI f ∧ w' 146 22 = nI y) ∨ (x = 1 ∧ ∃ L', (u' 34 13 = 0 ∧ u' 34 14 = -1) ∧ L' ≤ 16 ∧ u' 34 11 = nI L' ∧ w' 146 15 = nI L' ∧ D L' u' w')) := by
  obtain ⟨a, b, c, d, f, n, r1, r2, r3, r4, r5, r6⟩ := h
  have hTw : TP (fun i => nt (w 154 i)) n (w 154) := ⟨r1, fun i hi => by
    obtain ⟨e1, x, e2, e3⟩ := r4 i hi
    show w 154 i = nI (nt (w 154 i)) ∧ nt (w 154 i) < 256
    rw [e3, nt_nI (by omega)]; exact ⟨rfl, e2⟩⟩
  have hTv : TP (fun i => nt (w 154 i)) n (v 35) := ⟨r1, fun i hi => by rw [(r4 i hi).1]; exact hTw.2 i hi⟩
  generalize (fun i => nt (w 154 i)) = bt at hTw hTv
  obtain ⟨u, N, e1, N1, N2, N3, hA, h11, h12, h6, h7, h46, h50, h51, hu⟩ := c_begin (v0 := w 146 20) hk hTv r2
  obtain ⟨w1, e2, hT, h23, h25, hw, hw6⟩ := m_begin hk hTw r3
  rw [if_neg (nI_ne0 (by omega) (by omega))] at e2
  have hZ := kk_K (v0 := w 146 20) hk r1 N1 N2 N3
  have hT2 : myT k bt n (w 146 20) 0 (mupd w1 146 15 0) := myT_26 hT (Or.inr rfl) 0
  obtain ⟨u', x, w', g1, g2, g3, g4, g5⟩ := rows_L hk hZ hk0 D line hcl (step bt n (w 146 20) N hZ) 400 0 0 0 FU FU u (mupd w1 146 15 0) (by omega) (by decide) (by decide) (Nat.le_refl _) hA hT2 (by rw [h11]; exact nI_0.symm) (by rw [m_eq, up_eq]; exact nI_0.symm) (by decide) (hD0 u _ (fun c hc => hu c (by omega)) h46 h50 h51 (fun c hc => by rw [m_ne hc]; exact hw c hc))
  have z0 : nI 0 = 0 := nI_0
  rw [z0] at g1
  refine ⟨u', x, w', e1.trans g1, ?_, fun c hc => by rw [g3.1 c (by omega), hu c hc], by rw [g3.2 12 (by decide) (by decide) (by decide) (by decide) (by decide)]; exact h12, fun c h1 h2 => by rw [g4.1 c h1 h2, m_ne h1, hw c h1], fun j hj => by rw [g4.2 j (by omega), m_eq, up_ne (by omega), hw6 j (by omega)], by rw [g4.2 23 (by decide), m_eq, up_ne (by decide)]; exact h23, by rw [g4.2 25 (by decide), m_eq, up_ne (by decide)]; exact h25, ?_⟩
  · rw [e2]
    unfold FX12_readsRows_146
    rw [b_some, g2, b2_some]
  · rcases g5 with ⟨q1, fa, y, q2⟩ | q
    · exact Or.inl ⟨q1, fa, qs bt n y, q2⟩
    · exact Or.inr q
/-- a fault: nothing is told -/
theorem text_F {v w u' w' : Mem} {x k : Int32} (hsp : SP v w) (ec : FX6_read_34_1 k v = FX6_read_34_1_b127 k u') (em : FX12_text_146 k w = FX12_text_146_b60 k x w') (cu : ∀ c, c < 34 ∨ c = 35 ∨ 51 < c → u' c = v c) (c12 : u' 34 12 = 0) (cw : ∀ c, c ≠ 146 → c ≠ 153 → w' c = w c) (cw6 : ∀ j, j < 12 → w' 146 j = w 146 j) (x0 : x = 0) {f y : Nat} (f0 : f ≠ 0) (f4 : f < 4) (k1 : u' 34 13 = nI f) (k2 : u' 34 14 = nI y) (k3 : w' 146 21 = nI f) (k4 : w' 146 22 = nI y) : ∃ r v' w', FX11_text_0 k v = some (r, v') ∧ FX12_text_146 k w = some (r, w') ∧ SP v' w' := by
  refine ⟨-1, u', mupd (mupd (mupd w' 146 16 0) 146 23 (w' 146 21)) 146 25 (w' 146 22), ?_, ?_, SP_txt hsp cu c12 (fun c hc => by rw [m_ne (by omega), m_ne (by omega), m_ne (by omega), cw c (by omega) (by omega)]) ?_ ?_ ?_ ?_ ?_⟩
  · unfold FX11_text_0 FX11_text_0_b35
    rw [ec]
    unfold FX6_read_34_1_b127
    rw [if_neg (by rw [k1]; exact nI_f f0 f4), b2_some, if_pos rfl]
  · rw [em]
    unfold FX12_text_146_b60
    rw [b_some, if_pos x0, m_eq, up_ne (by decide), b_some, m_eq, up_ne (by decide), m_eq, up_ne (by decide), b_some]
  · rw [m_eq, up_ne (by decide), m_eq, up_ne (by decide), m_eq, up_ne (by decide)]; exact cw6 4 (by decide)
  · rw [m_eq, up_ne (by decide), m_eq, up_ne (by decide), m_eq, up_ne (by decide)]; exact cw6 5 (by decide)
  · rw [m_eq, up_ne (by decide), m_eq, up_ne (by decide), m_eq, up_eq]
  · rw [m_eq, up_ne (by decide), m_eq, up_eq, k1, k3]
  · rw [m_eq, up_eq, k2, k4]
theorem rd_cl (k F t : Nat) (hk : k < 4) (u : Mem) (ht : t ≤ 400) (hne : ¬ u 34 10 = 0) : FX6_read_34_1_L50 (F + 1) (nI k) (nI t) u = ((if k = 0 then FX6_lawLine_34 u else if k = 1 then FX6_tellingLine_34 (u 1 0) u else if k = 2 then FX6_weightLine_34 u else FX6_orderLine_34 u).bind fun u5 => FX6_read_34_1_L50 F (nI k) (nI (t + 1)) u5) := by
  show FX6_read_34_1_b50 _ _ _ _ = _
  unfold FX6_read_34_1_b50 FX6_read_34_1_b121
  rw [if_neg (show ¬ (400 : Int32) < nI t by rw [li_lt (by decide) (by omega)]; show ¬ 400 < t; omega), if_neg hne, nI_1]
  rcases (by omega : k = 0 ∨ k = 1 ∨ k = 2 ∨ k = 3) with rfl | rfl | rfl | rfl
  · rw [if_pos (by decide), if_pos rfl]
  · rw [if_neg (by decide), if_pos (by decide), if_neg (by decide), if_pos rfl]
  · rw [if_neg (by decide), if_neg (by decide), if_pos (by decide), if_neg (by decide), if_neg (by decide), if_pos rfl]
  · rw [if_neg (by decide), if_neg (by decide), if_neg (by decide), if_neg (by decide), if_neg (by decide), if_neg (by decide)]
theorem text_2 {v w : Mem} (h : SP v w) : ∃ r v' w', FX11_text_0 (nI 2) v = some (r, v') ∧ FX12_text_146 (nI 2) w = some (r, w') ∧ SP v' w' := by
  have hO := h.1.1
  have hX := h.2.1
  obtain ⟨u', x, w', ec, em, cu, c12, cw, cw6, c23, c25, o⟩ := text_k h (k := 2) (by decide) (by decide) tk_2_0 (fun L u w => (∀ f, f < 8 → u 51 f = fo L (fun i s => if w 153 (2 * i) = nI f then w 153 (2 * i + 1) else s) 1) ∧ ∀ i, i < L → ∃ f x, f < 8 ∧ x ≤ 99 ∧ w 153 (2 * i) = nI f ∧ w 153 (2 * i + 1) = nI x) FX6_weightLine_34 (fun F t u ht hne => by have e := rd_cl 2 F t (by decide) u ht hne; rw [if_neg (by decide), if_neg (by decide), if_pos rfl] at e; exact e) (fun b n v0 N hZ i L u w hA hT h11 h15 hL h0 hD => by
      rcases wt_step hZ hA hT h11 h15 hL h0 with r | ⟨j, f, x, u1, w1, g0, g1, g2, g3, g4, g5, g6, g7, g8, g9, g10, g11, g12, g13, g14, g15⟩
      · exact Or.inl r
      · refine Or.inr ⟨j, u1, w1, g0, g1, g4, g5, g6, g7, g9, g10, g11, g12, fun f' hf' => ?_, fun i' hi' => ?_⟩
        · have e : fo L (fun i s => if w1 153 (2 * i) = nI f' then w1 153 (2 * i + 1) else s) 1 = fo L (fun i s => if w 153 (2 * i) = nI f' then w 153 (2 * i + 1) else s) 1 := fo_congr (fun i' s hi' => by rw [g15 _ (by omega), g15 _ (by omega)])
          rw [fo_s, e, ← hD.1 f' hf', g13, g14, g8]
          by_cases q : f' = f
          · rw [q, up_eq, if_pos rfl]
          · rw [up_ne q, if_neg (by rw [nn_eq (by omega) (by omega)]; exact fun h => q h.symm)]
        · by_cases q : i' = L
          · rw [q]; exact ⟨f, x, g2, g3, g13, g14⟩
          · rw [g15 _ (by omega), g15 _ (by omega)]; exact hD.2 i' (by omega)) (fun u w1 _ _ _ h51 _ => ⟨fun f hf => h51 f hf, fun i hi => by omega⟩)
  rcases o with ⟨x0, f, y, f0, f4, k1, k2, k3, k4⟩ | ⟨x1, L, k0, kL, k11, k15, kD, kR⟩
  · exact text_F h ec em cu c12 cw cw6 x0 f0 f4 k1 k2 k3 k4
  · obtain ⟨w6, p1, p2, p3, p4, p5⟩ := m_puts_86 (w := mupd w' 146 16 0) kL (by rw [m_eq, up_ne (by decide)]; exact k15)
    rw [m_ne (show 153 ≠ 146 by decide)] at p4
    have p5 : ∀ x, x ≠ 86 → (x < 190 ∨ 190 + 2 * 16 ≤ x) → w6 147 x = w 147 x := fun x a b => by rw [p5 x a b, m_ne (show 147 ≠ 146 by decide), cw 147 (by decide) (by decide)]
    have s : lT (w 147) (w6 147) := fun k hk => p5 k (by omega) (by omega)
    have e85 := p5 85 (by decide) (by decide)
    have e87 := p5 87 (by decide) (by decide)
    have n86 : nt (w6 147 86) = L := by rw [p3, nt_nI (by omega)]
    have o85 := (OkT_tn hO).2
    have o87 := (OkT_on hO).2
    have row : ∀ i, i < L → w6 147 (190 + 2 * i) = w' 153 (2 * i) ∧ w6 147 (190 + 2 * i + 1) = w' 153 (2 * i + 1) := fun i hi => ⟨p4 _ (by omega), p4 (2 * i + 1) (by omega)⟩
    have hO' : OkT (w6 147) := OkT_T s hO (by rw [e85]; exact OkT_tn hO) (by rw [n86]; exact ⟨p3, kL⟩) (by rw [e87]; exact OkT_on hO) (fun i hi => by
      rw [e85] at hi
      rw [p5 _ (by omega) (by omega), p5 _ (by omega) (by omega)]; exact OkT_te hO i hi) (fun i hi => by
      rw [n86] at hi
      rw [(row i hi).1, (row i hi).2]; exact kR i hi)
    have ch : ∀ c, c ≠ 1 → c ≠ 7 → mupd (cpM u' 51 7 8) 1 12 (nI L) c = u' c := fun c h1 h7 => by rw [m_ne h1, cpM_ne _ h7]
    have hTR : TR 1 (mupd (cpM u' 51 7 8) 1 12 (nI L)) (w6 147) := by
      have hT0 := hX.1.1
      refine TR_T s hO hT0 (fun x _ hx => by rw [m_eq, up_ne hx, cpM_ne _ (by decide), cu 1 (by omega)]) (fun c hc => by rw [ch c (by omega) (by omega), cu c (by omega)]) ?_ ?_ (fun m hm => ?_) (fun f hf => ?_) ?_ (fun i hi => ?_) (fun i hi => ?_) (fun i hi => ?_)
      · rw [m_eq, up_ne (by decide), cpM_ne _ (by decide), cu 1 (by omega), e85]; exact TR_tl hT0
      · rw [m_eq, up_eq, p3]
      · have e : sTold (w6 147) (nI m) = sTold (w 147) (nI m) := fo_n (by rw [e85]) (fun i z hi => by rw [p5 _ (by omega) (by omega), p5 _ (by omega) (by omega)])
        rw [ch 5 (by decide) (by decide), cu 5 (by omega), e]; exact TR_te hT0 m hm
      · rw [m_ne (by decide), cpM_at, if_pos hf, kD f hf]
        exact (fo_n n86 (fun i z hi => by rw [(row i hi).1, (row i hi).2])).symm
      · rw [ch 15 (by decide) (by decide), cu 15 (by omega), e87]; exact TR_ol hT0
      · rw [e87] at hi
        rw [ch 16 (by decide) (by decide), cu 16 (by omega), p5 _ (by omega) (by omega)]; exact TR_od hT0 i hi
      · rw [e87] at hi
        rw [ch 17 (by decide) (by decide), cu 17 (by omega), p5 _ (by omega) (by omega)]; exact TR_oc hT0 i hi
      · rw [e87] at hi
        rw [ch 18 (by decide) (by decide), cu 18 (by omega), p5 _ (by omega) (by omega)]; exact TR_or hT0 i hi
    have z := SP_T (v' := mupd (cpM u' 51 7 8) 1 12 (nI L)) (w' := w6) h s hO' hTR (fun c hc => by rw [ch c (by omega) (by omega), cu c (by omega)]) (by rw [ch 34 (by decide) (by decide)]; exact c12) (fun c hc => by rw [p2 c (by omega), m_ne (by omega), cw c (by omega) (by omega)]) (by rw [p2 146 (by decide), m_eq, up_ne (by decide)]; exact cw6 5 (by decide)) (by rw [p2 146 (by decide), m_eq, up_eq]) (by rw [ch 34 (by decide) (by decide), k0.1, p2 146 (by decide), m_eq, up_ne (by decide)]; exact c23.symm) (by rw [ch 34 (by decide) (by decide), k0.2, p2 146 (by decide), m_eq, up_ne (by decide)]; exact c25.symm)
    refine ⟨nI L, _, w6, ?_, ?_, z.2 (by rw [p2 146 (by decide), m_eq, up_ne (by decide)]; exact cw6 4 (by decide))⟩
    · unfold FX11_text_0 FX11_text_0_b35
      rw [ec]
      unfold FX6_read_34_1_b127 FX6_hand_34_1
      rw [if_pos k0.1, if_neg (by decide), if_neg (by decide), if_pos (by decide), b_some, cpM_ne _ (show 34 ≠ 7 by decide), k11, b_some, b_some, b2_some, ch 34 (by decide) (by decide), k11, if_neg (nI_m1 (by omega)), if_neg (by decide), if_neg (by decide)]
    · rw [em]
      unfold FX12_text_146_b60 FX12_putsText_146
      rw [b_some, if_neg (by rw [x1]; exact z1), if_neg (by decide), if_pos (by decide), p1, b2_some, b2_some]
/-- undo is forgotten ahead of what is put down -/
theorem SQ_g {v' w' : Mem} (h : SQ v' w') (h4 : w' 146 4 = 0) : SP (mupd v' 52 2 0) w' := by
  have := SQ_f h
  rw [mu_self h4] at this
  exact this
theorem text_1 {v w : Mem} (h : SP v w) : ∃ r v' w', FX11_text_0 (nI 1) v = some (r, v') ∧ FX12_text_146 (nI 1) w = some (r, w') ∧ SP v' w' := by
  have hO := h.1.1
  have hX := h.2.1
  obtain ⟨hnm, hmen⟩ := OkT_n hO
  obtain ⟨u', x, w', ec, em, cu, c12, cw, cw6, c23, c25, o⟩ := text_k h (k := 1) (by decide) (by decide) tk_1_0 (fun L u w1 => (u 1 0 = nI (nmen (w 147)) ∧ w1 147 = w 147) ∧ (∀ m, m < 12 → u 50 m = fo L (fun i s => if w1 153 (2 * i) = nI m then s ||| w1 153 (2 * i + 1) else s) 0) ∧ ∀ i, i < L → ∃ f x, f < nmen (w 147) ∧ x < 2 ^ nmen (w 147) ∧ w1 153 (2 * i) = nI f ∧ w1 153 (2 * i + 1) = nI x) (fun u => FX6_tellingLine_34 (u 1 0) u) (fun F t u ht hne => by have e := rd_cl 1 F t (by decide) u ht hne; rw [if_neg (by decide), if_pos rfl] at e; exact e) (fun b n v0 N hZ i L u w1 hA hT h11 h15 hL h0 hD => by
      obtain ⟨⟨d1, d2⟩, d3, d4⟩ := hD
      rw [d1]
      rcases tl_step hZ hO d2 hA hT h11 h15 hL h0 with r | ⟨j, f, x, u1, w2, g0, g1, g2, g3, g4, g5, g6, g7, g8, g9, g10, g11, g12, g13, g14, g15⟩
      · exact Or.inl r
      · refine Or.inr ⟨j, u1, w2, g0, g1, g4, g5, g6, g7, g9, g10, g11, g12, ⟨by rw [g5.1 1 (by omega)]; exact d1, by rw [g10.1 147 (by decide) (by decide)]; exact d2⟩, fun m hm => ?_, fun i' hi' => ?_⟩
        · have e : fo L (fun i s => if w2 153 (2 * i) = nI m then s ||| w2 153 (2 * i + 1) else s) 0 = fo L (fun i s => if w1 153 (2 * i) = nI m then s ||| w1 153 (2 * i + 1) else s) 0 := fo_congr (fun i' s hi' => by rw [g15 _ (by omega), g15 _ (by omega)])
          rw [fo_s, e, ← d3 m hm, g13, g14, g8]
          by_cases q : m = f
          · rw [q, up_eq, if_pos rfl]
          · rw [up_ne q, if_neg (by rw [nn_eq (by omega) (by omega)]; exact fun h => q h.symm)]
        · by_cases q : i' = L
          · rw [q]; exact ⟨f, x, g2, g3, g13, g14⟩
          · rw [g15 _ (by omega), g15 _ (by omega)]; exact d4 i' (by omega)) (fun u w1 hu _ h50 _ hw => ⟨⟨by rw [hu 1 (by decide), ← hnm]; exact TR_men hX.1.1, hw 147 (by decide)⟩, fun m hm => h50 m hm, fun i hi => by omega⟩)
  rcases o with ⟨x0, f, y, f0, f4, k1, k2, k3, k4⟩ | ⟨x1, L, k0, kL, k11, k15, -, kD, kR⟩
  · exact text_F h ec em cu c12 cw cw6 x0 f0 f4 k1 k2 k3 k4
  · obtain ⟨w6, p1, p2, p3, p4, p5⟩ := m_puts_85 (w := mupd (mupd w' 146 16 0) 146 4 0) kL (by rw [m_eq, up_ne (by decide), m_eq, up_ne (by decide)]; exact k15)
    rw [m_ne (show 153 ≠ 146 by decide), m_ne (show 153 ≠ 146 by decide)] at p4
    have p5 : ∀ x, x ≠ 85 → (x < 158 ∨ 158 + 2 * 16 ≤ x) → w6 147 x = w 147 x := fun x a b => by rw [p5 x a b, m_ne (show 147 ≠ 146 by decide), m_ne (show 147 ≠ 146 by decide), cw 147 (by decide) (by decide)]
    have s : lT (w 147) (w6 147) := fun k hk => p5 k (by omega) (by omega)
    have e86 := p5 86 (by decide) (by decide)
    have e87 := p5 87 (by decide) (by decide)
    have n85 : nt (w6 147 85) = L := by rw [p3, nt_nI (by omega)]
    have o86 := (OkT_wn hO).2
    have o87 := (OkT_on hO).2
    have row : ∀ i, i < L → w6 147 (158 + 2 * i) = w' 153 (2 * i) ∧ w6 147 (158 + 2 * i + 1) = w' 153 (2 * i + 1) := fun i hi => ⟨p4 _ (by omega), p4 (2 * i + 1) (by omega)⟩
    have hO' : OkT (w6 147) := OkT_T s hO (by rw [n85]; exact ⟨p3, kL⟩) (by rw [e86]; exact OkT_wn hO) (by rw [e87]; exact OkT_on hO) (fun i hi => by
      rw [n85] at hi
      rw [(row i hi).1, (row i hi).2]; exact kR i hi) (fun i hi => by
      rw [e86] at hi
      rw [p5 _ (by omega) (by omega), p5 _ (by omega) (by omega)]; exact OkT_we hO i hi)
    have ch : ∀ c, c ≠ 1 → c ≠ 5 → mupd (cpM u' 50 5 12) 1 11 (nI L) c = u' c := fun c h1 h7 => by rw [m_ne h1, cpM_ne _ h7]
    have hTR : TR 1 (mupd (cpM u' 50 5 12) 1 11 (nI L)) (w6 147) := by
      have hT0 := hX.1.1
      refine TR_T s hO hT0 (fun x hx _ => by rw [m_eq, up_ne hx, cpM_ne _ (by decide), cu 1 (by omega)]) (fun c hc => by rw [ch c (by omega) (by omega), cu c (by omega)]) ?_ ?_ (fun m hm => ?_) (fun f hf => ?_) ?_ (fun i hi => ?_) (fun i hi => ?_) (fun i hi => ?_)
      · rw [m_eq, up_eq, p3]
      · rw [m_eq, up_ne (by decide), cpM_ne _ (by decide), cu 1 (by omega), e86]; exact TR_wl hT0
      · rw [m_ne (by decide), cpM_at, if_pos hm, kD m hm]
        exact (fo_n n85 (fun i z hi => by rw [(row i hi).1, (row i hi).2])).symm
      · have e : sWt1 (w6 147) (nI f) = sWt1 (w 147) (nI f) := fo_n (by rw [e86]) (fun i z hi => by rw [p5 _ (by omega) (by omega), p5 _ (by omega) (by omega)])
        rw [ch 7 (by decide) (by decide), cu 7 (by omega), e]; exact TR_we hT0 f hf
      · rw [ch 15 (by decide) (by decide), cu 15 (by omega), e87]; exact TR_ol hT0
      · rw [e87] at hi
        rw [ch 16 (by decide) (by decide), cu 16 (by omega), p5 _ (by omega) (by omega)]; exact TR_od hT0 i hi
      · rw [e87] at hi
        rw [ch 17 (by decide) (by decide), cu 17 (by omega), p5 _ (by omega) (by omega)]; exact TR_oc hT0 i hi
      · rw [e87] at hi
        rw [ch 18 (by decide) (by decide), cu 18 (by omega), p5 _ (by omega) (by omega)]; exact TR_or hT0 i hi
    have z := SP_T (v' := mupd (cpM u' 50 5 12) 1 11 (nI L)) (w' := w6) h s hO' hTR (fun c hc => by rw [ch c (by omega) (by omega), cu c (by omega)]) (by rw [ch 34 (by decide) (by decide)]; exact c12) (fun c hc => by rw [p2 c (by omega), m_ne (by omega), m_ne (by omega), cw c (by omega) (by omega)]) (by rw [p2 146 (by decide), m_eq, up_ne (by decide), m_eq, up_ne (by decide)]; exact cw6 5 (by decide)) (by rw [p2 146 (by decide), m_eq, up_ne (by decide), m_eq, up_eq]) (by rw [ch 34 (by decide) (by decide), k0.1, p2 146 (by decide), m_eq, up_ne (by decide), m_eq, up_ne (by decide)]; exact c23.symm) (by rw [ch 34 (by decide) (by decide), k0.2, p2 146 (by decide), m_eq, up_ne (by decide), m_eq, up_ne (by decide)]; exact c25.symm)
    refine ⟨nI L, _, w6, ?_, ?_, SQ_g z.1 (by rw [p2 146 (by decide), m_eq, up_eq])⟩
    · unfold FX11_text_0 FX11_text_0_b28 FX11_text_0_b35
      rw [ec]
      unfold FX6_read_34_1_b127 FX6_hand_34_1
      rw [if_pos k0.1, if_neg (by decide), if_pos (by decide), b_some, cpM_ne _ (show 34 ≠ 5 by decide), k11, b_some, b_some, b2_some, ch 34 (by decide) (by decide), k11, if_neg (nI_m1 (by omega)), if_pos (by decide), c_forget, b_some]
    · rw [em]
      unfold FX12_text_146_b60 FX12_putsText_146
      rw [b_some, if_neg (by rw [x1]; exact z1), if_neg (by decide), if_neg (by decide), m_forget, b_some, if_pos (by decide), p1, b2_some, b2_some]
theorem text_3 {v w : Mem} (h : SP v w) : ∃ r v' w', FX11_text_0 (nI 3) v = some (r, v') ∧ FX12_text_146 (nI 3) w = some (r, w') ∧ SP v' w' := by
  have hO := h.1.1
  have hX := h.2.1
  obtain ⟨u', x, w', ec, em, cu, c12, cw, cw6, c23, c25, o⟩ := text_k h (k := 3) (by decide) (by decide) tk_3_0 (fun L u w => u 46 3 = nI L ∧ ∀ i, i < L → u 47 i = w 153 (3 * i) ∧ u 48 i = w 153 (3 * i + 2) ∧ u 49 i = if w 153 (3 * i + 1) = 11 then 1 else 0) FX6_orderLine_34 (fun F t u ht hne => by have e := rd_cl 3 F t (by decide) u ht hne; rw [if_neg (by decide), if_neg (by decide), if_neg (by decide)] at e; exact e) (fun b n v0 N hZ i L u w hA hT h11 h15 hL h0 hD => by
      rcases or_step hZ hA hT h11 hD.1 h15 hL h0 with r | ⟨j, dd, tt, cc, u1, w1, g0, g1, g2, g4, g5, g6, g7, g7b, g8, g8b, g8c, g9, g10, g11, g12, g13, g14, g14b, g15⟩
      · exact Or.inl r
      · refine Or.inr ⟨j, u1, w1, g0, g1, g4, g5, g6, g7, g9, g10, g11, g12, g7b, fun i' hi' => ?_⟩
        by_cases q : i' = L
        · rw [q, g8, g8b, g8c, up_eq, up_eq, up_eq, g13, g14, g14b]
          refine ⟨rfl, rfl, ?_⟩
          rcases g2 with rfl | rfl
          · rw [if_pos rfl, if_pos (show nI 11 = 11 by decide)]
          · rw [if_neg (by decide), if_neg (show ¬ nI 12 = 11 by decide)]
        · rw [g8, g8b, g8c, up_ne q, up_ne q, up_ne q, g15 _ (by omega), g15 _ (by omega), g15 _ (by omega)]; exact hD.2 i' (by omega)) (fun u w1 _ h46 _ _ _ => ⟨by rw [h46]; exact nI_0.symm, fun i hi => by omega⟩)
  rcases o with ⟨x0, f, y, f0, f4, k1, k2, k3, k4⟩ | ⟨x1, L, k0, kL, k11, k15, k46, kR⟩
  · exact text_F h ec em cu c12 cw cw6 x0 f0 f4 k1 k2 k3 k4
  · obtain ⟨w6, p1, p2, p3, p4, p5⟩ := m_puts_87 (w := mupd (mupd w' 146 16 0) 146 4 0) kL (by rw [m_eq, up_ne (by decide), m_eq, up_ne (by decide)]; exact k15)
    rw [m_ne (show 153 ≠ 146 by decide), m_ne (show 153 ≠ 146 by decide)] at p4
    have p5 : ∀ x, x ≠ 87 → (x < 222 ∨ 222 + 3 * 16 ≤ x) → w6 147 x = w 147 x := fun x a b => by rw [p5 x a b, m_ne (show 147 ≠ 146 by decide), m_ne (show 147 ≠ 146 by decide), cw 147 (by decide) (by decide)]
    have s : lT (w 147) (w6 147) := fun k hk => p5 k (by omega) (by omega)
    have e85 := p5 85 (by decide) (by decide)
    have e86 := p5 86 (by decide) (by decide)
    have n87 : nt (w6 147 87) = L := by rw [p3, nt_nI (by omega)]
    have o85 := (OkT_tn hO).2
    have o86 := (OkT_wn hO).2
    have row : ∀ i, i < L → w6 147 (222 + 3 * i) = w' 153 (3 * i) ∧ w6 147 (222 + 3 * i + 1) = w' 153 (3 * i + 1) ∧ w6 147 (222 + 3 * i + 2) = w' 153 (3 * i + 2) := fun i hi => ⟨p4 _ (by omega), p4 (3 * i + 1) (by omega), p4 (3 * i + 2) (by omega)⟩
    have hO' : OkT (w6 147) := OkT_T s hO (by rw [e85]; exact OkT_tn hO) (by rw [e86]; exact OkT_wn hO) (by rw [n87]; exact ⟨p3, kL⟩) (fun i hi => by
      rw [e85] at hi
      rw [p5 _ (by omega) (by omega), p5 _ (by omega) (by omega)]; exact OkT_te hO i hi) (fun i hi => by
      rw [e86] at hi
      rw [p5 _ (by omega) (by omega), p5 _ (by omega) (by omega)]; exact OkT_we hO i hi)
    have ch : ∀ c, c ≠ 15 → c ≠ 16 → c ≠ 17 → c ≠ 18 → mupd (cpM (cpM (cpM u' 47 16 16) 48 17 16) 49 18 16) 15 3 (nI L) c = u' c := fun c h1 h2 h3 h4 => by rw [m_ne h1, cpM_ne _ h4, cpM_ne _ h3, cpM_ne _ h2]
    have hTR : TR 1 (mupd (cpM (cpM (cpM u' 47 16 16) 48 17 16) 49 18 16) 15 3 (nI L)) (w6 147) := by
      have hT0 := hX.1.1
      refine TR_T s hO hT0 (fun x _ _ => by rw [ch 1 (by decide) (by decide) (by decide) (by decide), cu 1 (by omega)]) (fun c hc => by rw [ch c (by omega) (by omega) (by omega) (by omega), cu c (by omega)]) ?_ ?_ (fun m hm => ?_) (fun f hf => ?_) ?_ (fun i hi => ?_) (fun i hi => ?_) (fun i hi => ?_)
      · rw [ch 1 (by decide) (by decide) (by decide) (by decide), cu 1 (by omega), e85]; exact TR_tl hT0
      · rw [ch 1 (by decide) (by decide) (by decide) (by decide), cu 1 (by omega), e86]; exact TR_wl hT0
      · have e : sTold (w6 147) (nI m) = sTold (w 147) (nI m) := fo_n (by rw [e85]) (fun i z hi => by rw [p5 _ (by omega) (by omega), p5 _ (by omega) (by omega)])
        rw [ch 5 (by decide) (by decide) (by decide) (by decide), cu 5 (by omega), e]; exact TR_te hT0 m hm
      · have e : sWt1 (w6 147) (nI f) = sWt1 (w 147) (nI f) := fo_n (by rw [e86]) (fun i z hi => by rw [p5 _ (by omega) (by omega), p5 _ (by omega) (by omega)])
        rw [ch 7 (by decide) (by decide) (by decide) (by decide), cu 7 (by omega), e]; exact TR_we hT0 f hf
      · rw [m_eq, up_eq, p3]
      · rw [n87] at hi
        rw [m_ne (by decide), cpM_ne _ (by decide), cpM_ne _ (by decide), cpM_at, if_pos (by omega), (row i hi).1]; exact (kR i hi).1
      · rw [n87] at hi
        rw [m_ne (by decide), cpM_ne _ (by decide), cpM_at, if_pos (by omega), cpM_ne _ (by decide), (row i hi).2.2]; exact (kR i hi).2.1
      · rw [n87] at hi
        rw [m_ne (by decide), cpM_at, if_pos (by omega), cpM_ne _ (by decide), cpM_ne _ (by decide), (row i hi).2.1]; exact (kR i hi).2.2
    have z := SP_T (v' := mupd (cpM (cpM (cpM u' 47 16 16) 48 17 16) 49 18 16) 15 3 (nI L)) (w' := w6) h s hO' hTR (fun c hc => by rw [ch c (by omega) (by omega) (by omega) (by omega), cu c (by omega)]) (by rw [ch 34 (by decide) (by decide) (by decide) (by decide)]; exact c12) (fun c hc => by rw [p2 c (by omega), m_ne (by omega), m_ne (by omega), cw c (by omega) (by omega)]) (by rw [p2 146 (by decide), m_eq, up_ne (by decide), m_eq, up_ne (by decide)]; exact cw6 5 (by decide)) (by rw [p2 146 (by decide), m_eq, up_ne (by decide), m_eq, up_eq]) (by rw [ch 34 (by decide) (by decide) (by decide) (by decide), k0.1, p2 146 (by decide), m_eq, up_ne (by decide), m_eq, up_ne (by decide)]; exact c23.symm) (by rw [ch 34 (by decide) (by decide) (by decide) (by decide), k0.2, p2 146 (by decide), m_eq, up_ne (by decide), m_eq, up_ne (by decide)]; exact c25.symm)
    refine ⟨nI L, _, w6, ?_, ?_, SQ_g z.1 (by rw [p2 146 (by decide), m_eq, up_eq])⟩
    · unfold FX11_text_0 FX11_text_0_b28 FX11_text_0_b35
      rw [ec]
      unfold FX6_read_34_1_b127 FX6_hand_34_1 FX5_become_15_46
      rw [if_pos k0.1, if_neg (by decide), if_neg (by decide), if_neg (by decide), b_some, b_some, b_some, cpM_ne _ (show 46 ≠ 18 by decide), cpM_ne _ (show 46 ≠ 17 by decide), cpM_ne _ (show 46 ≠ 16 by decide), k46, b_some, b_some, b_some, b2_some, ch 34 (by decide) (by decide) (by decide) (by decide), k11, if_neg (nI_m1 (by omega)), if_neg (by decide), if_pos (by decide), c_forget, b_some]
    · rw [em]
      unfold FX12_text_146_b60 FX12_putsText_146
      rw [b_some, if_neg (by rw [x1]; exact z1), if_neg (by decide), if_neg (by decide), m_forget, b_some, if_neg (by decide), p1, b2_some, b2_some]
theorem A_text (p : Int32) : A2 (FX11_text_0 p) (FX12_text_146 p) := by
  intro v w h
  by_cases c : 0 ≤ p ∧ p ≤ 3
  · rw [show (3 : Int32) = nI 3 by decide, in_n (by decide)] at c
    obtain ⟨k, hk, rfl⟩ := c
    rcases (by omega : k = 0 ∨ k = 1 ∨ k = 2 ∨ k = 3) with rfl | rfl | rfl | rfl
    · exact text_0 h
    · exact text_1 h
    · exact text_2 h
    · exact text_3 h
  · have ec : FX6_read_34_1 p v = some (-1, mupd (mupd (mupd v 34 12 0) 34 13 0) 34 14 (-1)) := by
      unfold FX6_read_34_1
      rw [b_some, b_some, b_some]
      by_cases c1 : p < 0
      · rw [if_pos c1]
      · rw [if_neg c1, if_neg (fun h => c ⟨by rw [← Int32.not_lt]; exact c1, h⟩)]
    refine ⟨-1, mupd (mupd (mupd v 34 12 0) 34 13 0) 34 14 (-1), mupd (mupd (mupd w 146 23 0) 146 25 (-1)) 146 16 0, ?_, ?_, SP_txt h (fun c hc => by rw [m_ne (by omega), m_ne (by omega), m_ne (by omega)]) ?_ (fun c hc => by rw [m_ne (by omega), m_ne (by omega), m_ne (by omega)]) ?_ ?_ ?_ ?_ ?_⟩
    · unfold FX11_text_0 FX11_text_0_b35
      rw [ec, b2_some, if_pos rfl]
    · unfold FX12_text_146
      rw [b_some, b_some, m_in, b_some, if_neg c, if_pos rfl, b_some]
    · rw [m_eq, up_ne (by decide), m_eq, up_ne (by decide), m_eq, up_eq]
    · rw [m_eq, up_ne (by decide), m_eq, up_ne (by decide), m_eq, up_ne (by decide)]
    · rw [m_eq, up_ne (by decide), m_eq, up_ne (by decide), m_eq, up_ne (by decide)]
    · rw [m_eq, up_eq]
    · rw [m_eq, up_ne (by decide), m_eq, up_eq, m_eq, up_ne (by decide), m_eq, up_ne (by decide), m_eq, up_eq]
    · rw [m_eq, up_eq, m_eq, up_ne (by decide), m_eq, up_eq]

