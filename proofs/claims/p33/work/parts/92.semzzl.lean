/-! texts 1 to 3, both sides -/
theorem rows_L {k : Nat} {b : Nat → Nat} {n : Nat} {v0 : Int32} {N : Nat} (hk : k < 4) (hZ : pxZ (kk k b n) (vv b n v0) N) (hk0 : ∀ a, a < 273 → vkK k a = true → mtk k a = 0 → a = 0) (D : Nat → Mem → Mem → Prop) (line : Mem → Option Mem) (hcl : ∀ (F t : Nat) (u : Mem), t ≤ 400 → ¬ u 34 10 = 0 → FX6_read_34_1_L50 (F + 1) (nI k) (nI t) u = (line u).bind fun u5 => FX6_read_34_1_L50 F (nI k) (nI (t + 1)) u5) (step : ∀ (i L : Nat) (u w : Mem), txA (kk k b n) (vv b n v0) (qs b n) N i u → myT k b n v0 i w → u 34 11 = nI L → w 146 15 = nI L → L ≤ 16 → kk k b n i ≠ 0 → D L u w → rowX b n u w (line u) (fun F => FX12_readsRows_146_L7 F 1 w) ∨ ∃ j u1 w1, i < j ∧ L < 16 ∧ line u = some u1 ∧ txR u u1 ∧ txA (kk k b n) (vv b n v0) (qs b n) N j u1 ∧ u1 34 11 = nI (L + 1) ∧ (∀ F, FX12_readsRows_146_L7 (F + 1) 1 w = FX12_readsRows_146_L7 F 1 w1) ∧ myV w w1 ∧ myT k b n v0 j w1 ∧ w1 146 15 = nI (L + 1) ∧ D (L + 1) u1 w1) : ∀ (d i L t F F2 : Nat) (u w : Mem), N - i ≤ d → d + 2 < F → d + 2 < F2 → t ≤ i → txA (kk k b n) (vv b n v0) (qs b n) N i u → myT k b n v0 i w → u 34 11 = nI L → w 146 15 = nI L → L ≤ 16 → D L u w → ∃ u' x w', FX6_read_34_1_L50 F (nI k) (nI t) u = FX6_read_34_1_b127 (nI k) u' ∧ FX12_readsRows_146_L7 F2 1 w = some (x, w') ∧ txR u u' ∧ myV w w' ∧ ((x = 0 ∧ ∃ f y, f ≠ 0 ∧ f < 4 ∧ u' 34 13 = nI f ∧ u' 34 14 = nI (qs b n y) ∧ w' 146 21 = nI f ∧ w' 146 22 = nI (qs b n y)) ∨ (x = 1 ∧ ∃ L', (u' 34 13 = 0 ∧ u' 34 14 = -1) ∧ L' ≤ 16 ∧ u' 34 11 = nI L' ∧ w' 146 15 = nI L' ∧ D L' u' w')) := by
  intro d
  induction d using Nat.strongRecOn with
  | _ d ih =>
  intro i L t F F2 u w hd hF hF2 ht hA hT h11 h15 hL hD
  obtain ⟨F, rfl⟩ : ∃ f, F = f + 1 := ⟨F - 1, by omega⟩
  obtain ⟨F2, rfl⟩ : ∃ f, F2 = f + 2 := ⟨F2 - 2, by omega⟩
  have hN := hZ.1.1
  have hi := hA.2.1
  have hv := kk_v k b n i
  have hl := vk_lt hk hv
  have hml := mtk_lt k hk _ hl
  by_cases c0 : kk k b n i = 0
  · refine ⟨u, 1, w, ?_, ?_, txR_r u, myV_r w, Or.inr ⟨rfl, L, hA.2.2.2.2, hL, h11, h15, hD⟩⟩
    · show FX6_read_34_1_b50 _ _ _ _ = _
      unfold FX6_read_34_1_b50
      rw [if_pos (show u 34 10 = 0 by rw [hA.2.2.2.1, c0]; exact nI_0), ite_self]
    · show FX12_readsRows_146_b7 _ _ _ = _
      unfold FX12_readsRows_146_b7 FX12_readsRows_146_b66
      rw [if_neg z1, if_pos (show w 146 18 = 0 by rw [hT.2.2.2.1, c0]; exact nI_0), bchk_1, b_some]
  · have hkne : ¬ u 34 10 = 0 := by rw [hA.2.2.2.1]; exact nI_ne0 (by omega) (by have := hZ.2.2 i; omega)
    have e1 := hcl F t u (by omega) hkne
    rcases step i L u w hA hT h11 h15 hL c0 hD with ⟨f, y, u1, w1, g1, g2, g3, g4, g5, g6, g7, g8, g9⟩ | ⟨j, u1, w1, g0, g1, g2, g3, g4, g5, g6, g7, g8, g9, g10⟩
    · refine ⟨u1, 0, w1, ?_, g6 F2, g4, ⟨g7, g8⟩, Or.inl ⟨rfl, f, y, g1, g2, g5.2.1, g5.2.2, g9.1, g9.2⟩⟩
      rw [e1, g3, b_some]
      obtain ⟨f', rfl⟩ : ∃ f, F = f + 1 := ⟨F - 1, by omega⟩
      show FX6_read_34_1_b50 _ _ _ _ = _
      unfold FX6_read_34_1_b50
      rw [if_pos g5.1, ite_self]
    · obtain ⟨u', x, w', r1, r2, r3, r4, r5⟩ := ih (d - 1) (by have := hZ.1.2 i hi c0; omega) j (L + 1) (t + 1) F (F2 + 1) u1 w1 (by have := hZ.1.2 i hi c0; have := g4.2.1; omega) (by have := hZ.1.2 i hi c0; omega) (by have := hZ.1.2 i hi c0; omega) (by omega) g4 g8 g5 g9 (by omega) g10
      exact ⟨u', x, w', by rw [e1, g2, b_some, r1], by rw [show F2 + 2 = (F2 + 1) + 1 by omega, g6, r2], txR_t g3 r3, myV_t g7 r4, r5⟩
theorem m_puts_85 {w : Mem} {L : Nat} (hL : L ≤ 16) (h15 : w 146 15 = nI L) : ∃ w', FX12_puts_146 85 158 2 w = some (nI L, w') ∧ (∀ c, c ≠ 147 → w' c = w c) ∧ w' 147 85 = nI L ∧ (∀ y, y < 2 * L → w' 147 (158 + y) = w 153 y) ∧ ∀ x, x ≠ 85 → (x < 158 ∨ 158 + 2 * 16 ≤ x) → w' 147 x = w 147 x := by
  have e0 : (wrA w 147 1786 85 (w 146 15)) = some (mupd w 147 85 (nI L)) := by
    rw [h15]; exact w_li (k := 85) (by decide) (by decide)
  unfold FX12_puts_146
  rw [e0, b_some]
  have hh := lp_r (fun F i u => FX12_puts_146_L13 F 158 2 i u) (2 * L) (fun x u => (∀ c, c ≠ 147 → u c = w c) ∧ u 147 85 = nI L ∧ (∀ y, y < x → u 147 (158 + y) = w 153 y) ∧ ∀ x, x ≠ 85 → (x < 158 ∨ 158 + 2 * 16 ≤ x) → u 147 x = w 147 x) (fun o => ∃ w', o = some (nI L, w') ∧ (∀ c, c ≠ 147 → w' c = w c) ∧ w' 147 85 = nI L ∧ (∀ y, y < 2 * L → w' 147 (158 + y) = w 153 y) ∧ ∀ x, x ≠ 85 → (x < 158 ∨ 158 + 2 * 16 ≤ x) → w' 147 x = w 147 x) (fun x u hx h => ?_) (fun u h F => ?_) FU 0 (mupd w 147 85 (nI L)) (by omega) (by show _ < 10000; omega) ⟨fun c hc => m_ne hc, by rw [m_eq, up_eq], fun y hy => by omega, fun x hx _ => by rw [m_eq, up_ne hx]⟩
  · rw [nI_0] at hh; exact hh
  · obtain ⟨a1, a2, a3, a4⟩ := h
    refine Or.inl ⟨mupd u 147 (158 + x) (w 153 x), ⟨fun c hc => by rw [m_ne hc]; exact a1 c hc, by rw [m_eq, up_ne (by omega)]; exact a2, fun y hy => ?_, fun y hy h2 => by rw [m_eq, up_ne (by omega)]; exact a4 y hy h2⟩, fun F => ?_⟩
    · rw [m_eq]
      by_cases e : y = x
      · rw [e, up_eq]
      · rw [up_ne (by omega)]; exact a3 y (by omega)
    · show FX12_puts_146_b13 _ _ _ _ _ = _
      unfold FX12_puts_146_b13
      rw [a1 146 (by decide), h15, li_mul, if_neg (nle (n := 2 * L) hx (by omega)), rb (by omega) (by omega), a1 153 (by decide), wl (by show 158 + x < 1786; omega) (by omega), nI_1]
  · refine ⟨u, ?_, h⟩
    show FX12_puts_146_b13 _ _ _ _ _ = _
    unfold FX12_puts_146_b13
    rw [h.1 146 (by decide), h15, li_mul, if_pos (yle (n := 2 * L) (by omega))]
theorem m_puts_86 {w : Mem} {L : Nat} (hL : L ≤ 16) (h15 : w 146 15 = nI L) : ∃ w', FX12_puts_146 86 190 2 w = some (nI L, w') ∧ (∀ c, c ≠ 147 → w' c = w c) ∧ w' 147 86 = nI L ∧ (∀ y, y < 2 * L → w' 147 (190 + y) = w 153 y) ∧ ∀ x, x ≠ 86 → (x < 190 ∨ 190 + 2 * 16 ≤ x) → w' 147 x = w 147 x := by
  have e0 : (wrA w 147 1786 86 (w 146 15)) = some (mupd w 147 86 (nI L)) := by
    rw [h15]; exact w_li (k := 86) (by decide) (by decide)
  unfold FX12_puts_146
  rw [e0, b_some]
  have hh := lp_r (fun F i u => FX12_puts_146_L13 F 190 2 i u) (2 * L) (fun x u => (∀ c, c ≠ 147 → u c = w c) ∧ u 147 86 = nI L ∧ (∀ y, y < x → u 147 (190 + y) = w 153 y) ∧ ∀ x, x ≠ 86 → (x < 190 ∨ 190 + 2 * 16 ≤ x) → u 147 x = w 147 x) (fun o => ∃ w', o = some (nI L, w') ∧ (∀ c, c ≠ 147 → w' c = w c) ∧ w' 147 86 = nI L ∧ (∀ y, y < 2 * L → w' 147 (190 + y) = w 153 y) ∧ ∀ x, x ≠ 86 → (x < 190 ∨ 190 + 2 * 16 ≤ x) → w' 147 x = w 147 x) (fun x u hx h => ?_) (fun u h F => ?_) FU 0 (mupd w 147 86 (nI L)) (by omega) (by show _ < 10000; omega) ⟨fun c hc => m_ne hc, by rw [m_eq, up_eq], fun y hy => by omega, fun x hx _ => by rw [m_eq, up_ne hx]⟩
  · rw [nI_0] at hh; exact hh
  · obtain ⟨a1, a2, a3, a4⟩ := h
    refine Or.inl ⟨mupd u 147 (190 + x) (w 153 x), ⟨fun c hc => by rw [m_ne hc]; exact a1 c hc, by rw [m_eq, up_ne (by omega)]; exact a2, fun y hy => ?_, fun y hy h2 => by rw [m_eq, up_ne (by omega)]; exact a4 y hy h2⟩, fun F => ?_⟩
    · rw [m_eq]
      by_cases e : y = x
      · rw [e, up_eq]
      · rw [up_ne (by omega)]; exact a3 y (by omega)
    · show FX12_puts_146_b13 _ _ _ _ _ = _
      unfold FX12_puts_146_b13
      rw [a1 146 (by decide), h15, li_mul, if_neg (nle (n := 2 * L) hx (by omega)), rb (by omega) (by omega), a1 153 (by decide), wl (by show 190 + x < 1786; omega) (by omega), nI_1]
  · refine ⟨u, ?_, h⟩
    show FX12_puts_146_b13 _ _ _ _ _ = _
    unfold FX12_puts_146_b13
    rw [h.1 146 (by decide), h15, li_mul, if_pos (yle (n := 2 * L) (by omega))]
theorem m_puts_87 {w : Mem} {L : Nat} (hL : L ≤ 16) (h15 : w 146 15 = nI L) : ∃ w', FX12_puts_146 87 222 3 w = some (nI L, w') ∧ (∀ c, c ≠ 147 → w' c = w c) ∧ w' 147 87 = nI L ∧ (∀ y, y < 3 * L → w' 147 (222 + y) = w 153 y) ∧ ∀ x, x ≠ 87 → (x < 222 ∨ 222 + 3 * 16 ≤ x) → w' 147 x = w 147 x := by
  have e0 : (wrA w 147 1786 87 (w 146 15)) = some (mupd w 147 87 (nI L)) := by
    rw [h15]; exact w_li (k := 87) (by decide) (by decide)
  unfold FX12_puts_146
  rw [e0, b_some]
  have hh := lp_r (fun F i u => FX12_puts_146_L13 F 222 3 i u) (3 * L) (fun x u => (∀ c, c ≠ 147 → u c = w c) ∧ u 147 87 = nI L ∧ (∀ y, y < x → u 147 (222 + y) = w 153 y) ∧ ∀ x, x ≠ 87 → (x < 222 ∨ 222 + 3 * 16 ≤ x) → u 147 x = w 147 x) (fun o => ∃ w', o = some (nI L, w') ∧ (∀ c, c ≠ 147 → w' c = w c) ∧ w' 147 87 = nI L ∧ (∀ y, y < 3 * L → w' 147 (222 + y) = w 153 y) ∧ ∀ x, x ≠ 87 → (x < 222 ∨ 222 + 3 * 16 ≤ x) → w' 147 x = w 147 x) (fun x u hx h => ?_) (fun u h F => ?_) FU 0 (mupd w 147 87 (nI L)) (by omega) (by show _ < 10000; omega) ⟨fun c hc => m_ne hc, by rw [m_eq, up_eq], fun y hy => by omega, fun x hx _ => by rw [m_eq, up_ne hx]⟩
  · rw [nI_0] at hh; exact hh
  · obtain ⟨a1, a2, a3, a4⟩ := h
    refine Or.inl ⟨mupd u 147 (222 + x) (w 153 x), ⟨fun c hc => by rw [m_ne hc]; exact a1 c hc, by rw [m_eq, up_ne (by omega)]; exact a2, fun y hy => ?_, fun y hy h2 => by rw [m_eq, up_ne (by omega)]; exact a4 y hy h2⟩, fun F => ?_⟩
    · rw [m_eq]
      by_cases e : y = x
      · rw [e, up_eq]
      · rw [up_ne (by omega)]; exact a3 y (by omega)
    · show FX12_puts_146_b13 _ _ _ _ _ = _
      unfold FX12_puts_146_b13
      rw [a1 146 (by decide), h15, li_mul, if_neg (nle (n := 3 * L) hx (by omega)), rb (by omega) (by omega), a1 153 (by decide), wl (by show 222 + x < 1786; omega) (by omega), nI_1]
  · refine ⟨u, ?_, h⟩
    show FX12_puts_146_b13 _ _ _ _ _ = _
    unfold FX12_puts_146_b13
    rw [h.1 146 (by decide), h15, li_mul, if_pos (yle (n := 3 * L) (by omega))]
/-- what a text's rows leave alone in the row -/
def lT (W W' : Wt) : Prop := ∀ k, (k < 85 ∨ (87 < k ∧ k < 158) ∨ 270 ≤ k) → W' k = W k
theorem OkT_T {W W' : Wt} (s : lT W W') (h : OkT W) (t1 : W' 85 = nI (nt (W' 85)) ∧ nt (W' 85) ≤ 16) (t2 : W' 86 = nI (nt (W' 86)) ∧ nt (W' 86) ≤ 16) (t3 : W' 87 = nI (nt (W' 87)) ∧ nt (W' 87) ≤ 16) (t4 : ∀ i, i < nt (W' 85) → ∃ k j, k < nmen W ∧ j < 2 ^ nmen W ∧ W' (158 + 2 * i) = nI k ∧ W' (158 + 2 * i + 1) = nI j) (t5 : ∀ i, i < nt (W' 86) → ∃ k j, k < 8 ∧ j ≤ 99 ∧ W' (190 + 2 * i) = nI k ∧ W' (190 + 2 * i + 1) = nI j) : OkT W' := by
  have hn : nmen W' = nmen W := by unfold nmen; rw [s 78 (by omega)]
  have e88 := s 88 (by omega)
  refine ⟨by rw [s 78 (by omega), hn]; exact OkT_n h, fun m hm => by rw [s _ (by omega)]; exact OkT_co h m hm, fun m hm => by rw [s _ (by omega)]; exact OkT_ag h m hm, fun m hm => by rw [s _ (by omega), hn]; exact OkT_le h m hm, by rw [s _ (by omega)]; exact OkT_keep h, by rw [s _ (by omega)]; exact OkT_rain h, by rw [s _ (by omega)]; exact OkT_tea h, fun c hc => by rw [s _ (by omega)]; exact OkT_wa h c hc, fun c hc => by rw [s _ (by omega)]; exact OkT_hi h c hc, t1, t2, t3, by rw [e88]; exact OkT_sn h, by rw [hn]; exact t4, t5, fun i hi => ?_⟩
  rw [e88] at hi
  have := (OkT_sn h).2
  rw [s _ (by omega)]
  exact OkT_sg h i hi
theorem TR_T {u u' : Mem} {W W' : Wt} (s : lT W W') (hO : OkT W) (h : TR 1 u W) (c1 : ∀ x, x ≠ 11 → x ≠ 12 → u' 1 x = u 1 x) (cc : ∀ c, c = 2 ∨ c = 3 ∨ c = 4 ∨ c = 6 ∨ (19 ≤ c ∧ c ≤ 22) → u' c = u c) (t1 : u' 1 11 = W' 85) (t2 : u' 1 12 = W' 86) (t3 : ∀ m, m < 12 → u' 5 m = sTold W' (nI m)) (t4 : ∀ f, f < 8 → u' 7 f = sWt1 W' (nI f)) (t5 : u' 15 3 = W' 87) (t6 : ∀ i, i < nt (W' 87) → u' 16 i = W' (222 + 3 * i)) (t7 : ∀ i, i < nt (W' 87) → u' 17 i = W' (222 + 3 * i + 2)) (t8 : ∀ i, i < nt (W' 87) → u' 18 i = if W' (222 + 3 * i + 1) = 11 then 1 else 0) : TR 1 u' W' := by
  have l := (OkT_sn hO).2
  have e88 := s 88 (by omega)
  have hh : sHills W' = sHills W := fo_n rfl (fun i z hi => by rw [s _ (by omega)])
  exact ⟨by rw [c1 0 (by decide) (by decide), s _ (by omega)]; exact TR_men h, by rw [c1 7 (by decide) (by decide), s _ (by omega)]; exact TR_keep h, by rw [c1 8 (by decide) (by decide), s _ (by omega)]; exact TR_rain h, by rw [c1 9 (by decide) (by decide), s _ (by omega)]; exact TR_tea h, by rw [c1 10 (by decide) (by decide), hh]; exact TR_hi h, t1, t2, fun m hm => by rw [cc (1 + 1) (by omega), s _ (by omega)]; exact TR_co h m hm, fun m hm => by rw [cc (1 + 2) (by omega), s _ (by omega)]; exact TR_ag h m hm, fun m hm => by rw [cc (1 + 3) (by omega), s _ (by omega)]; exact TR_le h m hm, t3, fun c hc => by rw [cc (1 + 5) (by omega), s _ (by omega)]; exact TR_wa h c hc, t4, t5, t6, t7, t8, by rw [cc (1 + 18) (by omega), e88]; exact TR_sl h, fun i hi => by rw [e88] at hi; rw [cc (1 + 19) (by omega), s _ (by omega)]; exact TR_sd h i hi, fun i hi => by rw [e88] at hi; rw [cc (1 + 20) (by omega), s _ (by omega)]; exact TR_sc h i hi, fun i hi => by rw [e88] at hi; rw [cc (1 + 21) (by omega), s _ (by omega)]; exact TR_sg h i hi⟩
/-- what was told stands; what can be undone is a matter of its own -/
theorem SP_T {v v' w w' : Mem} (h : SP v w) (s : lT (w 147) (w' 147)) (hO : OkT (w' 147)) (hTR : TR 1 v' (w' 147)) (hc : ∀ c, (7 < c ∧ c < 15) ∨ (18 < c ∧ c < 34) ∨ c = 0 ∨ 51 < c → v' c = v c) (h12 : v' 34 12 = 0) (hw : ∀ c, c = 148 ∨ c = 149 → w' c = w c) (h5 : w' 146 5 = w 146 5) (h16 : w' 146 16 = 0) (h13 : v' 34 13 = w' 146 23) (h14 : v' 34 14 = w' 146 25) : SQ v' w' ∧ (w' 146 4 = w 146 4 → SP v' w') := by
  obtain ⟨a, b, c, d, f, g⟩ := h
  obtain ⟨⟨b1, b2, b3⟩, b4, b5, b6⟩ := b
  have sl : sL (w 147) (w' 147) := ⟨s 84 (by omega), fun k hk => s k (by omega)⟩
  have p1 : WO (w' 147) := ⟨hO, OkD_cg (fun k hk => s k (by omega)) a.2.1, LW_L sl a.2.2⟩
  have p2 : XD v' (w' 147) := ⟨⟨hTR, LC_L sl (LC_cg b2 (fun j hj => hc _ (by omega))), BR_W (fun k hk => s k (by omega)) (BR_cg b3 (fun j hj => hc _ (by omega)))⟩, fun i hi => by rw [hc 31 (by omega), s _ (by omega)]; exact b4 i hi, by rw [hc 32 (by omega)]; exact b5, by rw [hc 32 (by omega)]; exact b6⟩
  have p3 : v' 104 3 = 0 := by rw [hc 104 (by omega)]; exact c
  have p5 : IMG v' (w' 148) (w' 146) := by
    rw [hw 148 (by omega)]
    exact IMG_M h5 (IMG_cg (fun c hc' => hc c (by omega)) f)
  have p6 : RD v' (w' 146) (w' 154) := ⟨0, by omega, by rw [h12]; exact nI_0.symm, by rw [h16]; exact nI_0.symm, fun i hi => by omega, h13, h14⟩
  refine ⟨⟨p1, p2, p3, ?_, p5, p6⟩, fun h4 => ⟨p1, p2, p3, ?_, p5, p6⟩⟩
  · obtain ⟨n, x, _, x2, _, x4, -⟩ := d
    exact ⟨x, x2, by rw [hc 52 (by omega)]; exact x4⟩
  · rw [hw 149 (by omega)]
    exact UN_M h4 (UN_W (s 78 (by omega)) (UN_cg (fun c hc' => hc c (by omega)) d))

