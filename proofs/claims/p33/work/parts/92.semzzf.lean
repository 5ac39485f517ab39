/-! a text begins -/
def l9 (W W' : Wt) : Prop := ∀ k, k < 900 → k ≠ 84 → W' k = W k
theorem OkT_l9 {W W' : Wt} (s : l9 W W') (h : OkT W) : OkT W' := by
  have hn : nmen W' = nmen W := by unfold nmen; rw [s 78 (by omega) (by omega)]
  have e78 := s 78 (by omega) (by omega)
  have e85 := s 85 (by omega) (by omega)
  have e86 := s 86 (by omega) (by omega)
  have e87 := s 87 (by omega) (by omega)
  have e88 := s 88 (by omega) (by omega)
  refine ⟨by rw [e78, hn]; exact OkT_n h, fun m hm => by rw [s _ (by omega) (by omega)]; exact OkT_co h m hm, fun m hm => by rw [s _ (by omega) (by omega)]; exact OkT_ag h m hm, fun m hm => by rw [s _ (by omega) (by omega), hn]; exact OkT_le h m hm, by rw [s _ (by omega) (by omega)]; exact OkT_keep h, by rw [s _ (by omega) (by omega)]; exact OkT_rain h, by rw [s _ (by omega) (by omega)]; exact OkT_tea h, fun c hc => by rw [s _ (by omega) (by omega)]; exact OkT_wa h c hc, fun c hc => by rw [s _ (by omega) (by omega)]; exact OkT_hi h c hc, by rw [e85]; exact OkT_tn h, by rw [e86]; exact OkT_wn h, by rw [e87]; exact OkT_on h, by rw [e88]; exact OkT_sn h, fun i hi => ?_, fun i hi => ?_, fun i hi => ?_⟩
  · rw [e85] at hi
    have := (OkT_tn h).2
    rw [s _ (by omega) (by omega), s _ (by omega) (by omega), hn]
    exact OkT_te h i hi
  · rw [e86] at hi
    have := (OkT_wn h).2
    rw [s _ (by omega) (by omega), s _ (by omega) (by omega)]
    exact OkT_we h i hi
  · rw [e88] at hi
    have := (OkT_sn h).2
    rw [s _ (by omega) (by omega)]
    exact OkT_sg h i hi
theorem sTold_l9 {W W' : Wt} (s : l9 W W') (h : OkT W) (m : Int32) : sTold W' m = sTold W m := by
  have := (OkT_tn h).2
  refine fo_n (by rw [s 85 (by omega) (by omega)]) (fun i z hi => ?_)
  rw [s _ (by omega) (by omega), s _ (by omega) (by omega)]
theorem sWt1_l9 {W W' : Wt} (s : l9 W W') (h : OkT W) (m : Int32) : sWt1 W' m = sWt1 W m := by
  have := (OkT_wn h).2
  refine fo_n (by rw [s 86 (by omega) (by omega)]) (fun i z hi => ?_)
  rw [s _ (by omega) (by omega), s _ (by omega) (by omega)]
theorem sHills_l9 {W W' : Wt} (s : l9 W W') : sHills W' = sHills W := by
  refine fo_n rfl (fun i z hi => ?_)
  rw [s _ (by omega) (by omega)]
theorem TR_l9 {t : Nat} {u : Mem} {W W' : Wt} (s : l9 W W') (h : OkT W) (hT : TR t u W) : TR t u W' := by
  have e87 := s 87 (by omega) (by omega)
  have e88 := s 88 (by omega) (by omega)
  have o := (OkT_on h).2
  have l := (OkT_sn h).2
  refine ⟨by rw [s _ (by omega) (by omega)]; exact TR_men hT, by rw [s _ (by omega) (by omega)]; exact TR_keep hT, by rw [s _ (by omega) (by omega)]; exact TR_rain hT, by rw [s _ (by omega) (by omega)]; exact TR_tea hT, by rw [sHills_l9 s]; exact TR_hi hT, by rw [s _ (by omega) (by omega)]; exact TR_tl hT, by rw [s _ (by omega) (by omega)]; exact TR_wl hT, fun m hm => by rw [s _ (by omega) (by omega)]; exact TR_co hT m hm, fun m hm => by rw [s _ (by omega) (by omega)]; exact TR_ag hT m hm, fun m hm => by rw [s _ (by omega) (by omega)]; exact TR_le hT m hm, fun m hm => by rw [sTold_l9 s h]; exact TR_te hT m hm, fun c hc => by rw [s _ (by omega) (by omega)]; exact TR_wa hT c hc, fun f hf => by rw [sWt1_l9 s h]; exact TR_we hT f hf, by rw [e87]; exact TR_ol hT, fun i hi => ?_, fun i hi => ?_, fun i hi => ?_, by rw [e88]; exact TR_sl hT, fun i hi => ?_, fun i hi => ?_, fun i hi => ?_⟩
  · rw [e87] at hi; rw [s _ (by omega) (by omega)]; exact TR_od hT i hi
  · rw [e87] at hi; rw [s _ (by omega) (by omega)]; exact TR_oc hT i hi
  · rw [e87] at hi; rw [s _ (by omega) (by omega)]; exact TR_or hT i hi
  · rw [e88] at hi; rw [s _ (by omega) (by omega)]; exact TR_sd hT i hi
  · rw [e88] at hi; rw [s _ (by omega) (by omega)]; exact TR_sc hT i hi
  · rw [e88] at hi; rw [s _ (by omega) (by omega)]; exact TR_sg hT i hi
theorem fill50 (v : Mem) : ∃ v', FJ7_fill_53178_50 0 v = some v' ∧ (∀ i, i < 12 → v' 50 i = 0) ∧ ∀ x, x ≠ 50 → v' x = v x := by
  have hh := lp_r (fun F i u => FJ7_fill_53178_50_L5 F 0 i 12 u) 12 (fun i u => (∀ k, k < i → u 50 k = 0) ∧ ∀ x, x ≠ 50 → u x = v x) (fun o => ∃ v', o = some v' ∧ (∀ i, i < 12 → v' 50 i = 0) ∧ ∀ x, x ≠ 50 → v' x = v x) (fun i u hi h => Or.inl ⟨mupd u 50 i 0, ⟨fun k hk => by
    rw [m_eq]
    by_cases e : k = i
    · rw [e, up_eq]
    · rw [up_ne e]; exact h.1 k (by omega), fun x hx => by rw [m_ne hx]; exact h.2 x hx⟩, fun F => by
    show FJ7_fill_53178_50_b5 _ _ _ _ _ = _
    unfold FJ7_fill_53178_50_b5
    rw [if_neg (by rw [li_le (by decide) (by omega)]; show ¬ 12 ≤ i; omega), wb (by omega) (by omega), nI_1]⟩) (fun u h F => by
    refine ⟨u, ?_, h⟩
    show FJ7_fill_53178_50_b5 _ _ _ _ _ = _
    unfold FJ7_fill_53178_50_b5
    rw [if_pos (by decide)]) FU 0 v (by omega) (by decide) ⟨fun k hk => by omega, fun x hx => rfl⟩
  rw [nI_0] at hh; exact hh
theorem fill51 (v : Mem) : ∃ v', FJ7_fill_53178_51 1 v = some v' ∧ (∀ i, i < 8 → v' 51 i = 1) ∧ ∀ x, x ≠ 51 → v' x = v x := by
  have hh := lp_r (fun F i u => FJ7_fill_53178_51_L5 F 1 i 8 u) 8 (fun i u => (∀ k, k < i → u 51 k = 1) ∧ ∀ x, x ≠ 51 → u x = v x) (fun o => ∃ v', o = some v' ∧ (∀ i, i < 8 → v' 51 i = 1) ∧ ∀ x, x ≠ 51 → v' x = v x) (fun i u hi h => Or.inl ⟨mupd u 51 i 1, ⟨fun k hk => by
    rw [m_eq]
    by_cases e : k = i
    · rw [e, up_eq]
    · rw [up_ne e]; exact h.1 k (by omega), fun x hx => by rw [m_ne hx]; exact h.2 x hx⟩, fun F => by
    show FJ7_fill_53178_51_b5 _ _ _ _ _ = _
    unfold FJ7_fill_53178_51_b5
    rw [if_neg (by rw [li_le (by decide) (by omega)]; show ¬ 8 ≤ i; omega), wb (by omega) (by omega), nI_1]⟩) (fun u h F => by
    refine ⟨u, ?_, h⟩
    show FJ7_fill_53178_51_b5 _ _ _ _ _ = _
    unfold FJ7_fill_53178_51_b5
    rw [if_pos (by decide)]) FU 0 v (by omega) (by decide) ⟨fun k hk => by omega, fun x hx => rfl⟩
  rw [nI_0] at hh; exact hh
/-- the class stands at the first token of a text -/
def txB (k : Nat) (b : Nat → Nat) (n : Nat) (v0 : Int32) (N : Nat) (v u : Mem) : Prop := txA (kk k b n) (vv b n v0) (qs b n) N 0 u ∧ u 34 11 = 0 ∧ u 34 12 = 0 ∧ u 39 6 = 0 ∧ u 39 7 = 0 ∧ u 46 3 = 0 ∧ (∀ i, i < 12 → u 50 i = 0) ∧ (∀ i, i < 8 → u 51 i = 1) ∧ ∀ c, c < 34 ∨ c = 35 ∨ 51 < c → u c = v c
theorem kk_K {k : Nat} (hk : k < 4) {b : Nat → Nat} {n N : Nat} {v0 : Int32} (hn : n ≤ 400) (hN : N ≤ n) (hq : qs b n N = n) (hlt : ∀ j, j < N → qs b n j < n) : pxZ (kk k b n) (vv b n v0) N := by
  refine ⟨⟨by omega, fun x hx h0 => ?_⟩, fun i h => ?_, fun x => ?_⟩
  · rcases Nat.lt_or_ge x N with h | h
    · exact h
    · rw [show x = N by omega] at h0
      exact absurd (kk_0.mpr hq) h0
  · rw [(vv_le h).2]
    have := vl_le b n (qs b n i); omega
  · have := vk_lt hk (kk_v k b n x); omega
theorem kk_Y {b : Nat → Nat} {n N : Nat} {v0 : Int32} (hn : n ≤ 400) (hN : N ≤ n) (hq : qs b n N = n) (hlt : ∀ j, j < N → qs b n j < n) : myZ b n v0 N := by
  refine ⟨(kk_K (v0 := v0) (show 0 < 4 by decide) hn hN hq hlt).1, fun i h => ?_⟩
  obtain ⟨h1, h2⟩ := vv_le (v0 := v0) h
  refine ⟨?_, by rw [h1, h2]⟩
  rw [h2]; exact vl_le b n (qs b n i)
theorem c_begin {k : Nat} (hk : k < 4) {b : Nat → Nat} {n : Nat} {v0 : Int32} {v : Mem} (hT : TP b n (v 35)) (hn : v 34 12 = nI n) : ∃ u N, FX6_read_34_1 (nI k) v = FX6_read_34_1_L50 FU (nI k) 0 u ∧ N ≤ n ∧ qs b n N = n ∧ (∀ j, j < N → qs b n j < n) ∧ txB k b n v0 N v u := by
  have hn4 := hT.1
  have hT3 : TP b n ((mupd (mupd (mupd v 34 12 0) 34 13 0) 34 14 (-1)) 35) := by rw [m_ne (by decide), m_ne (by decide), m_ne (by decide)]; exact hT
  obtain ⟨u7, N, e7, ⟨t1, t2, t3, t4, t5⟩, f7, g7⟩ := c_cut hk hT3
  have hTT : txT (kk k b n) (vv b n v0) (qs b n) N u7 := ⟨t4, fun j hj => ⟨(t5 j hj).1, (t5 j hj).2.1, fun h => by rw [(vv_le h).2]; exact (t5 j hj).2.2 h⟩⟩
  have hA7 : txA (kk k b n) (vv b n v0) (qs b n) N 0 (txGo (kk k b n) u7 0) := by
    refine ⟨txT_G hTT (txGo_G _ _ _), Nat.zero_le _, ?_, ?_, ?_⟩
    · unfold txGo; rw [m_eq, up_ne (by decide), m_eq, up_eq]
    · unfold txGo; rw [m_eq, up_eq]
    · exact ⟨by unfold txGo; rw [m_eq, up_ne (by decide), m_eq, up_ne (by decide), g7 13 (by decide), m_eq, up_ne (by decide), m_eq, up_eq], by unfold txGo; rw [m_eq, up_ne (by decide), m_eq, up_ne (by decide), g7 14 (by decide), m_eq, up_eq]⟩
  have eg := c_go (by omega) hTT (Nat.zero_le N)
  rw [nI_0] at eg
  have g12 : (txGo (kk k b n) u7 0) 34 12 = 0 := by
    unfold txGo; rw [m_eq, up_ne (by decide), m_eq, up_ne (by decide), g7 12 (by decide), m_eq, up_ne (by decide), m_eq, up_ne (by decide), m_eq, up_eq]
  have gc : ∀ c, c ≠ 34 → c ≠ 36 → c ≠ 37 → c ≠ 38 → (txGo (kk k b n) u7 0) c = v c := fun c h1 h2 h3 h4 => by
    unfold txGo; rw [m_ne h1, m_ne h1, f7 c h1 h2 h3 h4, m_ne h1, m_ne h1, m_ne h1]
  obtain ⟨ua, ea, fa, xa⟩ := fill50 (mupd (mupd (mupd (mupd (txGo (kk k b n) u7 0) 34 11 0) 39 6 0) 39 7 0) 46 3 0)
  obtain ⟨ub, eb, fb, xb⟩ := fill51 ua
  have ecl : FX6_clear_34 u7 = some ub := by
    unfold FX6_clear_34 FX4_clear_39
    rw [eg, b_some, b_some, b_some, b_some, b_some, b_some, ea, b_some, eb, b_some]
  have oth : ∀ c, c ≠ 50 → c ≠ 51 → ub c = (mupd (mupd (mupd (mupd (txGo (kk k b n) u7 0) 34 11 0) 39 6 0) 39 7 0) 46 3 0) c := fun c h1 h2 => by rw [xb c h2, xa c h1]
  have o34 : ∀ x, x ≠ 11 → ub 34 x = (txGo (kk k b n) u7 0) 34 x := fun x hx => by rw [oth 34 (by decide) (by decide), m_ne (by decide), m_ne (by decide), m_ne (by decide), m_eq, up_ne hx]
  refine ⟨ub, N, ?_, t1, t2, t3, ⟨?_, hA7.2.1, ?_, ?_, ?_⟩, ?_, ?_, ?_, ?_, ?_, ?_, fb, ?_⟩
  · unfold FX6_read_34_1
    rw [b_some, b_some, b_some, if_neg (nI_pos (by omega)), if_pos (by rw [le_li (by decide) (by omega)]; show k ≤ 3; omega), hn, if_neg (by rw [li_lt (by decide) (by omega)]; show ¬ 400 < n; omega), e7, b_some, ecl, b_some]
  · unfold txT
    rw [o34 8 (by decide), oth 36 (by decide) (by decide), oth 37 (by decide) (by decide), oth 38 (by decide) (by decide), m_ne (show 36 ≠ 46 by decide), m_ne (show 36 ≠ 39 by decide), m_ne (show 36 ≠ 39 by decide), m_ne (show 36 ≠ 34 by decide), m_ne (show 37 ≠ 46 by decide), m_ne (show 37 ≠ 39 by decide), m_ne (show 37 ≠ 39 by decide), m_ne (show 37 ≠ 34 by decide), m_ne (show 38 ≠ 46 by decide), m_ne (show 38 ≠ 39 by decide), m_ne (show 38 ≠ 39 by decide), m_ne (show 38 ≠ 34 by decide)]
    exact hA7.1
  · rw [o34 9 (by decide)]; exact hA7.2.2.1
  · rw [o34 10 (by decide)]; exact hA7.2.2.2.1
  · rw [o34 13 (by decide), o34 14 (by decide)]; exact hA7.2.2.2.2
  · rw [oth 34 (by decide) (by decide), m_ne (by decide), m_ne (by decide), m_ne (by decide), m_eq, up_eq]
  · rw [o34 12 (by decide)]; exact g12
  · rw [oth 39 (by decide) (by decide), m_ne (by decide), m_eq, up_ne (by decide), m_eq, up_eq]
  · rw [oth 39 (by decide) (by decide), m_ne (by decide), m_eq, up_eq]
  · rw [oth 46 (by decide) (by decide), m_eq, up_eq]
  · intro i hi
    rw [xb 50 (by decide)]; exact fa i hi
  · intro c hc
    rw [oth c (by omega) (by omega), m_ne (by omega), m_ne (by omega), m_ne (by omega), m_ne (by omega), gc c (by omega) (by omega) (by omega) (by omega)]
/-- the model stands at the first token of a text -/
def myB (k : Nat) (b : Nat → Nat) (n : Nat) (v0 : Int32) (w w1 : Mem) : Prop := myT k b n v0 0 w1 ∧ w1 146 23 = 0 ∧ w1 146 25 = -1 ∧ (∀ c, c ≠ 146 → w1 c = w c) ∧ ∀ j, j < 12 ∨ j = 13 ∨ j = 14 ∨ j = 15 ∨ j = 26 → w1 146 j = w 146 j
theorem m_begin {k : Nat} (hk : k < 4) {b : Nat → Nat} {n : Nat} {w : Mem} (hT : TP b n (w 154)) (hn : w 146 16 = nI n) : ∃ w1, FX12_text_146 (nI k) w = (if nI k = 0 then (bnd2 (FX12_readsLaw_146 w1) fun x13 u14 => FX12_text_146_b60 (nI k) x13 u14) else (bnd2 (FX12_readsRows_146 w1) fun x11 u12 => FX12_text_146_b60 (nI k) x11 u12)) ∧ myB k b n (w 146 20) w w1 := by
  have hn4 := hT.1
  have hS : txS k b n (mupd (mupd (mupd (mupd (mupd w 146 23 0) 146 25 (-1)) 146 21 0) 146 17 0) 146 12 (nI k)) := by
    refine ⟨?_, ?_, by rw [m_eq, up_eq]⟩
    · rw [m_eq, up_ne (by decide), m_eq, up_ne (by decide), m_eq, up_ne (by decide), m_eq, up_ne (by decide), m_eq, up_ne (by decide)]; exact hn
    · rw [m_ne (by decide), m_ne (by decide), m_ne (by decide), m_ne (by decide), m_ne (by decide)]; exact hT
  have h17 : (mupd (mupd (mupd (mupd (mupd w 146 23 0) 146 25 (-1)) 146 21 0) 146 17 0) 146 12 (nI k)) 146 17 = nI 0 := by rw [m_eq, up_ne (by decide), m_eq, up_eq]; exact nI_0.symm
  have h20 : (mupd (mupd (mupd (mupd (mupd w 146 23 0) 146 25 (-1)) 146 21 0) 146 17 0) 146 12 (nI k)) 146 20 = w 146 20 := by rw [m_eq, up_ne (by decide), m_eq, up_ne (by decide), m_eq, up_ne (by decide), m_eq, up_ne (by decide), m_eq, up_ne (by decide)]
  obtain ⟨w1, e1, e2, e3, e4, e5, e6⟩ := m_next hk n 0 FU _ (by omega) (by show _ < 10000; omega) (Nat.zero_le _) hS h17
  refine ⟨w1, ?_, ⟨txS_F hS e2, e3, e4, e5, by rw [e6, h20]; rfl⟩, ?_, ?_, fun c hc => by rw [e2.1 c hc, m_ne hc, m_ne hc, m_ne hc, m_ne hc, m_ne hc], fun j hj => ?_⟩
  · unfold FX12_text_146 FX12_next0_146
    rw [b_some, b_some, m_in, b_some, if_pos (show (0 : Int32) ≤ nI k ∧ nI k ≤ 3 from ⟨nI_0le (by omega), by rw [le_li (by decide) (by omega)]; show k ≤ 3; omega⟩), if_neg z1, b_some, b_some, b_some, e1, b_some]
  · rw [e2.2 23 (by decide) (by decide) (by decide) (by decide), m_eq, up_ne (by decide), m_eq, up_ne (by decide), m_eq, up_ne (by decide), m_eq, up_ne (by decide), m_eq, up_eq]
  · rw [e2.2 25 (by decide) (by decide) (by decide) (by decide), m_eq, up_ne (by decide), m_eq, up_ne (by decide), m_eq, up_ne (by decide), m_eq, up_eq]
  · rw [e2.2 j (by omega) (by omega) (by omega) (by omega), m_eq, up_ne (by omega), m_eq, up_ne (by omega), m_eq, up_ne (by omega), m_eq, up_ne (by omega), m_eq, up_ne (by omega)]

