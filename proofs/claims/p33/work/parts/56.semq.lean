/-! questions that are read off -/
theorem ex_ite {c : Prop} [Decidable c] {a b : Option Int32} (h1 : ∃ r, a = some r) (h2 : ∃ r, b = some r) : ∃ r, (if c then a else b) = some r := by
  by_cases h : c
  · rw [if_pos h]; exact h1
  · rw [if_neg h]; exact h2
def Z2 (a c : Option (Int32 × Mem)) : Prop := ∃ r v' w', a = some (r, v') ∧ c = some (r, w') ∧ SP v' w'
theorem Z2_ite {P : Prop} [Decidable P] {a b c d : Option (Int32 × Mem)} (h1 : P → Z2 a c) (h2 : ¬ P → Z2 b d) : Z2 (if P then a else b) (if P then c else d) := by
  by_cases h : P
  · rw [if_pos h, if_pos h]; exact h1 h
  · rw [if_neg h, if_neg h]; exact h2 h
theorem Z2_m {r : Int32} {v w : Mem} (h : SP v w) : Z2 (some (r, v)) (some (r, w)) := ⟨r, v, w, rfl, rfl, h⟩
theorem m_hills {u : Mem} {W : Wt} (hu : u 147 = W) : FX12_hills_146 u = some (sHills W) := by
  refine lp_v (fun F i s => FX12_hills_146_L4 F s i u) 16 (fun i => fo i (fun c s => s ||| (W (126 + c) <<< (nI c &&& 31))) 0) _ (fun i F hi => ?_) (fun F => ?_) FU (by decide)
  · show FX12_hills_146_b4 _ _ _ _ = _
    unfold FX12_hills_146_b4
    rw [if_neg (by rw [li_le (by decide) (by omega)]; show ¬ 16 ≤ i; omega), rl (by show 126 + i < _; omega) (by omega), hu, fo_s, nI_1]
  · show FX12_hills_146_b4 _ _ _ _ = _
    unfold FX12_hills_146_b4
    rw [if_pos (by decide)]
    rfl
theorem A_look (p : Int32) : A1 (FX11_look_0 p) (FX12_look_146 p) := by
  intro v w h
  obtain ⟨a, b, c, ⟨n, x, _, _, u1, _, u3, -⟩, f, g⟩ := h
  have e : FX11_look_0 p v = FX12_look_146 p w := by
    unfold FX11_look_0 FX12_look_146
    rw [m_hills rfl, b_some, gmen b.1, gday_23 b.1, gwar_23 b.1, gkeep b.1, TR_rain b.1.1, gtea b.1, ghi b.1, gln_23 b.1, gdr_23 b.1, b.1.2.1.1, TR_tl b.1.1, TR_wl b.1.1, show v 15 3 = _ from TR_ol b.1.1, show v 19 3 = _ from TR_sl b.1.1, u1, u3]
  have e2 : ∃ r, FX12_look_146 p w = some r := by
    unfold FX12_look_146
    rw [m_hills rfl, b_some]
    repeat (first | exact ⟨_, rfl⟩ | refine ex_ite ⟨_, rfl⟩ ?_)
  obtain ⟨r, hr⟩ := e2
  exact ⟨r, e.trans hr, hr⟩
theorem c_fa (p : Int32) : FX11_isFact p = some (if 0 ≤ p ∧ p ≤ 7 then 1 else 0) := by
  unfold FX11_isFact
  by_cases c : p < 0
  · rw [if_pos c, if_neg (fun h => absurd c (by rw [Int32.not_lt]; exact h.1))]
  · rw [if_neg c]
    obtain ⟨j, hj, rfl⟩ := nI_of c
    by_cases c2 : j < 8
    · rw [if_neg (by rw [li_le (by decide) (by omega)]; show ¬ 8 ≤ j; omega), if_pos ⟨nI_pos' (by omega), by rw [le_li (by decide) (by omega)]; show j ≤ 7; omega⟩]
    · rw [if_pos (by rw [li_le (by decide) (by omega)]; show 8 ≤ j; omega), if_neg (fun h => by have h2 := h.2; rw [le_li (by decide) (by omega)] at h2; have : j ≤ 7 := h2; omega)]
theorem in7 {p : Int32} : (0 ≤ p ∧ p ≤ 7) = (∃ j, j ≤ 7 ∧ p = nI j) := in_n (n := 7) (by decide)
theorem A_weight (p : Int32) : A1 (FX11_weight_0 p) (FX12_weight_146 p) := by
  intro v w h
  obtain ⟨a, b, -⟩ := h
  unfold FX11_weight_0 FX12_weight_146
  rw [c_fa, m_in, b_some, b_some]
  by_cases c : 0 ≤ p ∧ p ≤ 7
  · rw [if_pos c, if_neg z1, if_neg z1]
    rw [in7] at c
    obtain ⟨j, hj, rfl⟩ := c
    rw [rb (show j < 8 by omega) (by omega), gwe b.1 (by omega), m_wt1 rfl a.1, b_some]
    exact ⟨_, rfl, rfl⟩
  · rw [if_neg c, if_pos rfl, if_pos rfl]
    exact ⟨_, rfl, rfl⟩
theorem co_n {p : Int32} (h : p = 0 ∨ p = 1) : ∃ c, c < 2 ∧ p = nI c := by
  rcases h with rfl | rfl
  · exact ⟨0, by omega, rfl⟩
  · exact ⟨1, by omega, rfl⟩
theorem A_country (p q : Int32) : A1 (FX11_country_0 p q) (FX12_country_146 p q) := by
  intro v w h
  obtain ⟨a, b, -⟩ := h
  unfold FX11_country_0 FX12_country_146
  rw [c_co, m_co, b_some, b_some]
  by_cases c : p = 0 ∨ p = 1
  · rw [if_pos c, if_neg z1, if_neg z1]
    obtain ⟨i, hi, rfl⟩ := co_n c
    rw [c_inF_32 b.1 a.1, c_known_32 b.1 a.1, gday_23 b.1, c_rest b.1.1 a.1, rb hi (by omega), gwa b.1 hi, m_inF rfl a.1, m_known rfl a.1, m_rest rfl a.1, rl (by show 82 + i < _; omega) (by omega)]
    simp only [b_some]
    rw [c_wOf b.1, m_wt rfl a.1]
    simp only [b_some]
    repeat' split
    all_goals exact ⟨_, rfl, rfl⟩
  · rw [if_neg c, if_pos rfl, if_pos rfl]
    exact ⟨_, rfl, rfl⟩
theorem A_book (p q : Int32) : A1 (FX11_book_0 p q) (FX12_book_146 p q) := by
  intro v w h
  obtain ⟨a, b, -⟩ := h
  obtain ⟨L, hL, eL⟩ := OkD_ln a.2.1
  unfold FX11_book_0 FX11_book_0_b29 FX12_book_146
  rw [gln_23 b.1, eL, m_in, m_in, b_some]
  by_cases c : ((∃ i, i < L ∧ p = nI i) ∧ ∃ k, k < 4 ∧ q = nI k)
  · obtain ⟨⟨i, hi, rfl⟩, k, hk, rfl⟩ := c
    rw [if_neg (nI_pos (by omega)), if_neg (nle hi (by omega)), if_neg (nI_pos (by omega)), if_neg (by rw [li_le (by decide) (by omega)]; show ¬ 4 ≤ k; omega), if_neg z1]
    have e1 : nI L - 1 = nI (L - 1) := nI_sub (b := 1) (by omega)
    have q1 : 0 ≤ nI i ∧ nI i ≤ nI (L - 1) := ⟨nI_pos' (by omega), by rw [nn_le (by omega) (by omega)]; omega⟩
    have q2 : 0 ≤ nI k ∧ nI k ≤ 3 := ⟨nI_pos' (by omega), by rw [le_li (by decide) (by omega)]; show k ≤ 3; omega⟩
    rw [e1, if_pos q1, if_neg z1, b_some, if_pos q2, if_neg z1]
    unfold FX1_part_30 FX1_part_30_b25
    have i1 : (nI i * 4) + nI k = nI (4 * i + k) := by rw [show (4 : Int32) = nI 4 by decide, nI_mul, nI_add, Nat.mul_comm]
    have i2 : (300 + (4 * nI i)) + nI k = nI (300 + (4 * i + k)) := by rw [show (4 : Int32) = nI 4 by decide, show (300 : Int32) = nI 300 by decide, nI_mul, nI_add, nI_add, Nat.add_assoc]
    rw [if_neg (nI_pos (by omega)), if_neg (by rw [li_le (by decide) (by omega)]; show ¬ 150 ≤ i; omega), if_neg (nI_pos (by omega)), if_neg (by rw [li_le (by decide) (by omega)]; show ¬ 4 ≤ k; omega), if_neg z1, i1, i2, rb (by omega) (by omega), b_some, rb (by omega) (by omega), b.2.1 _ (by omega)]
    exact ⟨_, rfl, rfl⟩
  · refine ⟨-2, ?_, ?_⟩
    · by_cases c1 : p < 0
      · rw [if_pos c1, if_pos rfl]
      · obtain ⟨i, hi, rfl⟩ := nI_of c1
        rw [if_neg c1]
        by_cases c2 : nI L ≤ nI i
        · rw [if_pos c2, if_pos rfl]
        · rw [if_neg c2]
          rw [nn_le (by omega) (by omega)] at c2
          by_cases c3 : q < 0
          · rw [if_pos c3, if_pos rfl]
          · obtain ⟨k, hk, rfl⟩ := nI_of c3
            rw [if_neg c3]
            by_cases c4 : 4 ≤ nI k
            · rw [if_pos c4, if_pos rfl]
            · rw [li_le (by decide) (by omega)] at c4
              have c4 : ¬ 4 ≤ k := c4
              exact absurd ⟨⟨i, by omega, rfl⟩, k, by omega, rfl⟩ c
    · by_cases c1 : 0 ≤ p ∧ p ≤ nI L - 1
      · rw [if_pos c1, if_neg z1, b_some]
        by_cases c2 : 0 ≤ q ∧ q ≤ 3
        · exfalso
          obtain ⟨i, hi, rfl⟩ := nI_of (x := p) (by rw [Int32.not_lt]; exact c1.1)
          have e2 : (0 ≤ q ∧ q ≤ nI 3) = _ := in_n (n := 3) (by decide)
          rw [show (3 : Int32) = nI 3 by decide, e2] at c2
          obtain ⟨k, hk, rfl⟩ := c2
          have c12 := c1.2
          by_cases z : L = 0
          · rw [z, show nI 0 - 1 = -1 by decide, Int32.le_iff_toInt_le, nI_toInt hi] at c12
            have h2 : (-1 : Int32).toInt = -1 := by decide
            omega
          · rw [show nI L - 1 = nI (L - 1) from nI_sub (b := 1) (by omega), nn_le hi (by omega)] at c12
            exact c ⟨⟨i, by omega, rfl⟩, k, by omega, rfl⟩
        · rw [if_neg c2, if_pos rfl]
      · rw [if_neg c1, if_pos rfl]
/-! what a change of the model's own numbers leaves -/
theorem SP_m {v w w' : Mem} (e7 : w' 147 = w 147) (e8 : w' 148 = w 148) (e9 : w' 149 = w 149) (e4 : w' 154 = w 154) (e6 : ∀ k, k = 4 ∨ k = 5 ∨ k = 16 ∨ k = 23 ∨ k = 25 → w' 146 k = w 146 k) (h : SP v w) : SP v w' := by
  obtain ⟨a, b, c, d, f, g⟩ := h
  unfold SP
  rw [e7, e8, e9, e4]
  exact ⟨a, b, c, UN_M (e6 4 (by omega)) d, IMG_M (e6 5 (by omega)) f, RD_M (e6 16 (by omega)) (e6 23 (by omega)) (e6 25 (by omega)) g⟩
theorem SP_v {v v' w : Mem} (e : ∀ c, (c ≤ 13 ∨ (15 ≤ c ∧ c ≤ 32) ∨ c = 34 ∨ c = 35 ∨ c = 52 ∨ (54 ≤ c ∧ c ≤ 95) ∨ c = 104 ∨ (115 ≤ c ∧ c ≤ 145)) → v' c = v c) (h : SP v w) : SP v' w := by
  obtain ⟨a, b, c, d, f, g⟩ := h
  exact ⟨a, XD_cg (fun c hc => e c (by omega)) b, by rw [e 104 (by omega)]; exact c, UN_cg (fun c hc => e c (by omega)) d, IMG_cg (fun c hc => e c (by omega)) f, RD_cg (e 34 (by omega)) (e 35 (by omega)) g⟩
theorem SP_27 {v w : Mem} (x : Int32) (h : SP v w) : SP v (mupd w 146 27 x) :=
  SP_m (m_ne (by decide)) (m_ne (by decide)) (m_ne (by decide)) (m_ne (by decide)) (fun k hk => by rw [m_eq, up_ne (by omega)]) h
theorem SP_sv {v v' w : Mem} (s : FrL [14, 33] v v') (h : SP v w) : SP v' w := SP_v (fun c hc => s c (by simp; omega)) h
theorem SP_sm {v w w' : Mem} (s : FrL [155, 156] w w') (h : SP v w) : SP v w' := SP_m (s 147 (by decide)) (s 148 (by decide)) (s 149 (by decide)) (s 154 (by decide)) (fun k _ => by rw [s 146 (by decide)]) h
theorem A_of (p q : Int32) : A2 (FX11_of_0 p q) (FX12_of_146 p q) := by
  intro v w h
  obtain ⟨a, b, -⟩ := id h
  unfold FX11_of_0 FX12_of_146
  by_cases c : ∃ m, m < nmen (w 147) ∧ p = nI m
  · obtain ⟨m, hm, rfl⟩ := c
    obtain ⟨hn, hn12⟩ := OkT_n a.1
    have hm12 : m < 12 := by omega
    rw [c_has (gmen b.1) a.1 hm, m_isMan rfl a.1 hm, b_some, b_some, if_neg z1, if_neg z1, b_some]
    have h2 := SP_27 0 h
    have ew : (mupd w 146 27 0) 147 = w 147 := m_ne (by decide)
    have e27 : (mupd w 146 27 0) 146 27 = 0 := by rw [m_eq, up_eq]
    obtain ⟨v0, g0⟩ := c_asked_32 b.1 a hm (w := 0) (by omega)
    obtain ⟨v1, g1⟩ := c_asked_32 b.1 a hm (w := 1) (by omega)
    obtain ⟨v2, g2⟩ := c_asked_32 b.1 a hm (w := 2) (by omega)
    obtain ⟨v3, g3⟩ := c_asked_32 b.1 a hm (w := 3) (by omega)
    obtain ⟨w0, k0⟩ := m_call ew a hm12
    obtain ⟨w1, k1⟩ := m_step ew a hm12
    obtain ⟨w2, k2⟩ := m_nap ew a hm12
    obtain ⟨w3, k3⟩ := m_fade ew a hm12
    have ed : dCall 0 (w 147) m = dAsk (w 147) 0 m := by
      obtain ⟨j, hj, ej⟩ := OkT_ag a.1 m hm12
      unfold dCall
      rw [ej, if_pos (nI_pos' (by omega))]
    rw [e27, ed] at k0
    rw [rb hm12 (by omega), rb hm12 (by omega), rb hm12 (by omega), rb hm12 (by omega), rb hm12 (by omega), rb hm12 (by omega), rb hm12 (by omega), rb hm12 (by omega), rb hm12 (by omega), rb hm12 (by omega), gco b.1 hm12, gag b.1 hm12, gle b.1 hm12, gbr_23 b.1 hm12, gkn_23 b.1 hm12, gcn_23 b.1 hm12, gwh_23 b.1 hm12, gce_23 b.1 hm12, gte b.1 hm12]
    rw [rl (by show 90 + m < _; omega) (by omega), rl (by show 102 + m < _; omega) (by omega), rl (by show 114 + m < _; omega) (by omega), rl (by show 4 + m < _; omega) (by omega), rl (by show 16 + m < _; omega) (by omega), rl (by show 28 + m < _; omega) (by omega), rl (by show 40 + m < _; omega) (by omega), rl (by show 40 + m < _; omega) (by omega), rl (by show 52 + m < _; omega) (by omega), ew, m_told ew a.1]
    rw [nI_0] at g0
    rw [show nI 1 = 1 by decide] at g1
    rw [show nI 2 = 2 by decide] at g2
    rw [show nI 3 = 3 by decide] at g3
    rw [g0, g1, g2, g3, k0, k1, k2, k3, b2_some, b2_some, b2_some, b2_some, b2_some, b2_some, b2_some, b2_some, b_some]
    have hs0 := SP_sm (frX12_callOf_146 _ _ k0) (SP_sv (frX3_asked_32 _ _ _ g0) h2)
    have hs1 := SP_sm (frX12_stepOf_146 _ _ k1) (SP_sv (frX3_asked_32 _ _ _ g1) h2)
    have hs2 := SP_sm (frX12_napOf_146 _ _ k2) (SP_sv (frX3_asked_32 _ _ _ g2) h2)
    have hs3 := SP_sm (frX12_fadeOf_146 _ _ k3) (SP_sv (frX3_asked_32 _ _ _ g3) h2)
    show Z2 _ _
    refine Z2_ite (fun _ => Z2_m h2) (fun _ => Z2_ite (fun _ => Z2_m h2) (fun _ => Z2_ite (fun _ => Z2_m h2) (fun _ => Z2_ite (fun _ => Z2_m h2) (fun _ => Z2_ite (fun _ => Z2_m h2) (fun _ => Z2_ite (fun _ => Z2_m h2) (fun _ => Z2_ite (fun _ => Z2_m h2) (fun _ => Z2_ite (fun _ => ?_) (fun _ => Z2_ite (fun _ => Z2_m h2) (fun _ => Z2_ite (fun _ => Z2_m h2) (fun _ => Z2_ite (fun _ => Z2_m hs0) (fun _ => Z2_ite (fun _ => Z2_m hs1) (fun _ => Z2_ite (fun _ => Z2_m hs2) (fun _ => Z2_ite (fun _ => Z2_m hs3) (fun _ => Z2_m h2))))))))))))))
    exact Z2_ite (fun _ => Z2_m h2) (fun _ => Z2_m h2)
  · rw [c_hasN (gmen b.1) a.1 c, m_isManN rfl a.1 c, b_some, b_some, if_pos rfl, if_pos rfl]
    exact ⟨-2, v, w, rfl, rfl, h⟩

