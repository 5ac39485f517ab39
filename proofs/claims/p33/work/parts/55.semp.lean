/-! the tape -/
theorem A_end (p : Int32) : A2 (FX11_end_0 p) (FX12_end_146 p) := by
  intro v w h
  obtain ⟨a, b, c, d, f, n, h1, h2, h3, h4, h5, h6⟩ := id h
  unfold FX11_end_0 FX12_end_146
  rw [h2, h3, m_in, b_some, b_some, b_some]
  by_cases q : 0 ≤ p ∧ p ≤ nI n
  · rw [if_neg (by rw [Int32.not_lt]; exact q.1), if_pos q.2, if_pos q, if_neg z1]
    rw [in_n (by omega)] at q
    obtain ⟨j, hj, rfl⟩ := q
    refine ⟨1, _, _, rfl, rfl, ?_⟩
    unfold SP
    rw [m_ne (show 147 ≠ 146 by decide), m_ne (show 148 ≠ 146 by decide), m_ne (show 149 ≠ 146 by decide), m_ne (show 154 ≠ 146 by decide), m_eq w]
    refine ⟨a, XD_cg (fun c hc => ?_) b, by rw [m_ne (by decide)]; exact c, UN_M (up_ne (by omega)) (UN_cg (fun c hc => m_ne (by omega)) d), IMG_M (up_ne (by omega)) (IMG_cg (fun c hc => m_ne (by omega)) f), j, by omega, by rw [m_eq, up_eq], by rw [up_eq], fun i hi => by rw [m_ne (by decide)]; exact h4 i (by omega), by rw [m_eq, up_ne (by omega), up_ne (by omega)]; exact h5, by rw [m_eq, up_ne (by omega), up_ne (by omega)]; exact h6⟩
    exact m_ne (by omega)
  · refine ⟨0, v, w, ?_, by rw [if_neg q, if_pos rfl], h⟩
    by_cases q2 : p < 0
    · rw [if_pos q2]
    · rw [if_neg q2, if_neg]
      intro q3
      exact q ⟨by rw [← Int32.not_lt]; exact q2, q3⟩
def bt (x : Int32) (s : Nat) : Int32 := (x >>> nI s) &&& 255
theorem u32c (s : Nat) (h : s < 32) : (nI s).toUInt32 &&& Int32.toUInt32 31 = UInt32.ofNat s := by
  have : ∀ s, s < 32 → (nI s).toUInt32 &&& Int32.toUInt32 31 = UInt32.ofNat s := by decide +kernel
  exact this s h
theorem tb_255 : ∀ i, i < 32 → tb 255 i = decide (i < 8) := by decide +kernel
theorem bt_eq (x : Int32) {s : Nat} (h : s + 8 ≤ 32) : (((x : Int32).toUInt32 >>> ((nI s : Int32).toUInt32 &&& Int32.toUInt32 31)).toInt32) &&& 255 = bt x s := by
  unfold bt
  rw [u32c s (by omega)]
  apply tb_ext
  intro i hi
  rw [tb_and, tb_and, tb_255 i hi]
  by_cases c : i < 8
  · rw [decide_eq_true c, Bool.and_true, Bool.and_true, tb_shr (by omega)]
    unfold tb
    have e : ((x.toUInt32 >>> UInt32.ofNat s).toInt32).toBitVec = x.toBitVec >>> s := by
      have e1 : ((x.toUInt32 >>> UInt32.ofNat s).toInt32).toBitVec = (x.toUInt32 >>> UInt32.ofNat s).toBitVec := rfl
      rw [e1, UInt32.toBitVec_shiftRight]
      have e2 : x.toUInt32.toBitVec = x.toBitVec := rfl
      have e3 : ((UInt32.ofNat s).toBitVec % 32).toNat = s := by
        have : ∀ s, s < 32 → ((UInt32.ofNat s).toBitVec % 32).toNat = s := by decide +kernel
        exact this s (by omega)
      rw [e2]
      show x.toBitVec >>> ((UInt32.ofNat s).toBitVec % 32).toNat = _
      rw [e3]
    rw [e, BitVec.getLsbD_ushiftRight]
  · rw [decide_eq_false c, Bool.and_false, Bool.and_false]
theorem bt_n (x : Int32) (s : Nat) : ∃ b, b < 256 ∧ bt x s = nI b := by
  unfold bt
  refine ⟨((x >>> nI s) &&& 255).toBitVec.toNat, ?_, bv_nI _⟩
  rw [Int32.toBitVec_and, BitVec.toNat_and]
  have := @Nat.and_le_right (x >>> nI s).toBitVec.toNat (255 : Int32).toBitVec.toNat
  have e : (255 : Int32).toBitVec.toNat = 255 := by decide
  omega
/-- the tape so far -/
def TPn (v : Mem) (T : Wt) (n : Nat) : Prop := v 34 12 = nI n ∧ ∀ i, i < n → v 35 i = T i ∧ ∃ b, b < 256 ∧ T i = nI b
def fdA (a b c d e : Int32) (i : Nat) : Int32 := if i < 4 then a else if i < 8 then b else if i < 12 then c else if i < 16 then d else e
def fdB (a b c d e : Int32) (n i : Nat) (T : Wt) : Wt := upd T (n + i) (bt (fdA a b c d e i) (24 - 8 * (i % 4)))
theorem TPn_u {v : Mem} {T : Wt} {n : Nat} {x : Int32} (h : TPn v T n) (hx : ∃ b, b < 256 ∧ x = nI b) : TPn (mupd (mupd v 35 n x) 34 12 (nI (n + 1))) (upd T n x) (n + 1) := by
  refine ⟨by rw [m_eq, up_eq], fun i hi => ?_⟩
  rw [m_ne (by decide), m_eq]
  by_cases c : i = n
  · subst c; rw [up_eq, up_eq]; exact ⟨rfl, hx⟩
  · rw [up_ne c, up_ne c]; exact h.2 i (by omega)
theorem c_add1 {v : Mem} {T : Wt} {n s : Nat} (h : TPn v T n) (hn : n < 400) (hs : s + 8 ≤ 32) (k : Int32 → Int32 → Mem → Option Mem) (x : Int32) : FX6_add_34_b3 k x (nI s) v = k x (nI s + (-8)) (mupd (mupd v 35 n (bt x s)) 34 12 (nI (n + 1))) := by
  unfold FX6_add_34_b3 FX6_add_34_b50
  rw [if_neg (nI_pos (by omega)), h.1, if_neg (nI_pos (by omega)), if_neg (by rw [li_le (by decide) (by omega)]; show ¬ 400 ≤ n; omega), w_ok hn (by omega), b_some, b_some, m_ne (by decide), h.1, bt_eq x hs, nI_1]
theorem c_add {v : Mem} {T : Wt} {n : Nat} (h : TPn v T n) (hn : n + 4 ≤ 400) (x : Int32) : ∃ v', FX6_add_34 x v = some v' ∧ TPn v' (upd (upd (upd (upd T n (bt x 24)) (n + 1) (bt x 16)) (n + 2) (bt x 8)) (n + 3) (bt x 0)) (n + 4) ∧ (∀ k, k ≠ 12 → v' 34 k = v 34 k) := by
  have t1 := TPn_u h (bt_n x 24)
  have t2 := TPn_u t1 (bt_n x 16)
  have t3 := TPn_u t2 (bt_n x 8)
  have t4 := TPn_u t3 (bt_n x 0)
  refine ⟨_, ?_, t4, fun k hk => ?_⟩
  · show FX6_add_34_b3 (FX6_add_34_L3 9999) x (nI 24) v = _
    rw [c_add1 h (by omega) (by omega)]
    show FX6_add_34_b3 (FX6_add_34_L3 9998) x (nI 16) _ = _
    rw [c_add1 t1 (by omega) (by omega)]
    show FX6_add_34_b3 (FX6_add_34_L3 9997) x (nI 8) _ = _
    rw [c_add1 t2 (by omega) (by omega)]
    show FX6_add_34_b3 (FX6_add_34_L3 9996) x (nI 0) _ = _
    rw [c_add1 t3 (by omega) (by omega)]
    show FX6_add_34_b3 (FX6_add_34_L3 9995) x (nI 0 + (-8)) _ = _
    unfold FX6_add_34_b3
    rw [if_pos (by decide)]
  · rw [m_eq, up_ne hk, m_ne (by decide), m_eq, up_ne hk, m_ne (by decide), m_eq, up_ne hk, m_ne (by decide), m_eq, up_ne hk, m_ne (by decide)]
theorem fd_dec : ∀ i, i < 20 → (24 - (8 * (nI i - nI i / 4 * 4))) &&& 31 = nI (24 - 8 * (i % 4)) := by decide +kernel
theorem fd_at (a b c d e : Int32) : ∀ i, i < 20 → (¬ 20 ≤ nI i) ∧ (4 ≤ nI i) = (4 ≤ i) ∧ (8 ≤ nI i) = (8 ≤ i) ∧ (12 ≤ nI i) = (12 ≤ i) ∧ (16 ≤ nI i) = (16 ≤ i) := fun i hi => ⟨by rw [li_le (by decide) (by omega)]; show ¬ 20 ≤ i; omega, li_le (by decide) (by omega), li_le (by decide) (by omega), li_le (by decide) (by omega), li_le (by decide) (by omega)⟩
theorem A_feed (a b c d e : Int32) : A2 (FX11_feed_0 a b c d e) (FX12_feed_146 a b c d e) := by
  intro v w h
  obtain ⟨ha, hb, hc, hd, hf, n, h1, h2, h3, h4, h5, h6⟩ := id h
  unfold FX11_feed_0 FX6_hasRoom_34 FX12_feed_146
  rw [h2, h3, if_neg (nI_pos (by omega)), show nI n + 20 = nI (n + 20) from nI_add n 20]
  by_cases q : n + 20 ≤ 400
  · rw [if_neg (by rw [li_lt (by decide) (by omega)]; show ¬ 400 < n + 20; omega), b_some, if_neg z1, if_pos (by rw [le_li (by decide) (by omega)]; exact q)]
    have t0 : TPn v (w 154) n := ⟨h2, h4⟩
    obtain ⟨v1, e1, t1, k1⟩ := c_add t0 (by omega) a
    obtain ⟨v2, e2, t2, k2⟩ := c_add t1 (by omega) b
    obtain ⟨v3, e3, t3, k3⟩ := c_add t2 (by omega) c
    obtain ⟨v4, e4, t4, k4⟩ := c_add t3 (by omega) d
    obtain ⟨v5, e5, t5, k5⟩ := c_add t4 (by omega) e
    rw [e1, b_some, e2, b_some, e3, b_some, e4, b_some, e5, b_some]
    have fr : FrL [34, 35] v v5 := ft (frX6_add_34 _ _ e1) (ft (frX6_add_34 _ _ e2) (ft (frX6_add_34 _ _ e3) (ft (frX6_add_34 _ _ e4) (frX6_add_34 _ _ e5))))
    have mm : ∃ w', FX12_feed_146_L18 FU a b c d e 0 w = some (nI (n + 20), w') ∧ w' 154 = fo 20 (fdB a b c d e n) (w 154) ∧ w' 146 = upd (w 146) 16 (nI (n + 20)) ∧ FrL [146, 154] w w' := by
      have hh := lp_r (S := Mem) (fun F i u => FX12_feed_146_L18 F a b c d e i u) 20 (fun i u => u 154 = fo i (fdB a b c d e n) (w 154) ∧ u 146 = upd (w 146) 16 (nI (n + i)) ∧ FrL [146, 154] w u) (fun o => ∃ w', o = some (nI (n + 20), w') ∧ w' 154 = fo 20 (fdB a b c d e n) (w 154) ∧ w' 146 = upd (w 146) 16 (nI (n + 20)) ∧ FrL [146, 154] w w') (fun i u hi hI => ?_) (fun u hI F => ?_) FU 0 w (by omega) (by decide) ⟨rfl, ?_, fr_refl _ _⟩
      · rw [nI_0] at hh; exact hh
      · obtain ⟨i1, i2, i3⟩ := hI
        refine Or.inl ⟨mupd (mupd u 154 (n + i) (bt (fdA a b c d e i) (24 - 8 * (i % 4)))) 146 16 (nI (n + (i + 1))), ⟨?_, ?_, ?_⟩, fun F => ?_⟩
        · rw [m_ne (by decide), m_eq, i1]; rfl
        · rw [m_eq, m_ne (by decide), i2]
          funext z
          by_cases hz : z = 16
          · rw [hz, up_eq, up_eq]
          · rw [up_ne hz, up_ne hz, up_ne hz]
        · intro z hz
          rw [m_ne (by intro e; subst e; simp at hz), m_ne (by intro e; subst e; simp at hz)]
          exact i3 z hz
        · obtain ⟨p0, p1, p2, p3, p4⟩ := fd_at a b c d e i hi
          show FX12_feed_146_b18 _ _ _ _ _ _ _ _ = _
          have step : ∀ t0, t0 = fdA a b c d e i → FX12_feed_146_b71 (FX12_feed_146_L18 F) a b c d e (nI i) t0 u = FX12_feed_146_L18 F a b c d e (nI (i + 1)) (mupd (mupd u 154 (n + i) (bt (fdA a b c d e i) (24 - 8 * (i % 4)))) 146 16 (nI (n + (i + 1)))) := by
            intro t0 ht
            unfold FX12_feed_146_b71 rmI
            rw [if_neg (by decide), b_some, fd_dec i hi, i2, up_eq, w_ok (by omega) (by omega), b_some, b_some, m_ne (by decide), i2, up_eq, nI_1, nI_1, ht]
            rfl
          unfold FX12_feed_146_b18
          rw [if_neg p0]
          simp only [p1, p2, p3, p4]
          unfold fdA at step
          by_cases c4 : 4 ≤ i
          · rw [if_pos c4]
            rw [if_neg (show ¬ i < 4 by omega)] at step
            by_cases c8 : 8 ≤ i
            · rw [if_pos c8]
              rw [if_neg (show ¬ i < 8 by omega)] at step
              by_cases c12 : 12 ≤ i
              · rw [if_pos c12]
                rw [if_neg (show ¬ i < 12 by omega)] at step
                by_cases c16 : 16 ≤ i
                · rw [if_pos c16]
                  rw [if_neg (show ¬ i < 16 by omega)] at step
                  unfold fdA
                  rw [if_neg (show ¬ i < 4 by omega), if_neg (show ¬ i < 8 by omega), if_neg (show ¬ i < 12 by omega), if_neg (show ¬ i < 16 by omega)]
                  exact step e rfl
                · rw [if_neg c16]
                  rw [if_pos (show i < 16 by omega)] at step
                  unfold fdA
                  rw [if_neg (show ¬ i < 4 by omega), if_neg (show ¬ i < 8 by omega), if_neg (show ¬ i < 12 by omega), if_pos (show i < 16 by omega)]
                  exact step d rfl
              · rw [if_neg c12]
                rw [if_pos (show i < 12 by omega)] at step
                unfold fdA
                rw [if_neg (show ¬ i < 4 by omega), if_neg (show ¬ i < 8 by omega), if_pos (show i < 12 by omega)]
                exact step c rfl
            · rw [if_neg c8]
              rw [if_pos (show i < 8 by omega)] at step
              unfold fdA
              rw [if_neg (show ¬ i < 4 by omega), if_pos (show i < 8 by omega)]
              exact step b rfl
          · rw [if_neg c4]
            rw [if_pos (show i < 4 by omega)] at step
            unfold fdA
            rw [if_pos (show i < 4 by omega)]
            exact step a rfl
      · obtain ⟨i1, i2, i3⟩ := hI
        refine ⟨u, ?_, i1, i2, i3⟩
        show FX12_feed_146_b18 _ _ _ _ _ _ _ _ = _
        unfold FX12_feed_146_b18
        rw [if_pos (by decide), i2, up_eq]
      · funext z
        by_cases hz : z = 16
        · rw [hz, up_eq, h3]; rfl
        · rw [up_ne hz]
    obtain ⟨w', g1, g2, g3, g4⟩ := mm
    refine ⟨nI (n + 20), v5, w', by rw [t5.1], g1, ?_⟩
    have et : fo 20 (fdB a b c d e n) (w 154) = upd (upd (upd (upd (upd (upd (upd (upd (upd (upd (upd (upd (upd (upd (upd (upd (upd (upd (upd (upd (w 154) n (bt a 24)) (n + 1) (bt a 16)) (n + 2) (bt a 8)) (n + 3) (bt a 0)) (n + 4) (bt b 24)) (n + 4 + 1) (bt b 16)) (n + 4 + 2) (bt b 8)) (n + 4 + 3) (bt b 0)) (n + 4 + 4) (bt c 24)) (n + 4 + 4 + 1) (bt c 16)) (n + 4 + 4 + 2) (bt c 8)) (n + 4 + 4 + 3) (bt c 0)) (n + 4 + 4 + 4) (bt d 24)) (n + 4 + 4 + 4 + 1) (bt d 16)) (n + 4 + 4 + 4 + 2) (bt d 8)) (n + 4 + 4 + 4 + 3) (bt d 0)) (n + 4 + 4 + 4 + 4) (bt e 24)) (n + 4 + 4 + 4 + 4 + 1) (bt e 16)) (n + 4 + 4 + 4 + 4 + 2) (bt e 8)) (n + 4 + 4 + 4 + 4 + 3) (bt e 0) := rfl
    unfold SP
    rw [g4 147 (by decide), g4 148 (by decide), g4 149 (by decide), g3, g2, et]
    refine ⟨ha, XD_cg (fun c hc => fr c (by simp; omega)) hb, by rw [fr 104 (by decide)]; exact hc, UN_M (up_ne (by omega)) (UN_cg (fun c hc => fr c (by simp; omega)) hd), IMG_M (up_ne (by omega)) (IMG_cg (fun c hc => fr c (by simp; omega)) hf), n + 20, by omega, t5.1, by rw [up_eq], t5.2, ?_, ?_⟩
    · rw [up_ne (by omega), k5 13 (by omega), k4 13 (by omega), k3 13 (by omega), k2 13 (by omega), k1 13 (by omega)]; exact h5
    · rw [up_ne (by omega), k5 14 (by omega), k4 14 (by omega), k3 14 (by omega), k2 14 (by omega), k1 14 (by omega)]; exact h6
  · rw [if_pos (by rw [li_lt (by decide) (by omega)]; show 400 < n + 20; omega), b_some, if_pos rfl, if_neg (by rw [le_li (by decide) (by omega)]; exact q)]
    exact ⟨-1, v, w, rfl, rfl, h⟩

