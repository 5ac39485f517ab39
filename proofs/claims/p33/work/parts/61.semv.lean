/-! send, days, undo -/
theorem rl2 {u : Mem} {a n c k : Nat} {x y : Int32} (h : (OfNat.ofNat c : Nat) + k < n) (hn : n < 2147483648) : rdA u a n ((OfNat.ofNat c : Int32) + nI k) = some (u a ((OfNat.ofNat c : Nat) + k)) := by rw [li_add, r_ok h hn]
def mn999 (x : Int32) : Int32 := if x < 999 then x else 999
theorem m_999 (x : Int32) : FX12_lesser 999 x = some (mn999 x) := by
  unfold FX12_lesser mn999
  by_cases c : x < 999
  · rw [if_pos c, if_pos (Int32.le_of_lt c)]
  · rw [if_neg c]
    by_cases c2 : x ≤ 999
    · rw [if_pos c2]
      exact congrArg some (Int32.le_antisymm c2 (by rw [← Int32.not_lt]; exact c))
    · rw [if_neg c2]
def sendOk (W : Wt) (i k : Nat) (c : Int32) : Prop := W (90 + i) = W (90 + k) ∧ W (40 + i) = 0 ∧ W (40 + k) = 1 ∧ W (102 + k) < W (102 + i) ∧ 0 ≤ c ∧ c ≤ W (28 + k)
set_option maxHeartbeats 1000000 in
theorem send_do {v w : Mem} (h : SP v w) {i k : Nat} (hi : i < nmen (w 147)) (hk : k < nmen (w 147)) (c : Int32) (ok : sendOk (w 147) i k c) : ∃ v' w', ((wrA v 27 12 (nI i) 1).bind fun u8 => (rdA u8 28 12 (nI k)).bind fun x9 => (wrA u8 28 12 (nI i) x9).bind fun u10 => (wrA u10 27 12 (nI k) 0).bind fun u11 => (rdA u11 26 12 (nI k)).bind fun x12 => (wrA u11 26 12 (nI k) (x12 - c)).bind fun u13 => (rdA u13 26 12 (nI i)).bind fun x14 => (wrA u13 26 12 (nI i) (if (x14 + c) < 999 then (x14 + c) else 999)).bind fun u15 => some ((1 : Int32), u15)) = some (1, v') ∧ ((wrA w 147 1786 (40 + nI i) 1).bind fun u20 => (rdA u20 147 1786 (52 + nI k)).bind fun x21 => (wrA u20 147 1786 (52 + nI i) x21).bind fun u22 => (wrA u22 147 1786 (40 + nI k) 0).bind fun u23 => (rdA u23 147 1786 (28 + nI k)).bind fun x24 => (wrA u23 147 1786 (28 + nI k) (x24 - c)).bind fun u25 => (rdA u25 147 1786 (28 + nI i)).bind fun x26 => (FX12_lesser 999 (x26 + c)).bind fun x27 => (wrA u25 147 1786 (28 + nI i) x27).bind fun u28 => some ((1 : Int32), u28)) = some (1, w') ∧ SP v' w' := by
  obtain ⟨hn, hn12⟩ := OkT_n h.1.1
  have hi12 : i < 12 := by omega
  have hk12 : k < 12 := by omega
  obtain ⟨o1, o2, o3, o4, o5, o6⟩ := ok
  have s1 := SP_br h (j := 3) (by omega) hi12 (x := 1) (OkD_uwh h.1.2.1 hi12 ⟨1, by omega, rfl⟩ (Or.inl hi))
  have s2 := SP_br s1 (j := 4) (by omega) hi12 (x := (mupd w 147 (40 + i) 1) 147 (52 + k)) (OkD_uce s1.1.2.1 hi12 (OkD_ce s1.1.2.1 k hk12))
  have s3 := SP_br s2 (j := 3) (by omega) hk12 (x := 0) (OkD_uwh s2.1.2.1 hk12 ⟨0, by omega, rfl⟩ (Or.inr rfl))
  have cn : ∃ j, j ≤ 999 ∧ w 147 (28 + k) - c = nI j := by
    obtain ⟨j, hj, ej⟩ := OkD_cn h.1.2.1 k hk12
    rw [ej] at o6 ⊢
    obtain ⟨q, hq, rfl⟩ := nI_of (x := c) (by rw [Int32.not_lt]; exact o5)
    rw [nn_le hq (by omega)] at o6
    exact ⟨j - q, by omega, nI_sub o6⟩
  obtain ⟨q, hq, eq⟩ : ∃ q, q ≤ 999 ∧ c = nI q := by
    obtain ⟨j, hj, ej⟩ := OkD_cn h.1.2.1 k hk12
    rw [ej] at o6
    obtain ⟨q, hq, rfl⟩ := nI_of (x := c) (by rw [Int32.not_lt]; exact o5)
    rw [nn_le hq (by omega)] at o6
    exact ⟨q, by omega, rfl⟩
  have e3 : ∀ z, (mupd (mupd (mupd w 147 (40 + i) 1) 147 (52 + i) z) 147 (40 + k) 0) 147 (28 + k) = w 147 (28 + k) := fun z => by
    rw [m_eq, up_ne (by omega), m_eq, up_ne (by omega), m_eq, up_ne (by omega)]
  have s4 := SP_br s3 (j := 2) (by omega) hk12 (x := w 147 (28 + k) - c) (OkD_ucn s3.1.2.1 hk12 cn)
  obtain ⟨p, hp, ep⟩ := OkD_cn s4.1.2.1 i hi12
  have c9 : ∃ j, j ≤ 999 ∧ mn999 (nI p + c) = nI j := by
    rw [eq, nI_add]
    unfold mn999
    have pz : (nI (p + q) < 999) = (p + q < 999) := lt_li (k := 999) (by decide) (by omega)
    simp only [pz]
    by_cases z : p + q < 999
    · rw [if_pos z]; exact ⟨p + q, by omega, rfl⟩
    · rw [if_neg z]; exact ⟨999, by omega, rfl⟩
  have s5 := SP_br s4 (j := 2) (by omega) hi12 (x := mn999 (nI p + c)) (OkD_ucn s4.1.2.1 hi12 c9)
  refine ⟨_, _, ?_, ?_, s5⟩
  · rw [wb hi12 (by omega), rb hk12 (by omega)]
    rw [show (mupd v 27 i 1) 28 k = (mupd w 147 (40 + i) 1) 147 (52 + k) from gce_23 s1.2.1.1 hk12]
    rw [wb hi12 (by omega), wb hk12 (by omega), rb hk12 (by omega)]
    rw [show (mupd (mupd (mupd v 27 i 1) 28 i ((mupd w 147 (40 + i) 1) 147 (52 + k))) 27 k 0) 26 k = (mupd (mupd (mupd w 147 (40 + i) 1) 147 (52 + i) ((mupd w 147 (40 + i) 1) 147 (52 + k))) 147 (40 + k) 0) 147 (28 + k) from gcn_23 s3.2.1.1 hk12, e3]
    rw [wb hk12 (by omega), rb hi12 (by omega)]
    rw [show (mupd (mupd (mupd (mupd v 27 i 1) 28 i ((mupd w 147 (40 + i) 1) 147 (52 + k))) 27 k 0) 26 k (w 147 (28 + k) - c)) 26 i = nI p from (gcn_23 s4.2.1.1 hi12).trans ep]
    rw [wb hi12 (by omega)]
    rfl
  · rw [wl (by show 40 + i < _; omega) (by omega), rl (by show 52 + k < _; omega) (by omega), wl (by show 52 + i < _; omega) (by omega), wl (by show 40 + k < _; omega) (by omega), rl (by show 28 + k < _; omega) (by omega)]
    rw [show (mupd (mupd (mupd w 147 ((OfNat.ofNat 40 : Nat) + i) 1) 147 ((OfNat.ofNat 52 : Nat) + i) (mupd w 147 ((OfNat.ofNat 40 : Nat) + i) 1 147 ((OfNat.ofNat 52 : Nat) + k))) 147 ((OfNat.ofNat 40 : Nat) + k) 0) 147 ((OfNat.ofNat 28 : Nat) + k) = w 147 (28 + k) from e3 _]
    rw [wl (by show 28 + k < _; omega) (by omega), rl (by show 28 + i < _; omega) (by omega)]
    rw [show (mupd (mupd (mupd (mupd w 147 ((OfNat.ofNat 40 : Nat) + i) 1) 147 ((OfNat.ofNat 52 : Nat) + i) (mupd w 147 ((OfNat.ofNat 40 : Nat) + i) 1 147 ((OfNat.ofNat 52 : Nat) + k))) 147 ((OfNat.ofNat 40 : Nat) + k) 0) 147 ((OfNat.ofNat 28 : Nat) + k) (w 147 (28 + k) - c)) 147 ((OfNat.ofNat 28 : Nat) + i) = nI p from ep]
    rw [m_999, b_some, wl (by show 28 + i < _; omega) (by omega)]
theorem A_send (p q c : Int32) : A2 (FX11_send_0 p q c) (FX12_send_146 p q c) := by
  intro v w h
  obtain ⟨a, b, -⟩ := id h
  obtain ⟨hn, hn12⟩ := OkT_n a.1
  by_cases c1 : ∃ m, m < nmen (w 147) ∧ p = nI m
  · by_cases c2 : ∃ m, m < nmen (w 147) ∧ q = nI m
    · obtain ⟨i, hi, rfl⟩ := c1
      obtain ⟨k, hk, rfl⟩ := c2
      have hi12 : i < 12 := by omega
      have hk12 : k < 12 := by omega
      have g40 : ∀ m : Nat, w 147 ((OfNat.ofNat 40 : Nat) + m) = w 147 (40 + m) := fun _ => rfl
      have g90 : ∀ m : Nat, w 147 ((OfNat.ofNat 90 : Nat) + m) = w 147 (90 + m) := fun _ => rfl
      have g102 : ∀ m : Nat, w 147 ((OfNat.ofNat 102 : Nat) + m) = w 147 (102 + m) := fun _ => rfl
      have g28 : ∀ m : Nat, w 147 ((OfNat.ofNat 28 : Nat) + m) = w 147 (28 + m) := fun _ => rfl
      have b54 : ∀ l4, FX11_send_0_b54 (nI i) (nI k) c l4 v = FX11_send_0_b103 (nI i) (nI k) c l4 (if w 147 (90 + i) = w 147 (90 + k) ∧ w 147 (102 + k) < w 147 (102 + i) then 1 else 0) v := by
        intro l4
        unfold FX11_send_0_b54
        rw [rb hi12 (by omega), rb hk12 (by omega), gco b.1 hi12, gco b.1 hk12]
        by_cases q3 : w 147 (90 + i) = w 147 (90 + k)
        · rw [if_pos q3, rb hi12 (by omega), rb hk12 (by omega), gag b.1 hi12, gag b.1 hk12]
          by_cases q4 : w 147 (102 + k) < w 147 (102 + i)
          · rw [if_neg (by rw [Int32.not_le]; exact q4), if_pos ⟨q3, q4⟩]
          · rw [if_pos (by rw [← Int32.not_lt]; exact q4), if_neg (fun h => q4 h.2)]
        · rw [if_neg q3, if_neg (fun h => q3 h.1)]
      have tot : FX11_send_0 (nI i) (nI k) c v = FX11_send_0_b103 (nI i) (nI k) c (if w 147 (40 + i) = 0 ∧ w 147 (40 + k) = 1 then 1 else 0) (if w 147 (90 + i) = w 147 (90 + k) ∧ w 147 (102 + k) < w 147 (102 + i) then 1 else 0) v := by
        unfold FX11_send_0
        rw [c_has (gmen b.1) a.1 hi, c_has (gmen b.1) a.1 hk, b_some, if_neg z1, b_some, if_neg z1, rb hi12 (by omega), gwh_23 b.1 hi12]
        by_cases q1 : w 147 (40 + i) = 0
        · rw [if_pos q1, rb hk12 (by omega), gwh_23 b.1 hk12]
          by_cases q2 : w 147 (40 + k) = 1
          · rw [if_pos q2, if_pos ⟨q1, q2⟩]; exact b54 1
          · rw [if_neg q2, if_neg (fun h => q2 h.2)]; exact b54 0
        · rw [if_neg q1, if_neg (fun h => q1 h.1)]; exact b54 0
      rw [tot]
      unfold FX11_send_0_b103 FX12_send_146
      rw [m_isMan rfl a.1 hi, m_isMan rfl a.1 hk, b_some, if_neg z1, b_some, if_neg z1]
      rw [rl (by show 90 + i < _; omega) (by omega), rl (by show 90 + k < _; omega) (by omega), rl (by show 40 + i < _; omega) (by omega), rl (by show 40 + k < _; omega) (by omega), rl (by show 102 + i < _; omega) (by omega), rl (by show 102 + k < _; omega) (by omega), rl (by show 28 + k < _; omega) (by omega), g40, g40, g90, g90, g102, g102, g28, m_in, b_some, rb hk12 (by omega), gcn_23 b.1 hk12]
      by_cases ok : sendOk (w 147) i k c
      · obtain ⟨o1, o2, o3, o4, o5, o6⟩ := id ok
        obtain ⟨v1, w1, k1, k2, k3, k4, -⟩ := A_keep h
        obtain ⟨v2, w2, d1, d2, d3⟩ := send_do k3 (i := i) (k := k) (by rw [k4]; exact hi) (by rw [k4]; exact hk) c (by rw [k4]; exact ok)
        rw [if_pos (show w 147 (40 + i) = 0 ∧ w 147 (40 + k) = 1 from ⟨o2, o3⟩), if_neg z1, if_pos (show w 147 (90 + i) = w 147 (90 + k) ∧ w 147 (102 + k) < w 147 (102 + i) from ⟨o1, o4⟩), if_neg z1, if_neg (by rw [Int32.not_lt]; exact o5), if_pos o6, k1, b_some, d1]
        rw [if_pos o1, if_pos o2, if_pos o3, if_neg (by rw [Int32.not_le]; exact o4), if_pos (show 0 ≤ c ∧ c ≤ w 147 (28 + k) from ⟨o5, o6⟩), if_neg z1, k2, b_some, d2]
        exact ⟨1, v2, w2, rfl, rfl, d3⟩
      · refine ⟨0, v, w, ?_, ?_, h⟩
        · by_cases qa : w 147 (40 + i) = 0 ∧ w 147 (40 + k) = 1
          · rw [if_pos qa, if_neg z1]
            by_cases qb : w 147 (90 + i) = w 147 (90 + k) ∧ w 147 (102 + k) < w 147 (102 + i)
            · rw [if_pos qb, if_neg z1]
              by_cases q5 : c < 0
              · rw [if_pos q5]
              · rw [if_neg q5, if_neg]
                exact fun q6 => ok ⟨qb.1, qa.1, qa.2, qb.2, by rw [← Int32.not_lt]; exact q5, q6⟩
            · rw [if_neg qb, if_pos rfl]
          · rw [if_neg qa, if_pos rfl]
        · by_cases q3 : w 147 (90 + i) = w 147 (90 + k)
          · rw [if_pos q3]
            by_cases q1 : w 147 (40 + i) = 0
            · rw [if_pos q1]
              by_cases q2 : w 147 (40 + k) = 1
              · rw [if_pos q2]
                by_cases q4 : w 147 (102 + i) ≤ w 147 (102 + k)
                · rw [if_pos q4]
                · rw [if_neg q4, if_neg (show ¬ (0 ≤ c ∧ c ≤ w 147 (28 + k)) from fun hh => ok ⟨q3, q1, q2, by rw [← Int32.not_le]; exact q4, hh.1, hh.2⟩), if_pos rfl]
              · rw [if_neg q2]
            · rw [if_neg q1]
          · rw [if_neg q3]
    · obtain ⟨i, hi, rfl⟩ := c1
      unfold FX11_send_0 FX12_send_146
      rw [c_has (gmen b.1) a.1 hi, c_hasN (gmen b.1) a.1 c2, m_isMan rfl a.1 hi, m_isManN rfl a.1 c2, b_some, b_some, b_some, b_some, if_neg z1, if_neg z1, if_pos rfl, if_pos rfl]
      exact ⟨0, v, w, rfl, rfl, h⟩
  · unfold FX11_send_0 FX12_send_146
    rw [c_hasN (gmen b.1) a.1 c1, m_isManN rfl a.1 c1, b_some, b_some, if_pos rfl, if_pos rfl]
    exact ⟨0, v, w, rfl, rfl, h⟩
/-- a day goes by in both -/
theorem A_day {v w : Mem} (h : SP v w) (h27 : w 146 27 = 0) (h28 : w 146 28 = 1) : ∃ v' w', FX3_pass_32 v = some v' ∧ FX12_aDay_146 w = some w' ∧ SP v' w' ∧ w' 146 27 = 0 ∧ w' 146 28 = 1 := by
  obtain ⟨a, b, c, d, f, g⟩ := h
  obtain ⟨v', e1, x1⟩ := c_day_32 (fa := 0) (B := fun _ => 0) (s := (w 147, w 146 29)) b a
  have hM : MD (w 146) w (w 147, w 146 29) := MD_mk ⟨rfl, by rw [upd_self rfl]⟩
  obtain ⟨w', e2, x2⟩ := m_day hM a
  rw [h27, h28] at x2
  have x2 := MD_un x2
  have wo := dDay_w (fa := 0) (tr := 1) (s := (w 147, w 146 29)) a
  have f1 := frX3_pass_32 _ e1
  have f2 := frX12_aDay_146 _ e2
  refine ⟨v', w', e1, e2, ?_, by rw [x2.2, up_ne (by omega)]; exact h27, by rw [x2.2, up_ne (by omega)]; exact h28⟩
  unfold SP
  rw [x2.1, x2.2, f2 148 (by decide), f2 149 (by decide), f2 154 (by decide)]
  refine ⟨wo.1, x1, by rw [f1 104 (by decide)]; exact c, UN_W (wo.2 78 (by omega) (by omega)) (UN_M (up_ne (by omega)) (UN_cg (fun c hc => f1 c (by simp; omega)) d)), IMG_M (up_ne (by omega)) (IMG_cg (fun c hc => f1 c (by simp; omega)) f), RD_M (up_ne (by omega)) (up_ne (by omega)) (up_ne (by omega)) (RD_cg (f1 34 (by decide)) (f1 35 (by decide)) g)⟩
theorem A_days (p : Int32) : A2 (FX11_days_0 p) (FX12_days_146 p) := by
  intro v w h
  obtain ⟨a, b, -⟩ := id h
  unfold FX11_days_0 FX12_days_146
  rw [m_in, b_some, gday_23 b.1]
  by_cases c : 1 ≤ p ∧ p ≤ 60
  · rw [if_neg (by rw [Int32.not_lt]; exact c.1), if_neg (by rw [Int32.not_lt]; exact c.2), if_pos c, if_neg z1]
    by_cases c2 : w 147 0 + p ≤ 9999
    · rw [if_pos c2, if_pos c2, b_some, b_some]
      obtain ⟨n, hn, rfl⟩ := nI_of (x := p) (by rw [Int32.not_lt]; exact Int32.le_trans (by decide) c.1)
      have n60 : n ≤ 60 := by have := c.2; rw [le_li (by decide) (by omega)] at this; exact this
      have h2 : SP v (mupd (mupd w 146 28 1) 146 27 0) := SP_m (by rw [m_ne (by decide), m_ne (by decide)]) (by rw [m_ne (by decide), m_ne (by decide)]) (by rw [m_ne (by decide), m_ne (by decide)]) (by rw [m_ne (by decide), m_ne (by decide)]) (fun k hk => by rw [m_eq, up_ne (by omega), m_eq, up_ne (by omega)]) h
      have e27 : (mupd (mupd w 146 28 1) 146 27 0) 146 27 = 0 := by rw [m_eq, up_eq]
      have e28 : (mupd (mupd w 146 28 1) 146 27 0) 146 28 = 1 := by rw [m_eq, up_ne (by omega), m_eq, up_eq]
      generalize mupd (mupd w 146 28 1) 146 27 0 = w0 at h2 e27 e28
      have hh := lp_2 (S := Int32 × Mem) (T := Int32 × Mem) (fun F i s => FX11_days_0_L32 F (nI n) s.1 i s.2) (fun F i t => FX12_days_146_L40 F (nI n) t.1 i t.2) n (fun i s t => s.1 = t.1 ∧ SP s.2 t.2 ∧ t.2 146 27 = 0 ∧ t.2 146 28 = 1) (fun o o' => ∃ r v' w', o = some (r, v') ∧ o' = some (r, w') ∧ SP v' w') (fun i s t hi hI => ?_) (fun s t hI F F' => ?_) FU FU 0 (0, v) (0, w0) (by omega) (by show _ < 10000; omega) (by show _ < 10000; omega) ⟨rfl, h2, e27, e28⟩
      · rw [nI_0] at hh; exact hh
      · obtain ⟨s1, v0⟩ := s
        obtain ⟨t1, w1⟩ := t
        obtain ⟨i1, i2, i3, i4⟩ := hI
        have i1 : s1 = t1 := i1
        have i2 : SP v0 w1 := i2
        obtain ⟨v2, w2, k1, k2, k3, k4, k5⟩ := A_keep i2
        obtain ⟨v3, w3, d1, d2, d3, d4, d5⟩ := A_day k3 (by rw [k5 27 (by omega)]; exact i3) (by rw [k5 28 (by omega)]; exact i4)
        refine Or.inl ⟨(s1 + w2 147 1, v3), (t1 + w2 147 1, w3), ⟨by rw [i1], d3, d4, d5⟩, fun F => ?_, fun F => ?_⟩
        · show FX11_days_0_b32 _ _ _ _ _ = _
          unfold FX11_days_0_b32
          rw [if_neg (nle hi (by omega)), k1, b_some, d1, b_some, gwar_23 k3.2.1.1, nI_1]
        · show FX12_days_146_b40 _ _ _ _ _ = _
          unfold FX12_days_146_b40
          rw [if_neg (nle hi (by omega)), k2, b_some, d2, b_some, nI_1]
      · obtain ⟨s1, v0⟩ := s
        obtain ⟨t1, w1⟩ := t
        obtain ⟨i1, i2, -⟩ := hI
        refine ⟨s1, v0, w1, ?_, ?_, i2⟩
        · show FX11_days_0_b32 _ _ _ _ _ = _
          unfold FX11_days_0_b32
          rw [if_pos (yle (by omega))]
        · show FX12_days_146_b40 _ _ _ _ _ = _
          unfold FX12_days_146_b40
          rw [if_pos (yle (by omega))]
          have i1 : s1 = t1 := i1
          rw [i1]
    · rw [if_neg c2, if_neg c2]; exact ⟨-1, v, w, rfl, rfl, h⟩
  · rw [if_neg c, if_pos rfl]
    refine ⟨-1, v, w, ?_, rfl, h⟩
    by_cases c1 : p < 1
    · rw [if_pos c1]
    · rw [if_neg c1, if_pos]
      rw [← Int32.not_le]
      exact fun h2 => c ⟨by rw [← Int32.not_lt]; exact c1, h2⟩
theorem dec1 {n : Nat} (h : 0 < n) (hn : n < 1000) : nI n - 1 = nI (n - 1) := nI_sub (b := 1) h
theorem A_undo : A2 FX11_undo_0 FX12_undo_146 := by
  intro v w h
  obtain ⟨a, b, c, ⟨n, x, hn, hx, u2, u1, u4, ur⟩, f, g⟩ := id h
  unfold FX11_undo_0 FX10_goBack_52_23 FX12_undo_146
  have ey : ((nI x + 6) - 1) - ((nI x + 6) - 1) / 6 * 6 = nI ((x + 5) % 6) := by
    have : ∀ x, x < 6 → ((nI x + 6) - 1) - ((nI x + 6) - 1) / 6 * 6 = nI ((x + 5) % 6) := by decide +kernel
    exact this x hx
  rw [u1, rm6, ey, u2, u4]
  by_cases n0 : n = 0
  · subst n0
    rw [if_pos (by decide), if_pos (by decide), b2_some]
    exact ⟨0, v, w, rfl, rfl, h⟩
  · rw [if_neg (nI_nle (by omega) (by omega)), if_neg (show ¬ nI n = 0 from nI_ne0 (by omega) (by omega)), if_neg (nI_pos (by omega)), if_neg (by rw [li_le (by decide) (by omega)]; show ¬ 6 ≤ (x + 5) % 6; omega)]
    obtain ⟨p, q⟩ := ur 0 (by omega)
    obtain ⟨y, hy⟩ : ∃ y, y = (x + 5) % 6 := ⟨_, rfl⟩
    have hy6 : y < 6 := by omega
    rw [Nat.sub_zero, ← hy, Nat.sub_zero] at p
    rw [Nat.sub_zero] at q
    rw [← hy]
    obtain ⟨W', hW'⟩ : ∃ W', W' = RW (w 147) (w 149) (n - 1) := ⟨_, rfl⟩
    rw [← hW'] at p q
    have s78 : same78 (w 147) W' := fun k h1 h2 => by rw [hW']; unfold RW; rw [if_neg (by omega)]
    have hi : ∀ k, 78 ≤ k → W' k = w 147 k := fun k h1 => by rw [hW']; unfold RW; rw [if_neg (by omega)]
    have wo : WO W' := ⟨OkT_W s78 a.1, q, LW_W s78 a.2.2⟩
    have mm : ∃ w', ((some (mupd w 146 4 (nI n - 1))).bind fun u2 => FX12_undo_146_L21 FU 0 u2) = some (1, w') ∧ w' 147 = W' ∧ w' 146 = upd (w 146) 4 (nI (n - 1)) ∧ FrL [146, 147] w w' := by
      rw [b_some, dec1 (by omega) (by omega)]
      have hh := lp_r (S := Wt) (fun F i P => FX12_undo_146_L21 F i (mset (mupd w 146 4 (nI (n - 1))) 147 P)) 78 (fun i P => (∀ k, k < i → P k = W' k) ∧ ∀ k, i ≤ k → P k = w 147 k) (fun o => ∃ w', o = some (1, w') ∧ w' 147 = W' ∧ w' 146 = upd (w 146) 4 (nI (n - 1)) ∧ FrL [146, 147] w w') (fun i P hi' hI => ?_) (fun P hI F => ?_) FU 0 (w 147) (by omega) (by decide) ⟨fun k hk => by omega, fun _ _ => rfl⟩
      · rw [nI_0] at hh
        have es : mset (mupd w 146 4 (nI (n - 1))) 147 (w 147) = mupd w 146 4 (nI (n - 1)) := by
          have := ms_self (mupd w 146 4 (nI (n - 1))) 147
          rw [m_ne (show 147 ≠ 146 by decide)] at this
          exact this
        rw [es] at hh
        exact hh
      · refine Or.inl ⟨upd P i (W' i), ⟨fun k hk => ?_, fun k hk => ?_⟩, fun F => ?_⟩
        · by_cases z : k = i
          · subst z; rw [up_eq]
          · rw [up_ne z]; exact hI.1 k (by omega)
        · rw [up_ne (by omega)]; exact hI.2 k (by omega)
        · show FX12_undo_146_b21 _ _ _ = _
          unfold FX12_undo_146_b21
          have e1 : (78 * nI (n - 1)) + nI i = nI (78 * (n - 1) + i) := by rw [show (78 : Int32) = nI 78 by decide, nI_mul, nI_add]
          rw [if_neg (by rw [li_le (by decide) (by omega)]; show ¬ 78 ≤ i; omega), ms_ne (by decide), m_eq, up_eq, e1, rbs (by omega) (by omega) (by decide), wbs (by omega) (by omega), m_ne (by decide), nI_1]
          rw [show w 149 (78 * (n - 1) + i) = W' i by rw [hW']; unfold RW; rw [if_pos (by omega)]]
      · show ∃ w', FX12_undo_146_b21 _ _ _ = some (1, w') ∧ _
        unfold FX12_undo_146_b21
        rw [if_pos (by decide)]
        refine ⟨_, rfl, ?_, by rw [ms_ne (by decide), m_eq], fun c hc => ?_⟩
        · rw [ms_eq]
          funext k
          by_cases z : k < 78
          · exact hI.1 k z
          · rw [hI.2 k (by omega), hi k (by omega)]
        · rw [ms_ne (by intro e; subst e; simp at hc), m_ne (by intro e; subst e; simp at hc)]
    obtain ⟨w', g1, g2, g3, g4⟩ := mm
    rw [g1]
    have fin : ∀ v1 : Mem, (∀ c, c < 23 ∨ 29 < c → v1 c = v c) → BR 23 v1 W' → ∃ r v' w2, (bnd2 ((some (mupd v1 52 1 (nI y))).bind fun u8 => (some (mupd u8 52 2 ((u8 52 2) - 1))).bind fun u9 => some ((1 : Int32), u9)) fun x1 u2 => (bchk x1).bind fun x3 => some (x3, u2)) = some (r, v') ∧ some ((1 : Int32), w') = some (r, w2) ∧ SP v' w2 := by
      intro v1 e1 e2
      rw [b_some, b_some, b2_some, m_eq, up_ne (by omega), e1 52 (by omega), u2, dec1 (by omega) (by omega)]
      refine ⟨1, _, w', rfl, rfl, ?_⟩
      unfold SP
      rw [g2, g3, g4 148 (by decide), g4 149 (by decide), g4 154 (by decide)]
      have ec : ∀ c, c ≠ 52 → (c < 23 ∨ 29 < c) → (mupd (mupd v1 52 1 (nI y)) 52 2 (nI (n - 1))) c = v c := fun c h1 h2 => by rw [m_ne h1, m_ne h1]; exact e1 c h2
      refine ⟨wo, ⟨⟨TR_W s78 a.1 (TR_cg b.1.1 (fun j hj => ec _ (by omega) (by omega))), LC_W s78 (LC_cg b.1.2.1 (fun j hj => ec _ (by omega) (by omega))), BR_cg e2 (fun j hj => by rw [m_ne (by omega), m_ne (by omega)])⟩, fun i hi' => ?_, ?_, ?_⟩, ?_, ?_, IMG_M (up_ne (by omega)) (IMG_cg (fun c hc => ec c (by omega) (by omega)) f), RD_M (up_ne (by omega)) (up_ne (by omega)) (up_ne (by omega)) (RD_cg (ec 34 (by omega) (by omega)) (ec 35 (by omega) (by omega)) g)⟩
      · rw [ec 31 (by omega) (by omega), hi _ (by omega)]; exact b.2.1 i hi'
      · rw [ec 32 (by omega) (by omega)]; exact b.2.2.1
      · rw [ec 32 (by omega) (by omega)]; exact b.2.2.2
      · rw [ec 104 (by omega) (by omega)]; exact c
      · refine UN_W (W := w 147) (hi 78 (by omega)) ⟨n - 1, y, by omega, hy6, by rw [m_eq, up_eq], by rw [m_eq, up_ne (by omega), m_eq, up_eq], by rw [up_eq], fun j hj => ?_⟩
        obtain ⟨p2, q2⟩ := ur (j + 1) (by omega)
        rw [show (y + 5 - j) % 6 = (x + 5 - (j + 1)) % 6 by omega, show n - 1 - 1 - j = n - 1 - (j + 1) by omega]
        exact ⟨BR_cg p2 (fun i hi' => ec _ (by omega) (by omega)), q2⟩
    rcases (by omega : y = 0 ∨ y = 1 ∨ y = 2 ∨ y = 3 ∨ y = 4 ∨ y = 5) with e | e | e | e | e | e
    · rw [e] at p fin ⊢
      obtain ⟨v1, k1, k2, k3⟩ := bck_54 p
      rw [if_pos (by decide), k1, b_some]
      exact fin v1 k2 k3
    · rw [e] at p fin ⊢
      obtain ⟨v1, k1, k2, k3⟩ := bck_61 p
      rw [if_neg (by decide), if_pos (by decide), k1, b_some]
      exact fin v1 k2 k3
    · rw [e] at p fin ⊢
      obtain ⟨v1, k1, k2, k3⟩ := bck_68 p
      rw [if_neg (by decide), if_neg (by decide), if_pos (by decide), k1, b_some]
      exact fin v1 k2 k3
    · rw [e] at p fin ⊢
      obtain ⟨v1, k1, k2, k3⟩ := bck_75 p
      rw [if_neg (by decide), if_neg (by decide), if_neg (by decide), if_pos (by decide), k1, b_some]
      exact fin v1 k2 k3
    · rw [e] at p fin ⊢
      obtain ⟨v1, k1, k2, k3⟩ := bck_82 p
      rw [if_neg (by decide), if_neg (by decide), if_neg (by decide), if_neg (by decide), if_pos (by decide), k1, b_some]
      exact fin v1 k2 k3
    · rw [e] at p fin ⊢
      obtain ⟨v1, k1, k2, k3⟩ := bck_89 p
      rw [if_neg (by decide), if_neg (by decide), if_neg (by decide), if_neg (by decide), if_neg (by decide), if_pos (by decide), k1, b_some]
      exact fin v1 k2 k3

