/-! forgets -/
theorem nI_div {a b : Nat} (ha : a < 2147483648) (hb : b < 2147483648) : nI a / nI b = nI (a / b) := by
  apply Int32.toInt_inj.mp
  rw [Int32.toInt_div, nI_toInt ha, nI_toInt hb, nI_toInt (Nat.lt_of_le_of_lt (Nat.div_le_self a b) ha)]
  have : (a : Int).tdiv b = ((a / b : Nat) : Int) := by rw [Int.tdiv_eq_ediv_of_nonneg (by omega)]; rfl
  rw [this]
  have h2 : a / b < 2147483648 := Nat.lt_of_le_of_lt (Nat.div_le_self a b) ha
  generalize a / b = x at h2
  rw [Int.bmod_eq_of_le (by omega) (by omega)]
theorem dv_n {a b : Nat} {β : Type} (ha : a < 2147483648) (h0 : 0 < b) (hb : b < 2147483648) (f : Int32 → Option β) : (dvI (nI a) (nI b)).bind f = f (nI (a / b)) := by
  unfold dvI; rw [if_neg (by rw [show (0 : Int32) = nI 0 from nI_0.symm, nn_eq hb (by omega)]; omega), b_some, nI_div ha hb]
theorem rm_n {a b : Nat} {β : Type} (ha : a < 2147483648) (h0 : 0 < b) (hb : b < 2147483648) (f : Int32 → Option β) : (rmI (nI a) (nI b)).bind f = f (nI (a % b)) := by
  unfold rmI
  rw [if_neg (by rw [show (0 : Int32) = nI 0 from nI_0.symm, nn_eq hb (by omega)]; omega), b_some, nI_div ha hb, nI_mul, nI_sub (Nat.div_mul_le_self a b)]
  congr 2
  have := Nat.div_add_mod a b
  rw [Nat.mul_comm] at this
  omega
theorem dv1k {a : Nat} {β : Type} (ha : a < 2147483648) (f : Int32 → Option β) : (dvI (nI a) 1000).bind f = f (nI (a / 1000)) := dv_n (b := 1000) ha (by decide) (by decide) f
theorem rm1k {a : Nat} {β : Type} (ha : a < 2147483648) (f : Int32 → Option β) : (rmI (nI a) 1000).bind f = f (nI (a % 1000)) := rm_n (b := 1000) ha (by decide) (by decide) f
def RA (v w : Mem) (a : Nat → Nat) : Prop := (∀ i, i < 9 → v 114 i = nI (a i) ∧ w 159 i = nI (a i)) ∧ a 0 + a 1 + a 2 + a 3 + a 4 + a 5 + a 6 + a 7 + a 8 ≤ 1000000
theorem RA_le {v w : Mem} {a : Nat → Nat} (h : RA v w a) {i : Nat} (hi : i < 9) : a i ≤ 1000000 := by
  have := h.2
  rcases (by omega : i = 0 ∨ i = 1 ∨ i = 2 ∨ i = 3 ∨ i = 4 ∨ i = 5 ∨ i = 6 ∨ i = 7 ∨ i = 8) with rfl | rfl | rfl | rfl | rfl | rfl | rfl | rfl | rfl <;> omega
def stq (k g : Nat) (a : Nat → Nat) : Nat → Nat := fun i => if i = k - 1 then a i + g else if i = k then a i - g else a i
theorem RA_s {v w : Mem} {a : Nat → Nat} (h : RA v w a) {k g : Nat} (h1 : 1 ≤ k) (hk : k < 9) (hg : g ≤ a k) : RA (mupd (mupd v 114 k (nI (a k - g))) 114 (k - 1) (nI (a (k - 1) + g))) (mupd (mupd w 159 k (nI (a k - g))) 159 (k - 1) (nI (a (k - 1) + g))) (stq k g a) := by
  refine ⟨fun i hi => ?_, ?_⟩
  · rw [m_eq, m_eq, m_eq, m_eq]
    unfold stq upd
    obtain ⟨e1, e2⟩ := h.1 i hi
    by_cases c : i = k - 1
    · rw [if_pos c, if_pos c, if_pos c, c]; exact ⟨rfl, rfl⟩
    · rw [if_neg c, if_neg c, if_neg c]
      by_cases d : i = k
      · rw [if_pos d, if_pos d, if_pos d, d]; exact ⟨rfl, rfl⟩
      · rw [if_neg d, if_neg d, if_neg d]; exact ⟨e1, e2⟩
  · have := h.2
    unfold stq
    rcases (by omega : k = 1 ∨ k = 2 ∨ k = 3 ∨ k = 4 ∨ k = 5 ∨ k = 6 ∨ k = 7 ∨ k = 8) with rfl | rfl | rfl | rfl | rfl | rfl | rfl | rfl <;> simp <;> omega
theorem quo_s {x q : Nat} (hq : q ≤ 1000) : x / 1000 * q + x % 1000 * q / 1000 = x * q / 1000 := by
  have e : x * q = 1000 * (x / 1000 * q) + x % 1000 * q := by
    have := Nat.div_add_mod x 1000
    calc x * q = (1000 * (x / 1000) + x % 1000) * q := by rw [this]
      _ = _ := by rw [Nat.add_mul, Nat.mul_assoc]
  rw [e]
  generalize x / 1000 * q = y
  generalize x % 1000 * q = z
  omega
theorem fgt_in {q : Nat} (hq : q ≤ 1000) (kc km : Int32 → Int32 → Int32 → Mem → Option (Int32 × Mem)) (l2 l5 : Int32) : ∀ (d k : Nat), d + k = 9 → 1 ≤ k → ∀ (F F' : Nat) (v w : Mem) (a : Nat → Nat), d < F → d < F' → RA v w a → ∃ v' w' a', RA v' w' a' ∧ FX7_forgotten_106_L71 kc F l2 (nI q) l5 (nI k) v = kc l2 (nI q) (l5 + 1) v' ∧ FX12_forgets_146_L85 km F' l2 (nI q) l5 (nI k) w = km l2 (nI q) (l5 + 1) w' := by
  intro d
  induction d with
  | zero =>
    intro k hk h1 F F' v w a hF hF' h
    obtain ⟨f, rfl⟩ : ∃ f, F = f + 1 := ⟨F - 1, by omega⟩
    obtain ⟨g, rfl⟩ : ∃ f, F' = f + 1 := ⟨F' - 1, by omega⟩
    obtain rfl : k = 9 := by omega
    refine ⟨v, w, a, h, ?_, ?_⟩
    · show FX7_forgotten_106_b71 _ _ _ _ _ _ _ = _
      unfold FX7_forgotten_106_b71
      rw [if_pos (by decide)]
    · show FX12_forgets_146_b85 _ _ _ _ _ _ _ = _
      unfold FX12_forgets_146_b85
      rw [if_pos (by decide)]
  | succ d ih =>
    intro k hk h1 F F' v w a hF hF' h
    obtain ⟨f, rfl⟩ : ∃ f, F = f + 1 := ⟨F - 1, by omega⟩
    obtain ⟨g, rfl⟩ : ∃ f, F' = f + 1 := ⟨F' - 1, by omega⟩
    have ha := RA_le h (i := k) (by omega)
    have ha1 := RA_le h (i := k - 1) (by omega)
    have hm : a k * q ≤ 1000000 * 1000 := Nat.mul_le_mul ha hq
    have hgk : a k * q / 1000 ≤ a k := by
      have : a k * q ≤ a k * 1000 := Nat.mul_le_mul_left _ hq
      omega
    have hs := RA_s h h1 (by omega) hgk
    obtain ⟨v', w', a', r1, r2, r3⟩ := ih (k + 1) (by omega) (by omega) f g _ _ _ (by omega) (by omega) hs
    obtain ⟨e1, e2⟩ := h.1 k (by omega)
    obtain ⟨p1, p2⟩ := h.1 (k - 1) (by omega)
    have hk1 : nI k - 1 = nI (k - 1) := sub_li (k := 1) h1
    refine ⟨v', w', a', r1, ?_, ?_⟩
    · rw [← r2]
      show FX7_forgotten_106_b71 _ _ _ _ _ _ _ = _
      unfold FX7_forgotten_106_b71
      rw [if_neg (by rw [li_lt (by decide) (by omega)]; show ¬ 8 < k; omega), r_ok (by omega) (by omega), b_some, e1, nI_mul, dv1k (by omega), b_some, nI_sub hgk, w_ok (by omega) (by omega), b_some, hk1, r_ok (by omega) (by omega), b_some, m_eq, up_ne (by omega), p1, nI_add, w_ok (by omega) (by omega), b_some, nI_1]
    · rw [← r3]
      show FX12_forgets_146_b85 _ _ _ _ _ _ _ = _
      unfold FX12_forgets_146_b85
      have hm2 : a k % 1000 * q ≤ 1000 * 1000 := Nat.mul_le_mul (by omega) hq
      rw [if_neg (by rw [li_lt (by decide) (by omega)]; show ¬ 8 < k; omega), r_ok (by omega) (by omega), b_some, e2, dv1k (by omega), b_some, rm1k (by omega), nI_mul, dv1k (by omega), b_some, nI_mul, nI_add, quo_s hq, nI_sub hgk, w_ok (by omega) (by omega), b_some, hk1, r_ok (by omega) (by omega), b_some, m_eq, up_ne (by omega), p2, nI_add, w_ok (by omega) (by omega), b_some, nI_1]
theorem fgt_out {q n : Nat} (hq : q ≤ 1000) (hn : n ≤ 60) : ∀ (d j : Nat), d + j = n → ∀ (F F' : Nat) (v w : Mem) (a : Nat → Nat), d < F → d < F' → RA v w a → ∃ r v' w', FX7_forgotten_106_L62 F (nI n) (nI q) (nI j) v = some (r, v') ∧ FX12_forgets_146_L76 F' (nI n) (nI q) (nI j) w = some (r, w') := by
  intro d
  induction d with
  | zero =>
    intro j hj F F' v w a hF hF' h
    obtain ⟨f, rfl⟩ : ∃ f, F = f + 1 := ⟨F - 1, by omega⟩
    obtain ⟨g, rfl⟩ : ∃ f, F' = f + 1 := ⟨F' - 1, by omega⟩
    obtain ⟨e1, e2⟩ := h.1 0 (by omega)
    refine ⟨nI (a 0), v, w, ?_, ?_⟩
    · show FX7_forgotten_106_b62 _ _ _ _ _ = _
      unfold FX7_forgotten_106_b62
      rw [if_pos (by rw [nn_le (by omega) (by omega)]; omega), e1]
    · show FX12_forgets_146_b76 _ _ _ _ _ = _
      unfold FX12_forgets_146_b76
      rw [if_pos (by rw [nn_le (by omega) (by omega)]; omega), e2]
  | succ d ih =>
    intro j hj F F' v w a hF hF' h
    obtain ⟨f, rfl⟩ : ∃ f, F = f + 1 := ⟨F - 1, by omega⟩
    obtain ⟨g, rfl⟩ : ∃ f, F' = f + 1 := ⟨F' - 1, by omega⟩
    obtain ⟨v1, w1, a1, r1, r2, r3⟩ := fgt_in hq (FX7_forgotten_106_L62 f) (FX12_forgets_146_L76 g) (nI n) (nI j) 8 1 rfl (by omega) FU FU v w a (by decide) (by decide) h
    obtain ⟨r, v', w', s1, s2⟩ := ih (j + 1) (by omega) f g v1 w1 a1 (by omega) (by omega) r1
    rw [nI_1] at r2 r3
    refine ⟨r, v', w', ?_, ?_⟩
    · rw [← s1, ← r2]
      show FX7_forgotten_106_b62 _ _ _ _ _ = _
      unfold FX7_forgotten_106_b62
      rw [if_neg (by rw [nn_le (by omega) (by omega)]; omega)]; rfl
    · rw [← s2, ← r3]
      show FX12_forgets_146_b76 _ _ _ _ _ = _
      unfold FX12_forgets_146_b76
      rw [if_neg (by rw [nn_le (by omega) (by omega)]; omega)]; rfl
theorem fill114 (v : Mem) : ∃ v', FJ7_fill_53178_114 0 v = some v' ∧ ∀ i, i < 9 → v' 114 i = 0 := by
  have hh := lp_r (fun F i u => FJ7_fill_53178_114_L5 F 0 i 9 u) 9 (fun i u => ∀ k, k < i → u 114 k = 0) (fun o => ∃ v', o = some v' ∧ ∀ i, i < 9 → v' 114 i = 0) (fun i u hi h => Or.inl ⟨mupd u 114 i 0, fun k hk => by
    rw [m_eq]
    by_cases c : k = i
    · rw [c, up_eq]
    · rw [up_ne c]; exact h k (by omega), fun F => by
    show FJ7_fill_53178_114_b5 _ _ _ _ _ = _
    unfold FJ7_fill_53178_114_b5
    rw [if_neg (by rw [li_le (by decide) (by omega)]; show ¬ 9 ≤ i; omega), w_ok (by omega) (by omega), b_some, nI_1]⟩) (fun u h F => by
    refine ⟨u, ?_, h⟩
    show FJ7_fill_53178_114_b5 _ _ _ _ _ = _
    unfold FJ7_fill_53178_114_b5
    rw [if_pos (by decide)]) FU 0 v (by omega) (by decide) (fun k hk => absurd hk (by omega))
  rw [nI_0] at hh; exact hh

theorem fill159 {w : Mem} {p b : Nat} (hp : p < 12) (hb : b ≤ 16) (hk : FX12_count (w 147 (16 + p)) = some (nI b)) (l2 l3 : Int32) : ∃ w', FX12_forgets_146_L29 FU (nI p) l2 l3 0 w = FX12_forgets_146_L76 FU l2 l3 0 w' ∧ ∀ i, i < 10 → w' 159 i = if i = b then 1000000 else 0 := by
  have hh := lp_r (fun F i u => FX12_forgets_146_L29 F (nI p) l2 l3 i u) 10 (fun i u => u 147 = w 147 ∧ ∀ k, k < i → u 159 k = if k = b then 1000000 else 0) (fun o => ∃ w', o = FX12_forgets_146_L76 FU l2 l3 0 w' ∧ ∀ i, i < 10 → w' 159 i = if i = b then 1000000 else 0) (fun i u hi h => Or.inl ⟨mupd u 159 i (if i = b then 1000000 else 0), ⟨by rw [m_ne (by decide)]; exact h.1, fun k hk => by
    rw [m_eq]
    by_cases c : k = i
    · rw [c, up_eq]
    · rw [up_ne c]; exact h.2 k (by omega)⟩, fun F => by
    show FX12_forgets_146_b29 _ _ _ _ _ _ = _
    unfold FX12_forgets_146_b29 FX12_forgets_146_b66
    rw [if_neg (by rw [li_le (by decide) (by omega)]; show ¬ 10 ≤ i; omega), li_add 16 p, r_ok (by show 16 + p < 1786; omega) (by omega), b_some]
    show (FX12_count (u 147 (16 + p))).bind _ = _
    rw [h.1, hk, b_some, w_ok (by omega) (by omega), w_ok (by omega) (by omega), b_some, b_some, nI_1]
    by_cases z : i = b
    · rw [if_pos z, if_pos (by rw [z])]
    · rw [if_neg z, if_neg (by rw [nn_eq (by omega) (by omega)]; exact z)]⟩) (fun u h F => by
    refine ⟨u, ?_, h.2⟩
    show FX12_forgets_146_b29 _ _ _ _ _ _ = _
    unfold FX12_forgets_146_b29
    rw [if_pos (by decide)]) FU 0 w (by omega) (by decide) ⟨rfl, fun k hk => absurd hk (by omega)⟩
  rw [nI_0] at hh; exact hh
theorem A_forgets (p q : Int32) : A2 (FX11_forgets_0 p q) (FX12_forgets_146 p q) := by
  intro v w h
  obtain ⟨a, b, -⟩ := id h
  obtain ⟨hn, hn12⟩ := OkT_n a.1
  have key : ∃ r v' w', FX11_forgets_0 p q v = some (r, v') ∧ FX12_forgets_146 p q w = some (r, w') := by
    unfold FX11_forgets_0 FX12_forgets_146
    by_cases c : ∃ m, m < nmen (w 147) ∧ p = nI m
    · obtain ⟨m, hm, rfl⟩ := c
      have hm12 : m < 12 := by omega
      rw [c_has (ru_men b.1.1) a.1 hm, b_some, m_isMan rfl a.1 hm, b_some, if_neg z1, if_neg z1, m_in, b_some]
      by_cases d : 0 ≤ q ∧ q ≤ 60
      · rw [if_neg (by rw [Int32.not_lt]; exact d.1), if_neg (by rw [Int32.not_lt]; exact d.2), if_pos d, if_neg z1]
        rw [show (60 : Int32) = nI 60 by decide, in_n (by decide)] at d
        obtain ⟨n, hn60, rfl⟩ := d
        obtain ⟨x, hx, ex⟩ := dAsk_n (w 147) (w := 3) (by omega) m
        obtain ⟨v1, g1⟩ := c_asked_32 b.1 a hm (w := 3) (by omega)
        obtain ⟨w1, g2⟩ := m_fade rfl a hm12
        have f1 := frX3_asked_32 _ _ _ g1
        have f2 := frX12_fadeOf_146 _ _ g2
        have hx : x ≤ 1000 := hx
        obtain ⟨j, hj, ej⟩ := OkD_kn a.2.1 m hm12
        have pj : pc (nI j) ≤ 8 := pc_n (b := 8) (by omega) hj rfl
        unfold FX7_forgotten_106
        rw [c_has (ru_men b.1.1) a.1 hm, b_some, if_neg z1, show (3 : Int32) = nI 3 by decide, g1, b2_some, g2, b2_some, r_ok hm12 (by omega), b_some]
        show ∃ r v' w', bnd2 ((FJ6_bitCount_0f7a4 (v1 25 m)).bind _) _ = _ ∧ _
        rw [f1 25 (by decide), BR_kn b.1.2.2 m hm12, ej, bc_4k (by omega), b_some]
        obtain ⟨v2, g3, k3⟩ := fill114 v1
        rw [g3, b_some]
        have ec : (if nI (pc (nI j)) < 8 then nI (pc (nI j)) else 8) = nI (pc (nI j)) := by
          by_cases c8 : pc (nI j) < 8
          · rw [if_pos (by rw [show (8 : Int32) = nI 8 by decide, nn_lt (by omega) (by omega)]; exact c8)]
          · rw [if_neg (by rw [show (8 : Int32) = nI 8 by decide, nn_lt (by omega) (by omega)]; exact c8), show pc (nI j) = 8 by omega]; rfl
        rw [ec, w_ok (by omega) (by omega), b_some]
        have e147 : w1 147 = w 147 := f2 147 (by decide)
        obtain ⟨w2, g4, k4⟩ := fill159 (w := w1) (b := pc (nI j)) hm12 (by omega) (by rw [e147, ej, m_count]) (nI n) (dAsk (w 147) 3 m)
        rw [g4, ex]
        have hRA : RA (mupd v2 114 (pc (nI j)) 1000000) w2 (fun i => if i = pc (nI j) then 1000000 else 0) := by
          refine ⟨fun i hi => ?_, ?_⟩
          · rw [m_eq, k4 i (by omega)]
            show (if i = pc (nI j) then (1000000 : Int32) else v2 114 i) = nI (if i = pc (nI j) then 1000000 else 0) ∧ (if i = pc (nI j) then (1000000 : Int32) else 0) = nI (if i = pc (nI j) then 1000000 else 0)
            by_cases z : i = pc (nI j)
            · rw [if_pos z, if_pos z, if_pos z]; exact ⟨rfl, rfl⟩
            · rw [if_neg z, if_neg z, if_neg z, k3 i hi]; exact ⟨rfl, rfl⟩
          · generalize pc (nI j) = y at *
            rcases (by omega : y = 0 ∨ y = 1 ∨ y = 2 ∨ y = 3 ∨ y = 4 ∨ y = 5 ∨ y = 6 ∨ y = 7 ∨ y = 8) with rfl | rfl | rfl | rfl | rfl | rfl | rfl | rfl | rfl <;> simp
        obtain ⟨r, v', w', s1, s2⟩ := fgt_out (n := n) hx hn60 n 0 rfl FU FU _ _ _ (by show n < 10000; omega) (by show n < 10000; omega) hRA
        rw [nI_0] at s1 s2
        exact ⟨r, v', w', by rw [s1, b2_some], s2⟩
      · rw [if_neg d, if_pos rfl]
        refine ⟨-1, v, w, ?_, rfl⟩
        by_cases d1 : q < 0
        · rw [if_pos d1]
        · rw [if_neg d1, if_pos (by rw [← Int32.not_le]; exact fun h => d ⟨by rw [← Int32.not_lt]; exact d1, h⟩)]
    · rw [c_hasN (ru_men b.1.1) a.1 c, b_some, m_isManN rfl a.1 c, b_some, if_pos rfl, if_pos rfl]
      exact ⟨-1, v, w, rfl, rfl⟩
  obtain ⟨r, v', w', h1, h2⟩ := key
  have f1 := frX11_forgets_0 _ _ _ h1
  have f2 := frX12_forgets_146 _ _ _ h2
  exact ⟨r, v', w', h1, h2, SP_v (fun c hc => f1 c (by simp; omega)) (SP_m (f2 _ (by decide)) (f2 _ (by decide)) (f2 _ (by decide)) (f2 _ (by decide)) (fun k _ => by rw [f2 146 (by decide)]) h)⟩
