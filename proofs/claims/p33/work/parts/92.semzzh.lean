/-! rows of the other texts: numbers and needs, both sides -/
def pxN (K V : Nat → Nat) (j m t : Nat) : Nat := if K j = 1 then (if V j < m ∧ ¬ V j = t then 0 else 2) else 1
theorem pxN_f (K V : Nat → Nat) (j m t : Nat) : pxN K V j m t < 4 := by
  unfold pxN; split
  · split <;> decide
  · decide
theorem lim_lt {m x : Nat} (hm : m ≤ 10000) (hx : x < 10000) : (nI m - 1 < nI x) = (m ≤ x) := by
  apply propext
  rw [Int32.lt_iff_toInt_lt, show (1 : Int32) = nI 1 by decide, nI_subI (by omega) (by decide), nI_toInt (by omega)]
  omega
theorem lim_le {m x : Nat} (hm : m ≤ 10000) (hx : x < 10000) : (nI x ≤ nI m - 1) = (x < m) := by
  apply propext
  rw [Int32.le_iff_toInt_le, show (1 : Int32) = nI 1 by decide, nI_subI (by omega) (by decide), nI_toInt (by omega)]
  omega
theorem c_num {K V Q : Nat → Nat} {N : Nat} (hZ : pxZ K V N) {j m t : Nat} {bt : Int32} (hbt : ∀ x, x < 10000 → (nI x = bt ↔ x = t)) (hm : m ≤ 10000) {u : Mem} (hA : txA K V Q N j u) : (pxN K V j m t = 0 ∧ K j = 1 ∧ V j < m ∧ j < N ∧ FX6_number_34 (nI m - 1) bt u = some (nI (V j), txGo K u (j + 1))) ∨ (pxN K V j m t ≠ 0 ∧ ∃ u1, FX6_number_34 (nI m - 1) bt u = some (-1, u1) ∧ txG u u1 ∧ txX Q (pxN K V j m t) j u1) := by
  have hN := hZ.1.1
  have hj := hA.2.1
  unfold FX6_number_34 pxN FX6_number_34_b54 FX6_number_34_b27
  rw [hA.2.2.2.1]
  by_cases c : K j = 1
  · have hjN := hZ.1.2 j hj (by omega)
    have hv := hZ.2.1 j c
    rw [if_pos c, if_pos (nk c), hA.2.2.1, if_neg (nI_pos (by omega)), if_pos (show nI j < (401 : Int32) by rw [lt_li (by decide) (by omega)]; show j < 401; omega), rb (by omega) (by omega), (hA.1.2 j hj).2.2 c]
    by_cases c2 : V j < m ∧ ¬ V j = t
    · rw [if_pos c2, if_neg (by rw [lim_lt hm (by omega)]; omega), if_neg (fun h => c2.2 ((hbt _ (by omega)).mp h)), nI_1, c_go hN hA.1 (show j + 1 ≤ N by omega), b_some]
      exact Or.inl ⟨rfl, c, c2.1, hjN, rfl⟩
    · obtain ⟨u1, e1, g1, x1⟩ := c_fail hN hA 2
      have e1 : FX6_fail_34 2 u = some u1 := e1
      rw [if_neg c2]
      refine Or.inr ⟨by decide, u1, ?_, g1, x1⟩
      by_cases c3 : V j < m
      · rw [if_neg (by rw [lim_lt hm (by omega)]; omega), if_pos ((hbt _ (by omega)).mpr (Decidable.byContradiction fun h => c2 ⟨c3, h⟩)), e1, b_some]
      · rw [if_pos (by rw [lim_lt hm (by omega)]; omega), e1, b_some]
  · obtain ⟨u1, e1, g1, x1⟩ := c_fail hN hA 1
    have e1 : FX6_fail_34 1 u = some u1 := e1
    rw [if_neg c, if_neg (nkn (hZ.2.2 j) (by decide) c), e1, b_some]
    exact Or.inr ⟨by decide, u1, rfl, g1, x1⟩
theorem d_num {u : Mem} (h : txD u) (p q : Int32) : FX6_number_34 p q u = some (-1, u) := by
  unfold FX6_number_34 FX6_number_34_b27
  rw [h.1, if_neg (by decide), c_failD h, b_some]
theorem no_bt : ∀ x, x < 10000 → (nI x = (-1 : Int32) ↔ x = 100000) := fun x hx => ⟨fun h => absurd h (nI_m1 (by omega)), fun h => by omega⟩
theorem txX_D {Q : Nat → Nat} {f x : Nat} {u : Mem} (h : txX Q f x u) (hf : f ≠ 0) (hf4 : f < 4) : txD u := ⟨h.1, by rw [h.2.1]; exact nI_f hf hf4⟩
/-! the model -/
def myR (u0 u : Mem) : Prop := (∀ c, c ≠ 146 → c ≠ 153 → u c = u0 c) ∧ ∀ j, j < 17 ∨ j = 23 ∨ j = 24 ∨ j = 25 → u 146 j = u0 146 j
theorem myR_t {u u1 u2 : Mem} (h : myR u u1) (h' : myR u1 u2) : myR u u2 := ⟨fun c a b => (h'.1 c a b).trans (h.1 c a b), fun j a => (h'.2 j a).trans (h.2 j a)⟩
theorem myR_F {u u' : Mem} (h : txF u u') : myR u u' := ⟨fun c a _ => h.1 c a, fun j a => h.2 j (by omega) (by omega) (by omega) (by omega)⟩
theorem myR_u (u : Mem) {j : Nat} (x : Int32) (h : ¬ (j < 17 ∨ j = 23 ∨ j = 24 ∨ j = 25)) : myR u (mupd u 146 j x) := ⟨fun c a _ => m_ne a, fun i a => by
  have : i ≠ j := fun e => h (by rw [← e]; exact a)
  rw [m_eq, up_ne this]⟩
theorem myR_3 (u : Mem) (k : Nat) (x : Int32) : myR u (mupd u 153 k x) := ⟨fun c _ a => m_ne a, fun j _ => by rw [m_ne (by decide)]⟩
theorem myT_3 {k : Nat} {b : Nat → Nat} {n : Nat} {v0 : Int32} {i : Nat} {u : Mem} (h : myT k b n v0 i u) (j : Nat) (x : Int32) : myT k b n v0 i (mupd u 153 j x) := by
  unfold myT txS
  rw [m_ne (show 146 ≠ 153 by decide), m_ne (show 154 ≠ 153 by decide)]
  exact h
theorem myT_26 {k : Nat} {b : Nat → Nat} {n : Nat} {v0 : Int32} {i : Nat} {u : Mem} (h : myT k b n v0 i u) {j : Nat} (hj : j = 26 ∨ j = 15) (x : Int32) : myT k b n v0 i (mupd u 146 j x) := by
  unfold myT txS
  rw [m_eq, up_ne (by omega), up_ne (by omega), up_ne (by omega), up_ne (by omega), up_ne (by omega), up_ne (by omega), m_ne (by decide)]
  exact h
/-- what the model says of a fault -/
def myE (b : Nat → Nat) (n f y : Nat) (u : Mem) : Prop := u 146 21 = nI f ∧ u 146 22 = nI (qs b n y)
theorem mk_bad {k : Nat} {b : Nat → Nat} {n : Nat} {v0 : Int32} {u : Mem} {i : Nat} (hA : myT k b n v0 i u) (f : Nat) : ∃ u', (bnd2 (FX12_bad_146 (nI f) u) fun x u' => (bchk x).bind fun y => some (y, u')) = some (0, u') ∧ myR u u' ∧ myE b n f i u' := by
  unfold FX12_bad_146
  rw [b_some, b_some, b2_some, bchk_0, b_some]
  refine ⟨_, rfl, myR_t (myR_u u _ (by decide)) (myR_u _ _ (by decide)), ?_, ?_⟩
  · rw [m_eq, up_ne (by decide), m_eq, up_eq]
  · rw [m_eq, up_eq, m_eq, up_ne (by decide)]; exact hA.2.1
theorem mk_nx {k : Nat} (hk : k < 4) {b : Nat → Nat} {n : Nat} {v0 : Int32} {u : Mem} {i : Nat} (hA : myT k b n v0 i u) : ∃ u', FX12_next0_146 u = some u' ∧ myR u u' ∧ u' 146 26 = u 146 26 ∧ u' 153 = u 153 ∧ myT k b n v0 (i + 1) u' := by
  obtain ⟨u', e, f, h⟩ := m_nxt hk hA
  exact ⟨u', e, myR_F f, f.2 26 (by decide) (by decide) (by decide) (by decide), f.1 153 (by decide), h⟩
theorem mk_needY {k : Nat} (hk : k < 4) {b : Nat → Nat} {n : Nat} {v0 : Int32} {u : Mem} {i : Nat} {t : Int32} (hA : myT k b n v0 i u) (ht : nI (mtk k (kk k b n i)) = t) : ∃ u', FX12_need_146 t u = some (1, u') ∧ myR u u' ∧ u' 146 26 = u 146 26 ∧ u' 153 = u 153 ∧ myT k b n v0 (i + 1) u' := by
  obtain ⟨u1, e1, f1, d1, c1, hA1⟩ := mk_nx hk hA
  refine ⟨u1, ?_, f1, d1, c1, hA1⟩
  unfold FX12_need_146
  rw [hA.2.2.2.1, if_pos ht, e1, b_some]
theorem mk_needN {k : Nat} {b : Nat → Nat} {n : Nat} {v0 : Int32} {u : Mem} {i : Nat} {t : Int32} (hA : myT k b n v0 i u) (ht : ¬ nI (mtk k (kk k b n i)) = t) : ∃ u', FX12_need_146 t u = some (0, u') ∧ myR u u' ∧ myE b n 1 i u' := by
  unfold FX12_need_146
  rw [hA.2.2.2.1, if_neg ht]
  exact mk_bad hA 1
theorem tk_1_1 : ∀ a, a < 273 → vkK 1 a = true → mtk 1 a = 2 → a = 1 := by decide +kernel
theorem tY_1_1 {a : Nat} (h : a = 1) : nI (mtk 1 a) = 2 := by rw [h]; decide
theorem tN_1_1 {a : Nat} (hv : vkK 1 a = true) (h : ¬ a = 1) : ¬ nI (mtk 1 a) = 2 := by
  have hl := vk_lt (show 1 < 4 by decide) hv
  have hm := mtk_lt 1 (by decide) a hl
  rw [eq_li (by decide) (by omega)]
  exact fun e => h (tk_1_1 a hl hv e)
theorem tk_1_59 : ∀ a, a < 273 → vkK 1 a = true → mtk 1 a = 159 → a = 59 := by decide +kernel
theorem tY_1_59 {a : Nat} (h : a = 59) : nI (mtk 1 a) = 159 := by rw [h]; decide
theorem tN_1_59 {a : Nat} (hv : vkK 1 a = true) (h : ¬ a = 59) : ¬ nI (mtk 1 a) = 159 := by
  have hl := vk_lt (show 1 < 4 by decide) hv
  have hm := mtk_lt 1 (by decide) a hl
  rw [eq_li (by decide) (by omega)]
  exact fun e => h (tk_1_59 a hl hv e)
theorem tk_1_256 : ∀ a, a < 273 → vkK 1 a = true → mtk 1 a = 7 → a = 256 := by decide +kernel
theorem tY_1_256 {a : Nat} (h : a = 256) : nI (mtk 1 a) = 7 := by rw [h]; decide
theorem tN_1_256 {a : Nat} (hv : vkK 1 a = true) (h : ¬ a = 256) : ¬ nI (mtk 1 a) = 7 := by
  have hl := vk_lt (show 1 < 4 by decide) hv
  have hm := mtk_lt 1 (by decide) a hl
  rw [eq_li (by decide) (by omega)]
  exact fun e => h (tk_1_256 a hl hv e)
theorem tk_1_257 : ∀ a, a < 273 → vkK 1 a = true → mtk 1 a = 5 → a = 257 := by decide +kernel
theorem tY_1_257 {a : Nat} (h : a = 257) : nI (mtk 1 a) = 5 := by rw [h]; decide
theorem tN_1_257 {a : Nat} (hv : vkK 1 a = true) (h : ¬ a = 257) : ¬ nI (mtk 1 a) = 5 := by
  have hl := vk_lt (show 1 < 4 by decide) hv
  have hm := mtk_lt 1 (by decide) a hl
  rw [eq_li (by decide) (by omega)]
  exact fun e => h (tk_1_257 a hl hv e)
theorem tk_1_0 : ∀ a, a < 273 → vkK 1 a = true → mtk 1 a = 0 → a = 0 := by decide +kernel
theorem tN_1_0 {a : Nat} (hv : vkK 1 a = true) (h : ¬ a = 0) : ¬ nI (mtk 1 a) = 0 := by
  have hl := vk_lt (show 1 < 4 by decide) hv
  have hm := mtk_lt 1 (by decide) a hl
  rw [eq_li (by decide) (by omega)]
  exact fun e => h (tk_1_0 a hl hv e)
theorem tk_2_59 : ∀ a, a < 273 → vkK 2 a = true → mtk 2 a = 159 → a = 59 := by decide +kernel
theorem tY_2_59 {a : Nat} (h : a = 59) : nI (mtk 2 a) = 159 := by rw [h]; decide
theorem tN_2_59 {a : Nat} (hv : vkK 2 a = true) (h : ¬ a = 59) : ¬ nI (mtk 2 a) = 159 := by
  have hl := vk_lt (show 2 < 4 by decide) hv
  have hm := mtk_lt 2 (by decide) a hl
  rw [eq_li (by decide) (by omega)]
  exact fun e => h (tk_2_59 a hl hv e)
theorem tk_2_256 : ∀ a, a < 273 → vkK 2 a = true → mtk 2 a = 8 → a = 256 := by decide +kernel
theorem tY_2_256 {a : Nat} (h : a = 256) : nI (mtk 2 a) = 8 := by rw [h]; decide
theorem tN_2_256 {a : Nat} (hv : vkK 2 a = true) (h : ¬ a = 256) : ¬ nI (mtk 2 a) = 8 := by
  have hl := vk_lt (show 2 < 4 by decide) hv
  have hm := mtk_lt 2 (by decide) a hl
  rw [eq_li (by decide) (by omega)]
  exact fun e => h (tk_2_256 a hl hv e)
theorem tk_2_257 : ∀ a, a < 273 → vkK 2 a = true → mtk 2 a = 9 → a = 257 := by decide +kernel
theorem tY_2_257 {a : Nat} (h : a = 257) : nI (mtk 2 a) = 9 := by rw [h]; decide
theorem tN_2_257 {a : Nat} (hv : vkK 2 a = true) (h : ¬ a = 257) : ¬ nI (mtk 2 a) = 9 := by
  have hl := vk_lt (show 2 < 4 by decide) hv
  have hm := mtk_lt 2 (by decide) a hl
  rw [eq_li (by decide) (by omega)]
  exact fun e => h (tk_2_257 a hl hv e)
theorem tk_2_0 : ∀ a, a < 273 → vkK 2 a = true → mtk 2 a = 0 → a = 0 := by decide +kernel
theorem tN_2_0 {a : Nat} (hv : vkK 2 a = true) (h : ¬ a = 0) : ¬ nI (mtk 2 a) = 0 := by
  have hl := vk_lt (show 2 < 4 by decide) hv
  have hm := mtk_lt 2 (by decide) a hl
  rw [eq_li (by decide) (by omega)]
  exact fun e => h (tk_2_0 a hl hv e)
theorem tk_3_59 : ∀ a, a < 273 → vkK 3 a = true → mtk 3 a = 159 → a = 59 := by decide +kernel
theorem tY_3_59 {a : Nat} (h : a = 59) : nI (mtk 3 a) = 159 := by rw [h]; decide
theorem tN_3_59 {a : Nat} (hv : vkK 3 a = true) (h : ¬ a = 59) : ¬ nI (mtk 3 a) = 159 := by
  have hl := vk_lt (show 3 < 4 by decide) hv
  have hm := mtk_lt 3 (by decide) a hl
  rw [eq_li (by decide) (by omega)]
  exact fun e => h (tk_3_59 a hl hv e)
theorem tk_3_256 : ∀ a, a < 273 → vkK 3 a = true → mtk 3 a = 10 → a = 256 := by decide +kernel
theorem tY_3_256 {a : Nat} (h : a = 256) : nI (mtk 3 a) = 10 := by rw [h]; decide
theorem tN_3_256 {a : Nat} (hv : vkK 3 a = true) (h : ¬ a = 256) : ¬ nI (mtk 3 a) = 10 := by
  have hl := vk_lt (show 3 < 4 by decide) hv
  have hm := mtk_lt 3 (by decide) a hl
  rw [eq_li (by decide) (by omega)]
  exact fun e => h (tk_3_256 a hl hv e)
theorem tk_3_257 : ∀ a, a < 273 → vkK 3 a = true → mtk 3 a = 11 → a = 257 := by decide +kernel
theorem tY_3_257 {a : Nat} (h : a = 257) : nI (mtk 3 a) = 11 := by rw [h]; decide
theorem tN_3_257 {a : Nat} (hv : vkK 3 a = true) (h : ¬ a = 257) : ¬ nI (mtk 3 a) = 11 := by
  have hl := vk_lt (show 3 < 4 by decide) hv
  have hm := mtk_lt 3 (by decide) a hl
  rw [eq_li (by decide) (by omega)]
  exact fun e => h (tk_3_257 a hl hv e)
theorem tk_3_258 : ∀ a, a < 273 → vkK 3 a = true → mtk 3 a = 12 → a = 258 := by decide +kernel
theorem tY_3_258 {a : Nat} (h : a = 258) : nI (mtk 3 a) = 12 := by rw [h]; decide
theorem tN_3_258 {a : Nat} (hv : vkK 3 a = true) (h : ¬ a = 258) : ¬ nI (mtk 3 a) = 12 := by
  have hl := vk_lt (show 3 < 4 by decide) hv
  have hm := mtk_lt 3 (by decide) a hl
  rw [eq_li (by decide) (by omega)]
  exact fun e => h (tk_3_258 a hl hv e)
theorem tk_3_0 : ∀ a, a < 273 → vkK 3 a = true → mtk 3 a = 0 → a = 0 := by decide +kernel
theorem tN_3_0 {a : Nat} (hv : vkK 3 a = true) (h : ¬ a = 0) : ¬ nI (mtk 3 a) = 0 := by
  have hl := vk_lt (show 3 < 4 by decide) hv
  have hm := mtk_lt 3 (by decide) a hl
  rw [eq_li (by decide) (by omega)]
  exact fun e => h (tk_3_0 a hl hv e)
theorem tk2 : ∀ k, k < 4 → ∀ a, a < 273 → vkK k a = true → (mtk k a = 2 ↔ a = 1) := by decide +kernel
theorem m_num {k : Nat} (hk : k < 4) {b : Nat → Nat} {n : Nat} {v0 : Int32} {u : Mem} {j m : Nat} (hm : m ≤ 10000) (hA : myT k b n v0 j u) {p : Int32} (hp : p = nI m - 1) : (kk k b n j = 1 ∧ vv b n v0 j < m ∧ ∃ u', FX12_number_146 0 p u = some (1, u') ∧ myR u u' ∧ u' 146 26 = nI (vv b n v0 j) ∧ u' 153 = u 153 ∧ myT k b n v0 (j + 1) u') ∨ (¬ (kk k b n j = 1 ∧ vv b n v0 j < m) ∧ ∃ u', FX12_number_146 0 p u = some (0, u') ∧ myR u u' ∧ myE b n (if kk k b n j = 1 then 2 else 1) j u') := by
  have hv := kk_v k b n j
  have hl := vk_lt hk hv
  have hml := mtk_lt k hk _ hl
  have h2 := tk2 k hk _ hl hv
  unfold FX12_number_146
  rw [hA.2.2.2.1, m_in, b_some, hp]
  by_cases c : kk k b n j = 1
  · obtain ⟨s1, s2⟩ := vv_le (v0 := v0) c
    have hvl := vl_le b n (qs b n j)
    rw [if_pos (show nI (mtk k (kk k b n j)) = 2 by rw [h2.mpr c]; rfl), hA.2.2.2.2, s1, ← s2, if_pos c]
    by_cases c2 : vv b n v0 j < m
    · rw [if_pos (show (0 : Int32) ≤ nI (vv b n v0 j) ∧ nI (vv b n v0 j) ≤ nI m - 1 from ⟨nI_0le (by omega), by rw [lim_le hm (by omega)]; exact c2⟩), if_neg z1, b_some]
      obtain ⟨u1, e1, f1, d1, c1, hA1⟩ := mk_nx hk (myT_26 hA (Or.inl rfl) (nI (vv b n v0 j)))
      rw [e1, b_some]
      exact Or.inl ⟨c, c2, u1, rfl, myR_t (myR_u u _ (by decide)) f1, by rw [d1, m_eq, up_eq], by rw [c1, m_ne (by decide)], hA1⟩
    · rw [if_neg (show ¬ ((0 : Int32) ≤ nI (vv b n v0 j) ∧ nI (vv b n v0 j) ≤ nI m - 1) from fun h => by rw [lim_le hm (by omega)] at h; exact c2 h.2), if_pos rfl]
      obtain ⟨u1, e1, f1, x1⟩ := mk_bad hA 2
      exact Or.inr ⟨fun h => c2 h.2, u1, e1, f1, x1⟩
  · rw [if_neg (show ¬ nI (mtk k (kk k b n j)) = 2 by rw [eq_li (by decide) (by omega)]; exact fun h => c (h2.mp h)), if_neg c]
    obtain ⟨u1, e1, f1, x1⟩ := mk_bad hA 1
    exact Or.inr ⟨fun h => c h.1, u1, e1, f1, x1⟩
/-! a row read, both sides: the frame of the class -/
def txR (u0 u : Mem) : Prop := (∀ c, c < 34 ∨ (34 < c ∧ c < 39) ∨ 51 < c → u c = u0 c) ∧ ∀ x, x ≠ 9 → x ≠ 10 → x ≠ 11 → x ≠ 13 → x ≠ 14 → u 34 x = u0 34 x
theorem txR_r (u : Mem) : txR u u := ⟨fun _ _ => rfl, fun _ _ _ _ _ _ => rfl⟩
theorem txR_t {u u1 u2 : Mem} (h : txR u u1) (h' : txR u1 u2) : txR u u2 := ⟨fun c a => (h'.1 c a).trans (h.1 c a), fun x a b c d e => (h'.2 x a b c d e).trans (h.2 x a b c d e)⟩
theorem txGo_R (K : Nat → Nat) (u : Mem) (j : Nat) : txR u (txGo K u j) := ⟨fun c a => by unfold txGo; rw [m_ne (by omega), m_ne (by omega)], fun x a b _ _ _ => by unfold txGo; rw [m_eq, up_ne b, m_eq, up_ne a]⟩
theorem txR_11 {u : Mem} (x : Int32) : txR u (mupd u 34 11 x) := ⟨fun y hy => m_ne (by omega), fun y _ _ h _ _ => by rw [m_eq, up_ne h]⟩
theorem txR_c {u : Mem} {c k : Nat} (x : Int32) (h : 46 ≤ c ∧ c ≤ 51) : txR u (mupd u c k x) := ⟨fun y hy => m_ne (by omega), fun y _ _ _ _ _ => by rw [m_ne (by omega)]⟩
/-- cells of the text alone: what fail and go change -/
def txH (u0 u : Mem) : Prop := (∀ c, c ≠ 34 → u c = u0 c) ∧ ∀ x, x ≠ 9 → x ≠ 10 → x ≠ 13 → x ≠ 14 → u 34 x = u0 34 x
theorem txH_t {u u1 u2 : Mem} (h : txH u u1) (h' : txH u1 u2) : txH u u2 := ⟨fun c a => (h'.1 c a).trans (h.1 c a), fun x a b d e => (h'.2 x a b d e).trans (h.2 x a b d e)⟩
theorem txGo_H (K : Nat → Nat) (u : Mem) (j : Nat) : txH u (txGo K u j) := ⟨fun c a => by unfold txGo; rw [m_ne a, m_ne a], fun x a b _ _ => by unfold txGo; rw [m_eq, up_ne b, m_eq, up_ne a]⟩
/-- a row's outcome, both sides: a fault at a place, or on -/
def rowX (b : Nat → Nat) (n : Nat) (u w : Mem) (a : Option Mem) (g : Nat → Option (Int32 × Mem)) : Prop := ∃ f y u1 w1, f ≠ 0 ∧ f < 4 ∧ a = some u1 ∧ txR u u1 ∧ txX (qs b n) f y u1 ∧ (∀ F, g (F + 2) = some (0, w1)) ∧ (∀ c, c ≠ 146 → c ≠ 153 → w1 c = w c) ∧ (∀ j, j < 15 ∨ j = 16 ∨ j = 23 ∨ j = 24 ∨ j = 25 → w1 146 j = w 146 j) ∧ myE b n f y w1
theorem row_f {k : Nat} {b : Nat → Nat} {n : Nat} {u w w1 u1 : Mem} {a : Option Mem} {f y : Nat} (hf : f ≠ 0) (hf4 : f < 4) (ha : a = some u1) (hR : txR u u1) (hX : txX (qs b n) f y u1) (e0 : ¬ w 146 18 = 0) (e16 : w 146 15 ≠ 16 ∨ FX12_begins_146 w = some 0) (hm : FX12_aRow_146 w = some (0, w1)) (hM : myR w w1) (hE : myE b n f y w1) : rowX b n u w a (fun F => FX12_readsRows_146_L7 F 1 w) := by
  refine ⟨f, y, u1, mupd w1 146 15 (w1 146 15 + 0), hf, hf4, ha, hR, hX, fun F => ?_, fun c h1 h2 => by rw [m_ne h1]; exact hM.1 c h1 h2, fun j hj => by rw [m_eq, up_ne (by omega)]; exact hM.2 j (by omega), by rw [m_eq, up_ne (by decide)]; exact hE.1, by rw [m_eq, up_ne (by decide)]; exact hE.2⟩
  have hb : FX12_readsRows_146_b40 (FX12_readsRows_146_L7 (F + 1)) w = some (0, mupd w1 146 15 (w1 146 15 + 0)) := by
    unfold FX12_readsRows_146_b40 FX12_readsRows_146_b59
    rw [hm, b2_some, if_pos rfl, b_some]
    show FX12_readsRows_146_b7 _ _ _ = _
    unfold FX12_readsRows_146_b7 FX12_readsRows_146_b66
    rw [if_pos rfl, bchk_0, b_some]
  show FX12_readsRows_146_b7 _ _ _ = _
  unfold FX12_readsRows_146_b7
  rw [if_neg z1, if_neg e0]
  by_cases c : w 146 15 = 16
  · rw [if_pos c]
    rcases e16 with h | h
    · exact absurd c h
    · rw [h, b_some, if_pos rfl, hb]
  · rw [if_neg c, hb]
theorem row_3 {k : Nat} {b : Nat → Nat} {n : Nat} {v0 : Int32} {i : Nat} {u w u1 : Mem} {a : Option Mem} (hA : myT k b n v0 i w) (ha : a = some u1) (hR : txR u u1) (hX : txX (qs b n) 3 i u1) (e0 : ¬ w 146 18 = 0) (e16 : w 146 15 = 16) (hb : FX12_begins_146 w = some 1) : rowX b n u w a (fun F => FX12_readsRows_146_L7 F 1 w) := by
  obtain ⟨w1, e1, f1, x1⟩ := mk_bad hA 3
  have e1 : (bnd2 (FX12_bad_146 3 w) fun x u' => (bchk x).bind fun y => some (y, u')) = some (0, w1) := e1
  refine ⟨3, i, u1, w1, by decide, by decide, ha, hR, hX, fun F => ?_, fun c h1 h2 => f1.1 c h1 h2, fun j hj => f1.2 j (by omega), x1⟩
  show FX12_readsRows_146_b7 _ _ _ = _
  unfold FX12_readsRows_146_b7
  rw [if_neg z1, if_neg e0, if_pos e16, hb, b_some, if_neg z1, e1]
theorem row_y {w w1 : Mem} {L : Nat} (e0 : ¬ w 146 18 = 0) (hL : L < 16) (h15 : w 146 15 = nI L) (hm : FX12_aRow_146 w = some (1, w1)) (hM : myR w w1) (F : Nat) : FX12_readsRows_146_L7 (F + 1) 1 w = FX12_readsRows_146_L7 F 1 (mupd w1 146 15 (nI (L + 1))) := by
  show FX12_readsRows_146_b7 _ _ _ = _
  unfold FX12_readsRows_146_b7 FX12_readsRows_146_b40 FX12_readsRows_146_b59
  rw [if_neg z1, if_neg e0, h15, if_neg (by rw [eq_li (by decide) (by omega)]; show ¬ L = 16; omega), hm, b2_some, if_neg z1, hM.2 15 (by decide), h15, nI_1, b_some]

