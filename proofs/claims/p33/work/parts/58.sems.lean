/-! what is told of a man; slippers -/
theorem SQ_br {v w : Mem} (h : SP v w) {j m : Nat} (hj : j < 6) (hm : m < 12) {x : Int32} (hD : OkD (upd (w 147) (4 + 12 * j + m) x)) : SQ (mupd v (23 + 1 + j) m x) (mupd w 147 (4 + 12 * j + m) x) := by
  obtain ⟨a, b, c, d, f, g⟩ := SP_Q h
  unfold SQ
  rw [m_eq w, m_ne (show 146 ≠ 147 by decide), m_ne (show 148 ≠ 147 by decide), m_ne (show 154 ≠ 147 by decide)]
  exact ⟨WO_u a (s78_u (by omega)) hD, XR_u32 b a.1 hj hm x, by rw [m_ne (by omega)]; exact c, by rw [m_ne (by omega)]; exact d, IMG_cg (fun c hc => m_ne (by omega)) f, RD_cg (m_ne (by omega)) (m_ne (by omega)) g⟩
theorem A_set56 (p q x : Int32) (hp : p = 5 ∨ p = 6) : A2 (FX11_set_0 p q x) (FX12_set_146 p q x) := by
  intro v w h
  obtain ⟨a, b, -⟩ := id h
  obtain ⟨hn, hn12⟩ := OkT_n a.1
  have i5 : ¬ (6 : Int32) = 5 := by decide
  have cN : ∀ y, (¬ ∃ m, m < nmen (w 147) ∧ y = nI m) → FX9_hasMan_1 y v = some 0 := fun y hy => c_hasN (gmen b.1) a.1 hy
  by_cases c : ∃ m, m < nmen (w 147) ∧ q = nI m
  · obtain ⟨m, hm, rfl⟩ := c
    have hm12 : m < 12 := by omega
    rcases hp with rfl | rfl
    · have hm0 : FX12_canSet_146 5 (nI m) x w = some (if 0 ≤ x ∧ x ≤ 99 then 1 else 0) := by
        unfold FX12_canSet_146
        rw [if_neg (show ¬ (5 : Int32) = 0 by decide), if_neg (show ¬ (5 : Int32) = 1 by decide), if_neg (show ¬ (5 : Int32) = 2 by decide), if_neg (show ¬ (5 : Int32) = 3 by decide), if_neg (show ¬ (5 : Int32) = 4 by decide), if_pos rfl, m_isMan rfl a.1 hm, b_some, if_neg z1, m_in, b_some]
        by_cases c2 : 0 ≤ x ∧ x ≤ 99
        · rw [if_pos c2, if_neg z1]
        · rw [if_neg c2, if_pos rfl]
      unfold FX11_set_0 FX12_set_146 FX11_set_0_b27 FX11_set_0_b69
      rw [if_neg (by decide), if_pos (by decide), if_pos rfl, c_has (gmen b.1) a.1 hm, b_some, if_neg z1, if_neg (show ¬ (5 : Int32) = 6 by decide), hm0, b_some]
      by_cases c2 : 0 ≤ x ∧ x ≤ 99
      · rw [if_neg (by rw [Int32.not_lt]; exact c2.1), if_neg (by rw [Int32.not_lt]; exact c2.2), wb hm12 (by omega), set_1, if_pos c2, if_neg z1, show FX12_placeOf 5 (nI m) = some (4 + nI m) from rfl, b_some, wl (by show 4 + m < _; omega) (by omega), m_forget, b_some]
        rw [i32_99] at c2
        exact ⟨1, _, _, rfl, rfl, SQ_f (SQ_br h (j := 0) (by omega) hm12 (OkD_ubr a.2.1 hm12 c2))⟩
      · rw [if_neg c2, if_pos rfl]
        refine ⟨0, v, w, ?_, rfl, h⟩
        rcases not_in c2 with c3 | ⟨c3, c4⟩
        · rw [if_pos c3, set_0]
        · rw [if_neg c3, if_pos (by rw [← Int32.not_le]; exact c4), set_0]
    · have hm0 : FX12_canSet_146 6 (nI m) x w = some (if 0 ≤ x ∧ x ≤ 999 then 1 else 0) := by
        unfold FX12_canSet_146
        rw [if_neg (show ¬ (6 : Int32) = 0 by decide), if_neg (show ¬ (6 : Int32) = 1 by decide), if_neg (show ¬ (6 : Int32) = 2 by decide), if_neg (show ¬ (6 : Int32) = 3 by decide), if_neg (show ¬ (6 : Int32) = 4 by decide), if_neg i5, if_pos rfl, m_isMan rfl a.1 hm, b_some, if_neg z1, m_in, b_some]
        by_cases c2 : 0 ≤ x ∧ x ≤ 999
        · rw [if_pos c2, if_neg z1]
        · rw [if_neg c2, if_pos rfl]
      unfold FX11_set_0 FX12_set_146 FX11_set_0_b27 FX11_set_0_b69
      rw [if_neg (by decide), if_pos (by decide), if_neg i5, if_pos rfl, c_has (gmen b.1) a.1 hm, b_some, if_neg z1, hm0, b_some]
      by_cases c2 : 0 ≤ x ∧ x ≤ 999
      · rw [if_neg (by rw [Int32.not_lt]; exact c2.1), if_neg (by rw [Int32.not_lt]; exact c2.2), wb hm12 (by omega), set_1, if_pos c2, if_neg z1, show FX12_placeOf 6 (nI m) = some (28 + nI m) from rfl, b_some, wl (by show 28 + m < _; omega) (by omega), m_forget, b_some]
        rw [i32_999] at c2
        exact ⟨1, _, _, rfl, rfl, SQ_f (SQ_br h (j := 2) (by omega) hm12 (OkD_ucn a.2.1 hm12 c2))⟩
      · rw [if_neg c2, if_pos rfl]
        refine ⟨0, v, w, ?_, rfl, h⟩
        rcases not_in c2 with c3 | ⟨c3, c4⟩
        · rw [if_pos c3, set_0]
        · rw [if_neg c3, if_pos (by rw [← Int32.not_le]; exact c4), set_0]
  · refine ⟨0, v, w, ?_, ?_, h⟩
    · unfold FX11_set_0 FX11_set_0_b27 FX11_set_0_b69
      rw [cN q c, b_some, b_some]
      rcases hp with rfl | rfl
      · rw [if_neg (by decide), if_pos (by decide), if_pos rfl, if_pos rfl, if_neg (by decide), set_0]
      · rw [if_neg (by decide), if_pos (by decide), if_neg i5, if_pos rfl, if_pos rfl, set_0]
    · unfold FX12_set_146 FX12_canSet_146
      rw [m_isManN rfl a.1 c, b_some, b_some]
      rcases hp with rfl | rfl
      · rw [if_neg (show ¬ (5 : Int32) = 0 by decide), if_neg (show ¬ (5 : Int32) = 1 by decide), if_neg (show ¬ (5 : Int32) = 2 by decide), if_neg (show ¬ (5 : Int32) = 3 by decide), if_neg (show ¬ (5 : Int32) = 4 by decide), if_pos rfl, if_pos rfl, b_some, if_pos rfl]
      · rw [if_neg (show ¬ (6 : Int32) = 0 by decide), if_neg (show ¬ (6 : Int32) = 1 by decide), if_neg (show ¬ (6 : Int32) = 2 by decide), if_neg (show ¬ (6 : Int32) = 3 by decide), if_neg (show ¬ (6 : Int32) = 4 by decide), if_neg i5, if_pos rfl, if_pos rfl, b_some, if_pos rfl]
theorem A_set (p q x : Int32) : A2 (FX11_set_0 p q x) (FX12_set_146 p q x) := by
  by_cases h0 : p = 0
  · subst h0; exact A_set0 q x
  by_cases h1 : p = 1
  · subst h1; exact A_set1 q x
  by_cases h2 : p = 2
  · subst h2; exact A_set2 q x
  by_cases h3 : p = 3
  · subst h3; exact A_set3 q x
  by_cases h4 : p = 4
  · subst h4; exact A_set4 q x
  by_cases h5 : p = 5
  · exact A_set56 p q x (Or.inl h5)
  by_cases h6 : p = 6
  · exact A_set56 p q x (Or.inr h6)
  intro v w h
  refine ⟨0, v, w, ?_, ?_, h⟩
  · unfold FX11_set_0 FX11_set_0_b27 FX11_set_0_b69
    rw [if_neg h5, if_neg h6, set_0]
    by_cases c : p < 0
    · rw [if_pos c]
    · rw [if_neg c, if_pos]
      obtain ⟨j, hj, rfl⟩ := nI_of c
      rw [li_lt (by decide) (by omega)]
      show 4 < j
      rcases (by omega : j = 0 ∨ j = 1 ∨ j = 2 ∨ j = 3 ∨ j = 4 ∨ 4 < j) with rfl | rfl | rfl | rfl | rfl | e
      · exact absurd nI_0 h0
      · exact absurd rfl h1
      · exact absurd rfl h2
      · exact absurd rfl h3
      · exact absurd rfl h4
      · exact e
  · unfold FX12_set_146 FX12_canSet_146
    rw [if_neg h0, if_neg h1, if_neg h2, if_neg h3, if_neg h4, if_neg h5, if_neg h6, b_some, if_pos rfl]

