/-! the rows of tellings -/
theorem ge_rows {k : Nat} (hk : k < 4) {b : Nat → Nat} {n : Nat} {v0 : Int32} {g0 : Mem} {c : Nat} {R : Nat → Int32} {ln : Nat → List Nat → List Nat} {N : Nat} (hN : N ≤ 16) (step : ∀ (l i p : Nat) (w : Mem) (r : List Nat), l < N → Rs k b n v0 i w g0 l c R → Sx b n p (ln l r) → qs b n i = p → hd isBl r = true → ∃ w1 i' p', i < i' ∧ kk k b n i ≠ 0 ∧ FX12_aRow_146 w = some (1, w1) ∧ myR w w1 ∧ myT k b n v0 i' w1 ∧ (∀ y, y < c * (l + 1) → w1 153 y = R y) ∧ qs b n i' = p' ∧ Sx b n p' r) (hb : ∀ l r, hd isBl (ln l r) = true) (m0 : ∀ a, a < 273 → vkK k a = true → mtk k a = 0 → a = 0) : ∀ (d l i p F : Nat) (w : Mem) (rest : Nat → List Nat), l + d = N → d < F → rest N = [] → (∀ j, j < N → rest j = ln j (rest (j + 1))) → Rs k b n v0 i w g0 l c R → Sx b n p (rest l) → qs b n i = p → ∃ w' i', FX12_readsRows_146_L7 F 1 w = some (1, w') ∧ Rs k b n v0 i' w' g0 N c R := by
  intro d
  induction d with
  | zero =>
    intro l i p F w rest hl hF h0 hr h hS hq
    obtain ⟨F, rfl⟩ : ∃ F', F = F' + 1 := ⟨F - 1, by omega⟩
    have e : l = N := by omega
    subst e
    rw [h0] at hS
    have e0 := (sx_e k hS hq).1
    refine ⟨w, i, ?_, h⟩
    show FX12_readsRows_146_b7 _ _ _ = _
    unfold FX12_readsRows_146_b7 FX12_readsRows_146_b66
    rw [if_neg z1, myT_18 h.1, e0, if_pos (show nI (mtk k 0) = 0 from rfl)]
    rfl
  | succ d ih =>
    intro l i p F w rest hl hF h0 hr h hS hq
    obtain ⟨F, rfl⟩ : ∃ F', F = F' + 1 := ⟨F - 1, by omega⟩
    rw [hr l (by omega)] at hS
    have hb' : hd isBl (rest (l + 1)) = true := by
      by_cases c : l + 1 = N
      · rw [c, h0]; rfl
      · rw [hr (l + 1) (by omega)]; exact hb _ _
    obtain ⟨w1, i', p', a1, a2, a3, a4, a5, a6, a7, a8⟩ := step l i p w (rest (l + 1)) (by omega) h hS hq hb'
    have e0 : ¬ w 146 18 = 0 := by
      rw [myT_18 h.1]
      have hl1 := mtk_lt k hk _ (vk_lt hk (kk_v k b n i))
      rw [show (0 : Int32) = nI 0 by decide, nn_eq (by omega) (by omega)]
      exact fun z => a2 (m0 _ (vk_lt hk (kk_v k b n i)) (kk_v k b n i) z)
    have hy := row_y e0 (show l < 16 by omega) h.2.1 a3 a4 F
    have h2 : Rs k b n v0 i' (mupd w1 146 15 (nI (l + 1))) g0 (l + 1) c R := by
      refine ⟨myT_26 a5 (Or.inr rfl) _, by rw [m_eq, up_eq], fun y hy => by rw [m_ne (by decide)]; exact a6 y hy, fun q q1 q2 => by rw [m_ne q1, a4.1 q q1 q2]; exact h.2.2.2.1 q q1 q2, by rw [m_eq, up_ne (by omega), a4.2 4 (by omega)]; exact h.2.2.2.2⟩
    obtain ⟨w', i2, r1, r2⟩ := ih (l + 1) i' p' F _ rest (by omega) (by omega) h0 hr h2 a8 a7
    exact ⟨w', i2, by rw [hy]; exact r1, r2⟩
def tlw (ln : Nat → Nat × Nat × Option Nat) (y : Nat) : Int32 := if y % 2 = 0 then nI (ln (y / 2)).1 else tlM (ln (y / 2))
/-- what is left of the lines from s on -/
def rst (f : Nat → List Nat → List Nat) (N : Nat) : Nat → Nat → List Nat
  | 0, _ => []
  | d + 1, s => f s (rst f N d (s + 1))
theorem FX12_aRow_1 {w : Mem} (h : w 146 12 = 1) {r : Int32} {w1 : Mem} (hr : r = 0 ∨ r = 1) (e : FX12_aTelling_146 w = some (r, w1)) : FX12_aRow_146 w = some (r, w1) := by
  unfold FX12_aRow_146 bchk
  rw [if_pos h, e, b2_some, if_pos hr, b_some]
theorem ge_tellS {b : Nat → Nat} {n : Nat} {v0 : Int32} {g0 : Mem} {men N : Nat} {ln : Nat → Nat × Nat × Option Nat} (hmen : men ≤ 12) (h78 : g0 147 78 = nI men) (hN : N ≤ 16) (ok : ∀ l, l < N → (ln l).1 < men ∧ ((ln l).2.1 < men ∧ (ln l).2.1 ≠ (ln l).1) ∧ ∀ o, (ln l).2.2 = some o → o < men ∧ o ≠ (ln l).1) (l i p : Nat) (w : Mem) (r : List Nat) (hl : l < N) (h : Rs 1 b n v0 i w g0 l 2 (tlw ln)) (hS : Sx b n p (tlB (ln l) r)) (hq : qs b n i = p) (hr : hd isBl r = true) : ∃ w1 i' p', i < i' ∧ kk 1 b n i ≠ 0 ∧ FX12_aRow_146 w = some (1, w1) ∧ myR w w1 ∧ myT 1 b n v0 i' w1 ∧ (∀ y, y < 2 * (l + 1) → w1 153 y = tlw ln y) ∧ qs b n i' = p' ∧ Sx b n p' r := by
  obtain ⟨o1, o2, o3⟩ := ok l hl
  obtain ⟨w1, i', p', a1, a2, a3, a4, a5, a6, a7, a8, a9, a10⟩ := ge_tell h.1 hS hq hmen o1 o2 o3 hr (by rw [h.2.2.2.1 147 (by decide) (by decide)]; exact h78) h.2.1 (by omega)
  refine ⟨w1, i', p', a1, a2, FX12_aRow_1 (by rw [h.1.1.2.2]; rfl) (Or.inr rfl) a3, a4, a8, fun y hy => ?_, a9, a10⟩
  by_cases c1 : y = 2 * l
  · subst c1
    rw [a6]
    unfold tlw
    rw [if_pos (by omega), show 2 * l / 2 = l by omega]
  · by_cases c2 : y = 2 * l + 1
    · subst c2
      rw [a7]
      unfold tlw
      rw [if_neg (by omega), show (2 * l + 1) / 2 = l by omega]
    · rw [a5 y c1 c2]
      exact h.2.2.1 y (by omega)
