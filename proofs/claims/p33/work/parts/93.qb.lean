/-! the text of tellings, whole -/
theorem rst_end (f : Nat → List Nat → List Nat) (N : Nat) : rst f N 0 N = [] := rfl
theorem tk_1_0' : ∀ a, a < 273 → vkK 1 a = true → mtk 1 a = 0 → a = 0 := tk_1_0
/-- after the reading: the rows are put, what was done is forgotten, the tape is empty -/
theorem ge_text1 {g : Mem} {W : Wt} {S : List Wt} {bs : List Nat} {N : Nat} {ln : Nat → Nat × Nat × Option Nat} (h : GT g W S (chF bs) bs.length) (hT : OkT W) (hN : N ≤ 16) (hbs : bs = rst (fun s r => tlB (ln s) r) N N 0) (ok : ∀ l, l < N → (ln l).1 < nmen W ∧ ((ln l).2.1 < nmen W ∧ (ln l).2.1 ≠ (ln l).1) ∧ ∀ o, (ln l).2.2 = some o → o < nmen W ∧ o ≠ (ln l).1) : ∃ g' W', FX12_text_146 1 g = some (nI N, g') ∧ GS g' W' [] ∧ W' 85 = nI N ∧ (∀ y, y < 2 * N → W' (158 + y) = tlw ln y) ∧ ∀ x, x ≠ 85 → (x < 158 ∨ 190 ≤ x) → W' x = W x := by
  obtain ⟨h1, ⟨h2, h3, h4⟩, h5, h6, h7⟩ := h
  obtain ⟨hn, h12⟩ := OkT_n hT
  obtain ⟨w1, e1, ⟨b1, b2, b3, b4, b5⟩⟩ := m_begin (k := 1) (by decide) (b := chF bs) (n := bs.length) (w := g) ⟨h6, h7⟩ h5
  have hrst : ∀ j, j < N → rst (fun s r => tlB (ln s) r) N (N - j) j = tlB (ln j) (rst (fun s r => tlB (ln s) r) N (N - (j + 1)) (j + 1)) := fun j hj => by
    rw [show N - j = (N - (j + 1)) + 1 by omega]
    rfl
  have hS : Sx (chF bs) bs.length 0 (rst (fun s r => tlB (ln s) r) N (N - 0) 0) := by
    rw [Nat.sub_zero, ← hbs]
    exact Sx_all bs
  have hdl : ∀ l r, l < N → hd isBl (tlB (ln l) r) = true := fun l r hl => (hd_dg (by have := (ok l hl).1; omega) _).1
  have h0 : hd isBl (rst (fun s r => tlB (ln s) r) N (N - 0) 0) = true := by
    by_cases c : N = 0
    · subst c; rfl
    · rw [hrst 0 (by omega)]
      exact hdl 0 _ (by omega)
  have hq0 := qs_0 hS h0
  -- the row count begins at nothing
  have T0 : myT 1 (chF bs) bs.length (g 146 20) 0 (mupd w1 146 15 0) := myT_26 b1 (Or.inr rfl) 0
  have R0 : Rs 1 (chF bs) bs.length (g 146 20) 0 (mupd w1 146 15 0) g 0 2 (tlw ln) := ⟨T0, by rw [m_eq, up_eq]; rfl, fun y hy => by omega, fun q q1 q2 => by rw [m_ne q1, b4 q q1], by rw [m_eq, up_ne (by omega), b5 4 (by omega)]⟩
  have main : ∃ w' i', FX12_readsRows_146_L7 FU 1 (mupd w1 146 15 0) = some (1, w') ∧ Rs 1 (chF bs) bs.length (g 146 20) i' w' g N 2 (tlw ln) := by
    refine ge_rows (by decide) (ln := fun l r => if l < N then tlB (ln l) r else []) hN (fun l i p w r hl hR hS hq hr => ?_) (fun l r => ?_) tk_1_0 N 0 0 0 FU _ (fun j => rst (fun s r => tlB (ln s) r) N (N - j) j) (by omega) (by show _ < 10000; omega) ?_ (fun j hj => ?_) R0 hS hq0
    · have hS' : Sx (chF bs) bs.length p (tlB (ln l) r) := by
        have z := hS
        rw [if_pos hl] at z
        exact z
      exact ge_tellS h12 (by rw [h1]; exact hn) hN ok l i p w r hl hR hS' hq hr
    · by_cases c : l < N
      · simp only [if_pos c]
        exact hdl l r c
      · simp only [if_neg c]
        rfl
    · show rst _ N (N - N) N = []
      rw [Nat.sub_self]
      rfl
    · simp only [if_pos hj]
      exact hrst j hj
  obtain ⟨w2, i2, f1, f2⟩ := main
  have g7 : w2 147 = W := (f2.2.2.2.1 147 (by decide) (by decide)).trans h1
  obtain ⟨w3, p1, p2, p3, p4, p5⟩ := m_puts_85 (w := mupd (mupd w2 146 16 0) 146 4 0) (L := N) hN (by rw [m_eq, up_ne (by omega), m_eq, up_ne (by omega)]; exact f2.2.1)
  have m7 : (mupd (mupd w2 146 16 0) 146 4 0) 147 = W := by rw [m_ne (by decide), m_ne (by decide)]; exact g7
  refine ⟨w3, w3 147, ?_, ⟨rfl, ⟨by decide, by rw [p2 146 (by decide), m_eq, up_eq]; rfl, fun j R hj => by cases hj⟩, by rw [p2 146 (by decide), m_eq, up_ne (by omega), m_eq, up_eq]⟩, p3, fun y hy => ?_, fun x x1 x2 => ?_⟩
  · have e1' : FX12_text_146 1 g = _ := e1
    rw [e1', if_neg (by decide)]
    have er : FX12_readsRows_146 w1 = some (1, w2) := by
      unfold FX12_readsRows_146
      rw [b_some]
      exact f1
    rw [er, b2_some]
    unfold FX12_text_146_b60 FX12_putsText_146
    rw [b_some, if_neg z1, show nI 1 = 1 by decide, if_neg (by decide), if_neg (by decide), m_forget, b_some, if_pos rfl, p1, b2_some, b2_some]
  · rw [p4 y hy, m_ne (by decide), m_ne (by decide)]
    exact f2.2.2.1 y hy
  · rw [p5 x x1 (by omega), m7]
