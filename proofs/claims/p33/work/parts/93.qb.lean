/-! the texts of rows, whole -/
theorem ge_reads {k c : Nat} (hk1 : 1 ≤ k) (hk : k < 4) {g : Mem} {W : Wt} {S : List Wt} {bs : List Nat} {N : Nat} {R : Nat → Int32} {f : Nat → List Nat → List Nat} (h : GT g W S (chF bs) bs.length) (hN : N ≤ 16) (hbs : bs = rst f N N 0) (hdl : ∀ l r, l < N → hd isBl (f l r) = true) (m0 : ∀ a, a < 273 → vkK k a = true → mtk k a = 0 → a = 0) (step : ∀ (b : Nat → Nat) (n : Nat) (v0 : Int32) (l i p : Nat) (w : Mem) (r : List Nat), l < N → Rs k b n v0 i w g l c R → Sx b n p (f l r) → qs b n i = p → hd isBl r = true → ∃ w1 i' p', i < i' ∧ kk k b n i ≠ 0 ∧ FX12_aRow_146 w = some (1, w1) ∧ myR w w1 ∧ myT k b n v0 i' w1 ∧ (∀ y, y < c * (l + 1) → w1 153 y = R y) ∧ qs b n i' = p' ∧ Sx b n p' r) : ∃ w2, FX12_text_146 (nI k) g = FX12_text_146_b60 (nI k) 1 w2 ∧ w2 146 15 = nI N ∧ (∀ y, y < c * N → w2 153 y = R y) ∧ (∀ q, q ≠ 146 → q ≠ 153 → w2 q = g q) ∧ w2 146 4 = g 146 4 := by
  obtain ⟨h1, ⟨h2, h3, h4⟩, h5, h6, h7⟩ := h
  obtain ⟨w1, e1, ⟨b1, b2, b3, b4, b5⟩⟩ := m_begin (k := k) hk (b := chF bs) (n := bs.length) (w := g) ⟨h6, h7⟩ h5
  have hrst : ∀ j, j < N → rst f N (N - j) j = f j (rst f N (N - (j + 1)) (j + 1)) := fun j hj => by
    rw [show N - j = (N - (j + 1)) + 1 by omega]
    rfl
  have hS : Sx (chF bs) bs.length 0 (rst f N (N - 0) 0) := by
    rw [Nat.sub_zero, ← hbs]
    exact Sx_all bs
  have h0 : hd isBl (rst f N (N - 0) 0) = true := by
    by_cases c : N = 0
    · subst c; rfl
    · rw [hrst 0 (by omega)]
      exact hdl 0 _ (by omega)
  have hq0 := qs_0 hS h0
  have T0 : myT k (chF bs) bs.length (g 146 20) 0 (mupd w1 146 15 0) := myT_26 b1 (Or.inr rfl) 0
  have R0 : Rs k (chF bs) bs.length (g 146 20) 0 (mupd w1 146 15 0) g 0 c R := ⟨T0, by rw [m_eq, up_eq]; rfl, fun y hy => by omega, fun q q1 q2 => by rw [m_ne q1, b4 q q1], by rw [m_eq, up_ne (by omega), b5 4 (by omega)]⟩
  have main : ∃ w' i', FX12_readsRows_146_L7 FU 1 (mupd w1 146 15 0) = some (1, w') ∧ Rs k (chF bs) bs.length (g 146 20) i' w' g N c R := by
    refine ge_rows hk (ln := fun l r => if l < N then f l r else []) hN (fun l i p w r hl hR hS hq hr => ?_) (fun l r => ?_) m0 N 0 0 0 FU _ (fun j => rst f N (N - j) j) (by omega) (by show _ < 10000; omega) ?_ (fun j hj => ?_) R0 hS hq0
    · have hS' : Sx (chF bs) bs.length p (f l r) := by
        have z := hS
        simp only [if_pos hl] at z
        exact z
      exact step _ _ _ l i p w r hl hR hS' hq hr
    · by_cases c : l < N
      · simp only [if_pos c]
        exact hdl l r c
      · simp only [if_neg c]
        rfl
    · show rst _ N (N - N) N = []
      rw [Nat.sub_self]
      rfl
    · simp only [if_pos hj]
      exact hrst j hj
  obtain ⟨w2, i2, f1, f2⟩ := main
  refine ⟨w2, ?_, f2.2.1, f2.2.2.1, f2.2.2.2.1, f2.2.2.2.2⟩
  have nk : ¬ nI k = 0 := by
    rw [show (0 : Int32) = nI 0 by decide, nn_eq (by omega) (by omega)]
    omega
  have er : FX12_readsRows_146 w1 = some (1, w2) := by
    unfold FX12_readsRows_146
    rw [b_some]
    exact f1
  rw [e1, if_neg nk, er, b2_some]
/-- the text of tellings -/
theorem ge_text1 {g : Mem} {W : Wt} {S : List Wt} {bs : List Nat} {N : Nat} {ln : Nat → Nat × Nat × Option Nat} (h : GT g W S (chF bs) bs.length) (hT : OkT W) (hN : N ≤ 16) (hbs : bs = rst (fun s r => tlB (ln s) r) N N 0) (ok : ∀ l, l < N → (ln l).1 < nmen W ∧ ((ln l).2.1 < nmen W ∧ (ln l).2.1 ≠ (ln l).1) ∧ ∀ o, (ln l).2.2 = some o → o < nmen W ∧ o ≠ (ln l).1) : ∃ g' W', FX12_text_146 1 g = some (nI N, g') ∧ GS g' W' [] ∧ W' 85 = nI N ∧ (∀ y, y < 2 * N → W' (158 + y) = tlw ln y) ∧ ∀ x, x ≠ 85 → (x < 158 ∨ 190 ≤ x) → W' x = W x := by
  obtain ⟨hn, h12⟩ := OkT_n hT
  have h1 := h.1
  obtain ⟨w2, e1, f15, f153, fq, f4⟩ := ge_reads (k := 1) (c := 2) (R := tlw ln) (by decide) (by decide) h hN hbs (fun l r hl => (hd_dg (by have := (ok l hl).1; omega) _).1) tk_1_0 (fun b n v0 l i p w r hl hR hS hq hr => ge_tellS h12 (by rw [h1]; exact hn) hN ok l i p w r hl hR hS hq hr)
  obtain ⟨w3, p1, p2, p3, p4, p5⟩ := m_puts_85 (w := mupd (mupd w2 146 16 0) 146 4 0) (L := N) hN (by rw [m_eq, up_ne (by omega), m_eq, up_ne (by omega)]; exact f15)
  have m7 : (mupd (mupd w2 146 16 0) 146 4 0) 147 = W := by rw [m_ne (by decide), m_ne (by decide), fq 147 (by decide) (by decide)]; exact h1
  refine ⟨w3, w3 147, ?_, ⟨rfl, ⟨by decide, by rw [p2 146 (by decide), m_eq, up_eq]; rfl, fun j R hj => by cases hj⟩, by rw [p2 146 (by decide), m_eq, up_ne (by omega), m_eq, up_eq]⟩, p3, fun y hy => ?_, fun x x1 x2 => ?_⟩
  · have e1' : FX12_text_146 1 g = _ := e1
    rw [e1']
    unfold FX12_text_146_b60 FX12_putsText_146
    rw [b_some, if_neg z1, show nI 1 = 1 by decide, if_neg (by decide), if_neg (by decide), m_forget, b_some, if_pos rfl, p1, b2_some, b2_some]
  · rw [p4 y hy, m_ne (by decide), m_ne (by decide)]
    exact f153 y hy
  · rw [p5 x x1 (by omega), m7]
