/-! the text of weights -/
def wgB (l : Nat × Nat) (r : List Nat) : List Nat := wo_fact ++ (blk 1 ++ (dg l.1 ++ (blk 1 ++ (wo_weighs ++ (blk 1 ++ (dg l.2 ++ (blk 0 ++ ([59] ++ (blk 0 ++ r)))))))))
theorem wo_wg : (∀ c ∈ wo_fact, isLt c = true) ∧ wo_fact ≠ [] ∧ kwF (woL 2) 0 wo_fact = 256 ∧ (∀ c ∈ wo_weighs, isLt c = true) ∧ wo_weighs ≠ [] ∧ kwF (woL 2) 0 wo_weighs = 257 := by decide
theorem mtkw : nI (mtk 2 256) = 8 ∧ nI (mtk 2 257) = 9 ∧ nI (mtk 2 59) = 159 := by decide
theorem ge_wgh {b : Nat → Nat} {n : Nat} {v0 : Int32} {i p : Nat} {w : Mem} {L : Nat} {l : Nat × Nat} {r : List Nat} (h : myT 2 b n v0 i w) (hS : Sx b n p (wgB l r)) (hq : qs b n i = p) (h1 : l.1 < 8) (h2 : l.2 < 100) (hr : hd isBl r = true) (h15 : w 146 15 = nI L) (hL : L < 16) : ∃ w1 i' p', i < i' ∧ kk 2 b n i ≠ 0 ∧ FX12_aWeight_146 w = some (1, w1) ∧ myR w w1 ∧ (∀ y, y ≠ 2 * L → y ≠ 2 * L + 1 → w1 153 y = w 153 y) ∧ w1 153 (2 * L) = nI l.1 ∧ w1 153 (2 * L + 1) = nI l.2 ∧ myT 2 b n v0 i' w1 ∧ qs b n i' = p' ∧ Sx b n p' r := by
  obtain ⟨t1, t2, t3, t4, t5, t6⟩ := wo_wg
  obtain ⟨f, x⟩ := l
  have h1 : f < 8 := h1
  have h2 : x < 100 := h2
  have hS : Sx b n p (wo_fact ++ (blk 1 ++ (dg f ++ (blk 1 ++ (wo_weighs ++ (blk 1 ++ (dg x ++ (blk 0 ++ ([59] ++ (blk 0 ++ r)))))))))) := hS
  obtain ⟨k1, p1, q1, S1⟩ := sx_w 2 hS hq t2 t1 (hd_dg (by omega) _).1 (Or.inl (by omega))
  obtain ⟨⟨k2, k3, k4⟩, p2, q2, S2⟩ := sx_n 2 v0 S1 q1 (by omega) rfl (Or.inl (by omega))
  obtain ⟨k5, p3, q3, S3⟩ := sx_w 2 S2 q2 t5 t4 (hd_dg (by omega) _).1 (Or.inl (by omega))
  obtain ⟨⟨k6, k7, k8⟩, p4, q4, S4⟩ := sx_n 2 v0 S3 q3 (by omega) rfl (Or.inr rfl)
  obtain ⟨k9, p5, q5, S5⟩ := sx_s 2 S4 q4 (by decide) hr
  rw [t3] at k1
  rw [t6] at k5
  have ix0 : 2 * nI L = nI (2 * L) := by rw [show (2 : Int32) = nI 2 by decide, nI_mul]
  have ix1 : (2 * nI L) + 1 = nI (2 * L + 1) := by rw [ix0]; exact nI_1 _
  obtain ⟨u1, a1, a2, a3, a4, a5⟩ := mk_needY (by decide : 2 < 4) (t := 8) h (by rw [k1]; exact mtkw.1)
  obtain ⟨u2, c1, c2, c3, c4, c5⟩ := m_numY (by decide : 2 < 4) (m := 8) (by omega) a5 s7 k2 (by rw [k3]; exact h1)
  rw [k3] at c3
  have g15 : u2 146 15 = nI L := (c2.2 15 (by omega)).trans ((a2.2 15 (by omega)).trans h15)
  have T3 : myT 2 b n v0 (i + 1 + 1) (mupd u2 153 (2 * L) (nI f)) := myT_3 c5 _ _
  obtain ⟨u3, d1, d2, d3, d4, d5⟩ := mk_needY (by decide : 2 < 4) (t := 9) T3 (by rw [k5]; exact mtkw.2.1)
  obtain ⟨u4, e1, e2, e3, e4, e5⟩ := m_numY (by decide : 2 < 4) (m := 100) (by omega) d5 s99 k6 (by rw [k7]; exact h2)
  rw [k7] at e3
  have g15' : u4 146 15 = nI L := (e2.2 15 (by omega)).trans ((d2.2 15 (by omega)).trans (by rw [m_ne (by decide)]; exact g15))
  have T5 : myT 2 b n v0 (i + 1 + 1 + 1 + 1) (mupd u4 153 (2 * L + 1) (nI x)) := myT_3 e5 _ _
  obtain ⟨u5, j1, j2, j3, j4, j5⟩ := mk_needY (by decide : 2 < 4) (t := 159) T5 (by rw [k9]; exact mtkw.2.2)
  have d153 : u5 153 = upd (upd (w 153) (2 * L) (nI f)) (2 * L + 1) (nI x) := by rw [j4, m_eq, e4, d4, m_eq, c4, a4]
  refine ⟨u5, i + 1 + 1 + 1 + 1 + 1, p5, by omega, by rw [k1]; decide, ?_, myR_t a2 (myR_t c2 (myR_t (myR_3 _ _ _) (myR_t d2 (myR_t e2 (myR_t (myR_3 _ _ _) j2))))), fun y y1 y2 => by rw [d153, up_ne y2, up_ne y1], by rw [d153, up_ne (by omega), up_eq], by rw [d153, up_eq], j5, q5, S5⟩
  unfold FX12_aWeight_146
  rw [a1, b2_some, if_neg z1, c1, b2_some, if_neg z1, g15, c3, ix0, wb (by omega) (by omega), d1, b2_some, if_neg z1, e1, b2_some, if_neg z1, g15', e3, ix1, wb (by omega) (by omega), j1, b2_some]
  rfl
def wgw (ln : Nat → Nat × Nat) (y : Nat) : Int32 := if y % 2 = 0 then nI (ln (y / 2)).1 else nI (ln (y / 2)).2
theorem FX12_aRow_2 {w : Mem} (h : w 146 12 = 2) {w1 : Mem} (e : FX12_aWeight_146 w = some (1, w1)) : FX12_aRow_146 w = some (1, w1) := by
  unfold FX12_aRow_146
  rw [if_neg (by rw [h]; decide), if_pos h, e, b2_some]
  rfl
theorem ge_wghS {b : Nat → Nat} {n : Nat} {v0 : Int32} {g0 : Mem} {N : Nat} {ln : Nat → Nat × Nat} (hN : N ≤ 16) (ok : ∀ l, l < N → (ln l).1 < 8 ∧ (ln l).2 < 100) (l i p : Nat) (w : Mem) (r : List Nat) (hl : l < N) (h : Rs 2 b n v0 i w g0 l 2 (wgw ln)) (hS : Sx b n p (wgB (ln l) r)) (hq : qs b n i = p) (hr : hd isBl r = true) : ∃ w1 i' p', i < i' ∧ kk 2 b n i ≠ 0 ∧ FX12_aRow_146 w = some (1, w1) ∧ myR w w1 ∧ myT 2 b n v0 i' w1 ∧ (∀ y, y < 2 * (l + 1) → w1 153 y = wgw ln y) ∧ qs b n i' = p' ∧ Sx b n p' r := by
  obtain ⟨o1, o2⟩ := ok l hl
  obtain ⟨w1, i', p', a1, a2, a3, a4, a5, a6, a7, a8, a9, a10⟩ := ge_wgh h.1 hS hq o1 o2 hr h.2.1 (by omega)
  refine ⟨w1, i', p', a1, a2, FX12_aRow_2 (by rw [h.1.1.2.2]; rfl) a3, a4, a8, fun y hy => ?_, a9, a10⟩
  by_cases c1 : y = 2 * l
  · subst c1
    rw [a6]
    unfold wgw
    rw [if_pos (by omega), show 2 * l / 2 = l by omega]
  · by_cases c2 : y = 2 * l + 1
    · subst c2
      rw [a7]
      unfold wgw
      rw [if_neg (by omega), show (2 * l + 1) / 2 = l by omega]
    · rw [a5 y c1 c2]
      exact h.2.2.1 y (by omega)
theorem ge_text2 {g : Mem} {W : Wt} {bs : List Nat} {N : Nat} {ln : Nat → Nat × Nat} (h : GT g W [] (chF bs) bs.length) (hN : N ≤ 16) (hbs : bs = rst (fun s r => wgB (ln s) r) N N 0) (ok : ∀ l, l < N → (ln l).1 < 8 ∧ (ln l).2 < 100) : ∃ g' W', FX12_text_146 2 g = some (nI N, g') ∧ GS g' W' [] ∧ W' 86 = nI N ∧ (∀ y, y < 2 * N → W' (190 + y) = wgw ln y) ∧ ∀ x, x ≠ 86 → (x < 190 ∨ 222 ≤ x) → W' x = W x := by
  have h1 := h.1
  have h24 : g 146 4 = 0 := h.2.1.2.1
  obtain ⟨w2, e1, f15, f153, fq, f4⟩ := ge_reads (k := 2) (c := 2) (R := wgw ln) (by decide) (by decide) h hN hbs (fun l r hl => rfl) tk_2_0 (fun b n v0 l i p w r hl hR hS hq hr => ge_wghS hN ok l i p w r hl hR hS hq hr)
  obtain ⟨w3, p1, p2, p3, p4, p5⟩ := m_puts_86 (w := mupd w2 146 16 0) (L := N) hN (by rw [m_eq, up_ne (by omega)]; exact f15)
  have m7 : (mupd w2 146 16 0) 147 = W := by rw [m_ne (by decide), fq 147 (by decide) (by decide)]; exact h1
  refine ⟨w3, w3 147, ?_, ⟨rfl, ⟨by decide, by rw [p2 146 (by decide), m_eq, up_ne (by omega), f4]; exact h24, fun j R hj => by cases hj⟩, by rw [p2 146 (by decide), m_eq, up_eq]⟩, p3, fun y hy => ?_, fun x x1 x2 => ?_⟩
  · have e1' : FX12_text_146 2 g = _ := e1
    rw [e1']
    unfold FX12_text_146_b60 FX12_putsText_146
    rw [b_some, if_neg z1, show nI 2 = 2 by decide, if_neg (by decide), if_pos rfl, p1, b2_some, b2_some]
  · rw [p4 y hy, m_ne (by decide)]
    exact f153 y hy
  · rw [p5 x x1 (by omega), m7]
