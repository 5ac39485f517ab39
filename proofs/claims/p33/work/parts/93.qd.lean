/-! the text of orders -/
def orv (t : Bool) : List Nat := if t = true then wo_rest else wo_go
def orB (l : Nat × Bool × Nat) (r : List Nat) : List Nat := wo_on ++ (blk 1 ++ (dg l.1 ++ (blk 1 ++ (orv l.2.1 ++ (blk 1 ++ (dg l.2.2 ++ (blk 0 ++ ([59] ++ (blk 0 ++ r)))))))))
theorem wo_ord : (∀ c ∈ wo_on, isLt c = true) ∧ wo_on ≠ [] ∧ kwF (woL 3) 0 wo_on = 256 ∧ ∀ t, (∀ c ∈ orv t, isLt c = true) ∧ orv t ≠ [] ∧ kwF (woL 3) 0 (orv t) = (if t = true then 257 else 258) ∧ hd isBl (orv t) = true := by decide
theorem orv_hd (t : Bool) (r : List Nat) : hd isBl (orv t ++ r) = true := by
  cases t <;> rfl
def orK (t : Bool) : Nat := if t = true then 11 else 12
theorem mtko : nI (mtk 3 256) = 10 ∧ (∀ t : Bool, nI (mtk 3 (if t = true then 257 else 258)) = nI (orK t)) ∧ nI (mtk 3 59) = 159 := by decide
theorem ge_ord {b : Nat → Nat} {n : Nat} {v0 : Int32} {i p : Nat} {w : Mem} {L : Nat} {l : Nat × Bool × Nat} {r : List Nat} (h : myT 3 b n v0 i w) (hS : Sx b n p (orB l r)) (hq : qs b n i = p) (h1 : l.1 < 1000) (h2 : l.2.2 < 2) (hr : hd isBl r = true) (h15 : w 146 15 = nI L) (hL : L < 16) : ∃ w1 i' p', i < i' ∧ kk 3 b n i ≠ 0 ∧ FX12_anOrder_146 w = some (1, w1) ∧ myR w w1 ∧ (∀ y, y ≠ 3 * L → y ≠ 3 * L + 1 → y ≠ 3 * L + 2 → w1 153 y = w 153 y) ∧ w1 153 (3 * L) = nI l.1 ∧ w1 153 (3 * L + 1) = nI (orK l.2.1) ∧ w1 153 (3 * L + 2) = nI l.2.2 ∧ myT 3 b n v0 i' w1 ∧ qs b n i' = p' ∧ Sx b n p' r := by
  obtain ⟨t1, t2, t3, tt⟩ := wo_ord
  obtain ⟨d, t, x⟩ := l
  obtain ⟨t4, t5, t6, -⟩ := tt t
  have h1 : d < 1000 := h1
  have h2 : x < 2 := h2
  have hS : Sx b n p (wo_on ++ (blk 1 ++ (dg d ++ (blk 1 ++ (orv t ++ (blk 1 ++ (dg x ++ (blk 0 ++ ([59] ++ (blk 0 ++ r)))))))))) := hS
  obtain ⟨k1, p1, q1, S1⟩ := sx_w 3 hS hq t2 t1 (hd_dg (by omega) _).1 (Or.inl (by omega))
  obtain ⟨⟨k2, k3, k4⟩, p2, q2, S2⟩ := sx_n 3 v0 S1 q1 (by omega) (orv_hd t _) (Or.inl (by omega))
  obtain ⟨k5, p3, q3, S3⟩ := sx_w 3 S2 q2 t5 t4 (hd_dg (by omega) _).1 (Or.inl (by omega))
  obtain ⟨⟨k6, k7, k8⟩, p4, q4, S4⟩ := sx_n 3 v0 S3 q3 (by omega) rfl (Or.inr rfl)
  obtain ⟨k9, p5, q5, S5⟩ := sx_s 3 S4 q4 (by decide) hr
  rw [t3] at k1
  rw [t6] at k5
  have ix0 : 3 * nI L = nI (3 * L) := by rw [show (3 : Int32) = nI 3 by decide, nI_mul]
  have ix1 : (3 * nI L) + 1 = nI (3 * L + 1) := by rw [ix0]; exact nI_1 _
  have ix2 : (3 * nI L) + 2 = nI (3 * L + 2) := by rw [ix0, show (2 : Int32) = nI 2 by decide, nI_add]
  obtain ⟨u1, a1, a2, a3, a4, a5⟩ := mk_needY (by decide : 3 < 4) (t := 10) h (by rw [k1]; exact mtko.1)
  obtain ⟨u2, c1, c2, c3, c4, c5⟩ := m_numY (by decide : 3 < 4) (m := 1000) (by omega) a5 s999 k2 (by rw [k3]; exact h1)
  rw [k3] at c3
  have g15 : u2 146 15 = nI L := (c2.2 15 (by omega)).trans ((a2.2 15 (by omega)).trans h15)
  have T3 : myT 3 b n v0 (i + 1 + 1) (mupd u2 153 (3 * L) (nI d)) := myT_3 c5 _ _
  have x18 : (mupd u2 153 (3 * L) (nI d)) 146 18 = nI (orK t) := by rw [myT_18 T3, k5]; exact mtko.2.1 t
  have y15 : (mupd u2 153 (3 * L) (nI d)) 146 15 = nI L := by rw [m_ne (by decide)]; exact g15
  have T4 : myT 3 b n v0 (i + 1 + 1) (mupd (mupd u2 153 (3 * L) (nI d)) 153 (3 * L + 1) (nI (orK t))) := myT_3 T3 _ _
  obtain ⟨u3, d1, d2, d3, d4, d5⟩ := mk_nx (by decide : 3 < 4) T4
  obtain ⟨u4, e1, e2, e3, e4, e5⟩ := m_numY (by decide : 3 < 4) (m := 2) (by omega) d5 s1 k6 (by rw [k7]; exact h2)
  rw [k7] at e3
  have g15' : u4 146 15 = nI L := (e2.2 15 (by omega)).trans ((d2.2 15 (by omega)).trans (by rw [m_ne (by decide)]; exact y15))
  have T5 : myT 3 b n v0 (i + 1 + 1 + 1 + 1) (mupd u4 153 (3 * L + 2) (nI x)) := myT_3 e5 _ _
  obtain ⟨u5, j1, j2, j3, j4, j5⟩ := mk_needY (by decide : 3 < 4) (t := 159) T5 (by rw [k9]; exact mtko.2.2)
  have d153 : u5 153 = upd (upd (upd (w 153) (3 * L) (nI d)) (3 * L + 1) (nI (orK t))) (3 * L + 2) (nI x) := by rw [j4, m_eq, e4, d4, m_eq, m_eq, c4, a4]
  refine ⟨u5, i + 1 + 1 + 1 + 1 + 1, p5, by omega, by rw [k1]; decide, ?_, myR_t a2 (myR_t c2 (myR_t (myR_3 _ _ _) (myR_t (myR_3 _ _ _) (myR_t d2 (myR_t e2 (myR_t (myR_3 _ _ _) j2)))))), fun y y1 y2 y3 => by rw [d153, up_ne y3, up_ne y2, up_ne y1], by rw [d153, up_ne (by omega), up_ne (by omega), up_eq], by rw [d153, up_ne (by omega), up_eq], by rw [d153, up_eq], j5, q5, S5⟩
  have b61 : FX12_anOrder_146_b61 (mupd u2 153 (3 * L) (nI d)) = some (1, u5) := by
    unfold FX12_anOrder_146_b61
    rw [x18, y15, ix1, wb (by omega) (by omega), d1, b_some, e1, b2_some, if_neg z1, g15', e3, ix2, wb (by omega) (by omega), j1, b2_some]
    rfl
  unfold FX12_anOrder_146
  rw [a1, b2_some, if_neg z1, c1, b2_some, if_neg z1, g15, c3, ix0, wb (by omega) (by omega), x18]
  cases t with
  | true => rw [if_pos (by decide)]; exact b61
  | false => rw [if_neg (by decide), if_pos (by decide)]; exact b61
def orw (ln : Nat → Nat × Bool × Nat) (y : Nat) : Int32 := if y % 3 = 0 then nI (ln (y / 3)).1 else if y % 3 = 1 then nI (orK (ln (y / 3)).2.1) else nI (ln (y / 3)).2.2
theorem FX12_aRow_3 {w : Mem} (h : w 146 12 = 3) {w1 : Mem} (e : FX12_anOrder_146 w = some (1, w1)) : FX12_aRow_146 w = some (1, w1) := by
  unfold FX12_aRow_146
  rw [if_neg (by rw [h]; decide), if_neg (by rw [h]; decide), e, b2_some]
  rfl
theorem ge_ordS {b : Nat → Nat} {n : Nat} {v0 : Int32} {g0 : Mem} {N : Nat} {ln : Nat → Nat × Bool × Nat} (hN : N ≤ 16) (ok : ∀ l, l < N → (ln l).1 < 1000 ∧ (ln l).2.2 < 2) (l i p : Nat) (w : Mem) (r : List Nat) (hl : l < N) (h : Rs 3 b n v0 i w g0 l 3 (orw ln)) (hS : Sx b n p (orB (ln l) r)) (hq : qs b n i = p) (hr : hd isBl r = true) : ∃ w1 i' p', i < i' ∧ kk 3 b n i ≠ 0 ∧ FX12_aRow_146 w = some (1, w1) ∧ myR w w1 ∧ myT 3 b n v0 i' w1 ∧ (∀ y, y < 3 * (l + 1) → w1 153 y = orw ln y) ∧ qs b n i' = p' ∧ Sx b n p' r := by
  obtain ⟨o1, o2⟩ := ok l hl
  obtain ⟨w1, i', p', a1, a2, a3, a4, a5, a6, a7, a8, a9, a10, a11⟩ := ge_ord h.1 hS hq o1 o2 hr h.2.1 (by omega)
  refine ⟨w1, i', p', a1, a2, FX12_aRow_3 (by rw [h.1.1.2.2]; rfl) a3, a4, a9, fun y hy => ?_, a10, a11⟩
  by_cases c1 : y = 3 * l
  · subst c1
    rw [a6]
    unfold orw
    rw [if_pos (by omega), show 3 * l / 3 = l by omega]
  · by_cases c2 : y = 3 * l + 1
    · subst c2
      rw [a7]
      unfold orw
      rw [if_neg (by omega), if_pos (by omega), show (3 * l + 1) / 3 = l by omega]
    · by_cases c3 : y = 3 * l + 2
      · subst c3
        rw [a8]
        unfold orw
        rw [if_neg (by omega), if_neg (by omega), show (3 * l + 2) / 3 = l by omega]
      · rw [a5 y c1 c2 c3]
        exact h.2.2.1 y (by omega)
theorem ge_text3 {g : Mem} {W : Wt} {S : List Wt} {bs : List Nat} {N : Nat} {ln : Nat → Nat × Bool × Nat} (h : GT g W S (chF bs) bs.length) (hN : N ≤ 16) (hbs : bs = rst (fun s r => orB (ln s) r) N N 0) (ok : ∀ l, l < N → (ln l).1 < 1000 ∧ (ln l).2.2 < 2) : ∃ g' W', FX12_text_146 3 g = some (nI N, g') ∧ GS g' W' [] ∧ W' 87 = nI N ∧ (∀ y, y < 3 * N → W' (222 + y) = orw ln y) ∧ ∀ x, x ≠ 87 → (x < 222 ∨ 270 ≤ x) → W' x = W x := by
  have h1 := h.1
  obtain ⟨w2, e1, f15, f153, fq, f4⟩ := ge_reads (k := 3) (c := 3) (R := orw ln) (by decide) (by decide) h hN hbs (fun l r hl => rfl) tk_3_0 (fun b n v0 l i p w r hl hR hS hq hr => ge_ordS hN ok l i p w r hl hR hS hq hr)
  obtain ⟨w3, p1, p2, p3, p4, p5⟩ := m_puts_87 (w := mupd (mupd w2 146 16 0) 146 4 0) (L := N) hN (by rw [m_eq, up_ne (by omega), m_eq, up_ne (by omega)]; exact f15)
  have m7 : (mupd (mupd w2 146 16 0) 146 4 0) 147 = W := by rw [m_ne (by decide), m_ne (by decide), fq 147 (by decide) (by decide)]; exact h1
  refine ⟨w3, w3 147, ?_, ⟨rfl, ⟨by decide, by rw [p2 146 (by decide), m_eq, up_eq]; rfl, fun j R hj => by cases hj⟩, by rw [p2 146 (by decide), m_eq, up_ne (by omega), m_eq, up_eq]⟩, p3, fun y hy => ?_, fun x x1 x2 => ?_⟩
  · have e1' : FX12_text_146 3 g = _ := e1
    rw [e1']
    unfold FX12_text_146_b60 FX12_putsText_146
    rw [b_some, if_neg z1, show nI 3 = 3 by decide, if_neg (by decide), if_neg (by decide), m_forget, b_some, if_neg (by decide), p1, b2_some, b2_some]
  · rw [p4 y hy, m_ne (by decide), m_ne (by decide)]
    exact f153 y hy
  · rw [p5 x x1 (by omega), m7]
