/-! a line of tellings is read -/
theorem m_numY {k : Nat} (hk : k < 4) {b : Nat → Nat} {n : Nat} {v0 : Int32} {u : Mem} {j m : Nat} (hm : m ≤ 10000) (hA : myT k b n v0 j u) {p : Int32} (hp : p = nI m - 1) (h1 : kk k b n j = 1) (h2 : vv b n v0 j < m) : ∃ u', FX12_number_146 0 p u = some (1, u') ∧ myR u u' ∧ u' 146 26 = nI (vv b n v0 j) ∧ u' 153 = u 153 ∧ myT k b n v0 (j + 1) u' := by
  rcases m_num hk hm hA hp with ⟨-, -, q⟩ | ⟨q, -⟩
  · exact q
  · exact absurd ⟨h1, h2⟩ q
theorem ge_tell {b : Nat → Nat} {n : Nat} {v0 : Int32} {i p : Nat} {w : Mem} {men L : Nat} {l : Nat × Nat × Option Nat} {r : List Nat} (h : myT 1 b n v0 i w) (hS : Sx b n p (tlB l r)) (hq : qs b n i = p) (hmen : men ≤ 12) (h1 : l.1 < men) (h2 : l.2.1 < men ∧ l.2.1 ≠ l.1) (h3 : ∀ o, l.2.2 = some o → o < men ∧ o ≠ l.1) (hr : hd isBl r = true) (h78 : w 147 78 = nI men) (h15 : w 146 15 = nI L) (hL : L < 16) : ∃ w1 i' p', i < i' ∧ kk 1 b n i ≠ 0 ∧ FX12_aTelling_146 w = some (1, w1) ∧ myR w w1 ∧ (∀ y, y ≠ 2 * L → y ≠ 2 * L + 1 → w1 153 y = w 153 y) ∧ w1 153 (2 * L) = nI l.1 ∧ w1 153 (2 * L + 1) = tlM l ∧ myT 1 b n v0 i' w1 ∧ qs b n i' = p' ∧ Sx b n p' r := by
  obtain ⟨t1, t2, t3, t4, t5, t6⟩ := wo_tl
  obtain ⟨m, a, o⟩ := l
  have h1 : m < men := h1
  have h2 : a < men ∧ a ≠ m := h2
  have h3 : ∀ x, o = some x → x < men ∧ x ≠ m := h3
  have hS : Sx b n p (dg m ++ (blk 1 ++ (wo_tells ++ (blk 1 ++ tlR a o r)))) := hS
  obtain ⟨⟨k1, k2, k3⟩, p1, q1, S1⟩ := sx_n 1 v0 hS hq (by omega) rfl (Or.inl (by omega))
  have hb2 : hd isBl (tlR a o r) = true := by
    cases o with
    | none => exact (hd_dg (by omega) _).1
    | some x => exact (hd_dg (by omega) _).1
  obtain ⟨k4, p2, q2, S2⟩ := sx_w 1 S1 q1 t2 t1 hb2 (Or.inl (by omega))
  rw [t3] at k4
  -- the teller
  obtain ⟨u1, e1, e2, e3, e4, e5⟩ := m_numY (by decide : 1 < 4) (m := men) (by omega) h (p := w 147 78 - 1) (by rw [h78]) k1 (by rw [k2]; exact h1)
  rw [k2] at e3
  have e15 : u1 146 15 = nI L := (e2.2 15 (by omega)).trans h15
  have ix0 : 2 * nI L = nI (2 * L) := by rw [show (2 : Int32) = nI 2 by decide, nI_mul]
  have ix1 : (2 * nI L) + 1 = nI (2 * L + 1) := by rw [ix0]; exact nI_1 _
  have T2 : myT 1 b n v0 (i + 1) (mupd (mupd u1 153 (2 * L) (nI m)) 153 (2 * L + 1) 0) := myT_3 (myT_3 e5 _ _) _ _
  obtain ⟨u2, f1, f2, f3, f4, f5⟩ := mk_needY (by decide : 1 < 4) (t := 7) T2 (by rw [k4]; exact mtk1.2.1)
  have r2 : myR w u2 := myR_t e2 (myR_t (myR_3 u1 _ _) (myR_t (myR_3 _ _ _) f2))
  have g78 : u2 147 78 = nI men := by rw [r2.1 147 (by decide) (by decide)]; exact h78
  have g15 : u2 146 15 = nI L := (r2.2 15 (by omega)).trans h15
  have d153 : u2 153 = upd (upd (u1 153) (2 * L) (nI m)) (2 * L + 1) 0 := by rw [f4, m_eq, m_eq]
  have pre : FX12_aTelling_146 w = bnd2 (FX12_another_146 (nI m) u2) fun x9 u10 => (if x9 = 0 then (some (0, u10)) else (FX12_aTelling_146_L69 FU (nI m) u10)) := by
    unfold FX12_aTelling_146
    rw [e1, b2_some, if_neg z1, e15, e3, ix0, wb (by omega) (by omega), m_ne (by decide), e15, ix1, wb (by omega) (by omega), f1, b2_some, if_neg z1]
  have old : ∀ y, y ≠ 2 * L → y ≠ 2 * L + 1 → u2 153 y = w 153 y := fun y y1 y2 => by rw [d153, up_ne y2, up_ne y1, e4]
  cases o with
  | none =>
    have S2 : Sx b n p2 (dg a ++ (blk 0 ++ ([59] ++ (blk 0 ++ r)))) := S2
    obtain ⟨⟨k5, k6, k7⟩, p3, q3, S3⟩ := sx_n 1 v0 S2 q2 (by omega) rfl (Or.inr rfl)
    obtain ⟨k8, p4, q4, S4⟩ := sx_s 1 S3 q3 (by decide) hr
    obtain ⟨u3, g1, g2, g3, g4, g5⟩ := ge_ano f5 k5 k7 hmen h1 h2.1 h2.2 g78 g15 hL
    obtain ⟨u4, j1, j2, j3, j4, j5⟩ := mk_needY (by decide : 1 < 4) (t := 159) g5 (by rw [k8]; exact mtk1.2.2.2)
    refine ⟨u4, i + 1 + 1 + 1 + 1, p4, by omega, by rw [k1]; decide, ?_, myR_t r2 (myR_t g2 j2), fun y y1 y2 => by rw [j4, g3 y y2, old y y1 y2], ?_, ?_, j5, q4, S4⟩
    · rw [pre, g1, b2_some, if_neg z1]
      show FX12_aTelling_146_b69 _ _ _ = _
      unfold FX12_aTelling_146_b69
      rw [myT_18 g5, k8, if_neg (by decide), j1, b2_some]
      rfl
    · rw [j4, g3 _ (by omega), d153, up_ne (by omega), up_eq]
    · rw [j4, g4, d153, up_eq]
      rfl
  | some x =>
    have hx := h3 x rfl
    have S2 : Sx b n p2 (dg a ++ (blk 1 ++ (wo_and ++ (blk 1 ++ (dg x ++ (blk 0 ++ ([59] ++ (blk 0 ++ r)))))))) := S2
    obtain ⟨⟨k5, k6, k7⟩, p3, q3, S3⟩ := sx_n 1 v0 S2 q2 (by omega) rfl (Or.inl (by omega))
    obtain ⟨k8, p4, q4, S4⟩ := sx_w 1 S3 q3 t5 t4 (hd_dg (by omega) _).1 (Or.inl (by omega))
    rw [t6] at k8
    obtain ⟨⟨k9, k10, k11⟩, p5, q5, S5⟩ := sx_n 1 v0 S4 q4 (by omega) rfl (Or.inr rfl)
    obtain ⟨k12, p6, q6, S6⟩ := sx_s 1 S5 q5 (by decide) hr
    obtain ⟨u3, g1, g2, g3, g4, g5⟩ := ge_ano f5 k5 k7 hmen h1 h2.1 h2.2 g78 g15 hL
    obtain ⟨u4, j1, j2, j3, j4, j5⟩ := mk_nx (by decide : 1 < 4) g5
    have r4 : myR w u4 := myR_t r2 (myR_t g2 j2)
    obtain ⟨u5, l1, l2, l3, l4, l5⟩ := ge_ano j5 k9 k11 hmen h1 hx.1 hx.2 (by rw [r4.1 147 (by decide) (by decide)]; exact h78) ((r4.2 15 (by omega)).trans h15) hL
    obtain ⟨u6, m1, m2, m3, m4, m5⟩ := mk_needY (by decide : 1 < 4) (t := 159) l5 (by rw [k12]; exact mtk1.2.2.2)
    refine ⟨u6, i + 1 + 1 + 1 + 1 + 1 + 1, p6, by omega, by rw [k1]; decide, ?_, myR_t r4 (myR_t l2 m2), fun y y1 y2 => by rw [m4, l3 y y2, j4, g3 y y2, old y y1 y2], ?_, ?_, m5, q6, S6⟩
    · rw [pre, g1, b2_some, if_neg z1]
      show FX12_aTelling_146_b69 (FX12_aTelling_146_L69 9999) _ _ = _
      unfold FX12_aTelling_146_b69
      rw [myT_18 g5, k8, if_pos mtk1.2.2.1, j1, b_some, l1, b2_some, if_neg z1]
      show FX12_aTelling_146_b69 _ _ _ = _
      unfold FX12_aTelling_146_b69
      rw [myT_18 l5, k12, if_neg (by decide), m1, b2_some]
      rfl
    · rw [m4, l3 _ (by omega), j4, g3 _ (by omega), d153, up_ne (by omega), up_eq]
    · rw [m4, l4, j4, g4, d153, up_eq]
      rfl
