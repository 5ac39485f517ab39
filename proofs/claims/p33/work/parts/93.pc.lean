/-! what the system answers, of the row -/
def ofV (W : Wt) (m : Nat) : Nat → Int32
  | 0 => W (90 + m)
  | 1 => W (102 + m)
  | 2 => W (114 + m)
  | 3 => W (4 + m)
  | 4 => W (16 + m)
  | 5 => W (28 + m)
  | 6 => W (40 + m)
  | 7 => if W (40 + m) = 1 then W (52 + m) else -1
  | 8 => sTold W (nI m)
  | 10 => dAsk W 0 m
  | 11 => dAsk W 1 m
  | 12 => dAsk W 2 m
  | 13 => dAsk W 3 m
  | _ => -2
theorem SP_a {v g : Mem} (h : SP v g) : WO (g 147) := h.1
theorem SP_b {v g : Mem} (h : SP v g) : XD v (g 147) := h.2.1
theorem s_of0 {v g : Mem} (h : SP v g) {m : Nat} (hm : m < nmen (g 147)) : ∃ v', FX11_of_0 (nI m) (nI 0) v = some (ofV (g 147) m 0, v') ∧ SP v' g := by
  have a := SP_a h
  have b := SP_b h
  have hm12 : m < 12 := Nat.lt_of_lt_of_le hm (OkT_n a.1).2
  unfold FX11_of_0
  rw [c_has (gmen b.1) a.1 hm, b_some, if_neg z1, if_pos (show (nI 0 : Int32) = 0 by decide)]
  rw [rb hm12 (by omega), gco b.1 hm12]
  exact ⟨v, rfl, h⟩
theorem s_of1 {v g : Mem} (h : SP v g) {m : Nat} (hm : m < nmen (g 147)) : ∃ v', FX11_of_0 (nI m) (nI 1) v = some (ofV (g 147) m 1, v') ∧ SP v' g := by
  have a := SP_a h
  have b := SP_b h
  have hm12 : m < 12 := Nat.lt_of_lt_of_le hm (OkT_n a.1).2
  unfold FX11_of_0
  rw [c_has (gmen b.1) a.1 hm, b_some, if_neg z1, if_neg (show ¬ (nI 1 : Int32) = 0 by decide), if_pos (show (nI 1 : Int32) = 1 by decide)]
  rw [rb hm12 (by omega), gag b.1 hm12]
  exact ⟨v, rfl, h⟩
theorem s_of2 {v g : Mem} (h : SP v g) {m : Nat} (hm : m < nmen (g 147)) : ∃ v', FX11_of_0 (nI m) (nI 2) v = some (ofV (g 147) m 2, v') ∧ SP v' g := by
  have a := SP_a h
  have b := SP_b h
  have hm12 : m < 12 := Nat.lt_of_lt_of_le hm (OkT_n a.1).2
  unfold FX11_of_0
  rw [c_has (gmen b.1) a.1 hm, b_some, if_neg z1, if_neg (show ¬ (nI 2 : Int32) = 0 by decide), if_neg (show ¬ (nI 2 : Int32) = 1 by decide), if_pos (show (nI 2 : Int32) = 2 by decide)]
  rw [rb hm12 (by omega), gle b.1 hm12]
  exact ⟨v, rfl, h⟩
theorem s_of3 {v g : Mem} (h : SP v g) {m : Nat} (hm : m < nmen (g 147)) : ∃ v', FX11_of_0 (nI m) (nI 3) v = some (ofV (g 147) m 3, v') ∧ SP v' g := by
  have a := SP_a h
  have b := SP_b h
  have hm12 : m < 12 := Nat.lt_of_lt_of_le hm (OkT_n a.1).2
  unfold FX11_of_0
  rw [c_has (gmen b.1) a.1 hm, b_some, if_neg z1, if_neg (show ¬ (nI 3 : Int32) = 0 by decide), if_neg (show ¬ (nI 3 : Int32) = 1 by decide), if_neg (show ¬ (nI 3 : Int32) = 2 by decide), if_pos (show (nI 3 : Int32) = 3 by decide)]
  rw [rb hm12 (by omega), gbr_23 b.1 hm12]
  exact ⟨v, rfl, h⟩
theorem s_of4 {v g : Mem} (h : SP v g) {m : Nat} (hm : m < nmen (g 147)) : ∃ v', FX11_of_0 (nI m) (nI 4) v = some (ofV (g 147) m 4, v') ∧ SP v' g := by
  have a := SP_a h
  have b := SP_b h
  have hm12 : m < 12 := Nat.lt_of_lt_of_le hm (OkT_n a.1).2
  unfold FX11_of_0
  rw [c_has (gmen b.1) a.1 hm, b_some, if_neg z1, if_neg (show ¬ (nI 4 : Int32) = 0 by decide), if_neg (show ¬ (nI 4 : Int32) = 1 by decide), if_neg (show ¬ (nI 4 : Int32) = 2 by decide), if_neg (show ¬ (nI 4 : Int32) = 3 by decide), if_pos (show (nI 4 : Int32) = 4 by decide)]
  rw [rb hm12 (by omega), gkn_23 b.1 hm12]
  exact ⟨v, rfl, h⟩
theorem s_of5 {v g : Mem} (h : SP v g) {m : Nat} (hm : m < nmen (g 147)) : ∃ v', FX11_of_0 (nI m) (nI 5) v = some (ofV (g 147) m 5, v') ∧ SP v' g := by
  have a := SP_a h
  have b := SP_b h
  have hm12 : m < 12 := Nat.lt_of_lt_of_le hm (OkT_n a.1).2
  unfold FX11_of_0
  rw [c_has (gmen b.1) a.1 hm, b_some, if_neg z1, if_neg (show ¬ (nI 5 : Int32) = 0 by decide), if_neg (show ¬ (nI 5 : Int32) = 1 by decide), if_neg (show ¬ (nI 5 : Int32) = 2 by decide), if_neg (show ¬ (nI 5 : Int32) = 3 by decide), if_neg (show ¬ (nI 5 : Int32) = 4 by decide), if_pos (show (nI 5 : Int32) = 5 by decide)]
  rw [rb hm12 (by omega), gcn_23 b.1 hm12]
  exact ⟨v, rfl, h⟩
theorem s_of6 {v g : Mem} (h : SP v g) {m : Nat} (hm : m < nmen (g 147)) : ∃ v', FX11_of_0 (nI m) (nI 6) v = some (ofV (g 147) m 6, v') ∧ SP v' g := by
  have a := SP_a h
  have b := SP_b h
  have hm12 : m < 12 := Nat.lt_of_lt_of_le hm (OkT_n a.1).2
  unfold FX11_of_0
  rw [c_has (gmen b.1) a.1 hm, b_some, if_neg z1, if_neg (show ¬ (nI 6 : Int32) = 0 by decide), if_neg (show ¬ (nI 6 : Int32) = 1 by decide), if_neg (show ¬ (nI 6 : Int32) = 2 by decide), if_neg (show ¬ (nI 6 : Int32) = 3 by decide), if_neg (show ¬ (nI 6 : Int32) = 4 by decide), if_neg (show ¬ (nI 6 : Int32) = 5 by decide), if_pos (show (nI 6 : Int32) = 6 by decide)]
  rw [rb hm12 (by omega), gwh_23 b.1 hm12]
  exact ⟨v, rfl, h⟩
theorem s_of7 {v g : Mem} (h : SP v g) {m : Nat} (hm : m < nmen (g 147)) : ∃ v', FX11_of_0 (nI m) (nI 7) v = some (ofV (g 147) m 7, v') ∧ SP v' g := by
  have a := SP_a h
  have b := SP_b h
  have hm12 : m < 12 := Nat.lt_of_lt_of_le hm (OkT_n a.1).2
  unfold FX11_of_0
  rw [c_has (gmen b.1) a.1 hm, b_some, if_neg z1, if_neg (show ¬ (nI 7 : Int32) = 0 by decide), if_neg (show ¬ (nI 7 : Int32) = 1 by decide), if_neg (show ¬ (nI 7 : Int32) = 2 by decide), if_neg (show ¬ (nI 7 : Int32) = 3 by decide), if_neg (show ¬ (nI 7 : Int32) = 4 by decide), if_neg (show ¬ (nI 7 : Int32) = 5 by decide), if_neg (show ¬ (nI 7 : Int32) = 6 by decide), if_pos (show (nI 7 : Int32) = 7 by decide)]
  rw [rb hm12 (by omega), gwh_23 b.1 hm12, rb hm12 (by omega), gce_23 b.1 hm12]
  refine ⟨v, ?_, h⟩
  show _ = some ((if g 147 (40 + m) = 1 then g 147 (52 + m) else -1), v)
  by_cases c : g 147 (40 + m) = 1
  · rw [if_pos c, if_pos c]
  · rw [if_neg c, if_neg c]
theorem s_of8 {v g : Mem} (h : SP v g) {m : Nat} (hm : m < nmen (g 147)) : ∃ v', FX11_of_0 (nI m) (nI 8) v = some (ofV (g 147) m 8, v') ∧ SP v' g := by
  have a := SP_a h
  have b := SP_b h
  have hm12 : m < 12 := Nat.lt_of_lt_of_le hm (OkT_n a.1).2
  unfold FX11_of_0
  rw [c_has (gmen b.1) a.1 hm, b_some, if_neg z1, if_neg (show ¬ (nI 8 : Int32) = 0 by decide), if_neg (show ¬ (nI 8 : Int32) = 1 by decide), if_neg (show ¬ (nI 8 : Int32) = 2 by decide), if_neg (show ¬ (nI 8 : Int32) = 3 by decide), if_neg (show ¬ (nI 8 : Int32) = 4 by decide), if_neg (show ¬ (nI 8 : Int32) = 5 by decide), if_neg (show ¬ (nI 8 : Int32) = 6 by decide), if_neg (show ¬ (nI 8 : Int32) = 7 by decide), if_pos (show (nI 8 : Int32) = 8 by decide)]
  rw [rb hm12 (by omega), gte b.1 hm12]
  exact ⟨v, rfl, h⟩
theorem s_of9 {v g : Mem} (h : SP v g) {m : Nat} (hm : m < nmen (g 147)) : ∃ v', FX11_of_0 (nI m) (nI 9) v = some (ofV (g 147) m 9, v') ∧ SP v' g := by
  have a := SP_a h
  have b := SP_b h
  have hm12 : m < 12 := Nat.lt_of_lt_of_le hm (OkT_n a.1).2
  unfold FX11_of_0
  rw [c_has (gmen b.1) a.1 hm, b_some, if_neg z1, if_neg (show ¬ (nI 9 : Int32) = 0 by decide), if_neg (show ¬ (nI 9 : Int32) = 1 by decide), if_neg (show ¬ (nI 9 : Int32) = 2 by decide), if_neg (show ¬ (nI 9 : Int32) = 3 by decide), if_neg (show ¬ (nI 9 : Int32) = 4 by decide), if_neg (show ¬ (nI 9 : Int32) = 5 by decide), if_neg (show ¬ (nI 9 : Int32) = 6 by decide), if_neg (show ¬ (nI 9 : Int32) = 7 by decide), if_neg (show ¬ (nI 9 : Int32) = 8 by decide), if_pos (show (nI 9 : Int32) = 9 by decide)]
  exact ⟨v, rfl, h⟩
theorem s_of10 {v g : Mem} (h : SP v g) {m : Nat} (hm : m < nmen (g 147)) : ∃ v', FX11_of_0 (nI m) (nI 10) v = some (ofV (g 147) m 10, v') ∧ SP v' g := by
  have a := SP_a h
  have b := SP_b h
  have hm12 : m < 12 := Nat.lt_of_lt_of_le hm (OkT_n a.1).2
  unfold FX11_of_0
  rw [c_has (gmen b.1) a.1 hm, b_some, if_neg z1, if_neg (show ¬ (nI 10 : Int32) = 0 by decide), if_neg (show ¬ (nI 10 : Int32) = 1 by decide), if_neg (show ¬ (nI 10 : Int32) = 2 by decide), if_neg (show ¬ (nI 10 : Int32) = 3 by decide), if_neg (show ¬ (nI 10 : Int32) = 4 by decide), if_neg (show ¬ (nI 10 : Int32) = 5 by decide), if_neg (show ¬ (nI 10 : Int32) = 6 by decide), if_neg (show ¬ (nI 10 : Int32) = 7 by decide), if_neg (show ¬ (nI 10 : Int32) = 8 by decide), if_neg (show ¬ (nI 10 : Int32) = 9 by decide), if_pos (show (nI 10 : Int32) = 10 by decide)]
  obtain ⟨v0, g0⟩ := c_asked_32 b.1 a hm (w := 0) (by omega)
  rw [show nI 0 = 0 by decide] at g0
  rw [g0]
  exact ⟨v0, rfl, SP_sv (frX3_asked_32 _ _ _ g0) h⟩
theorem s_of11 {v g : Mem} (h : SP v g) {m : Nat} (hm : m < nmen (g 147)) : ∃ v', FX11_of_0 (nI m) (nI 11) v = some (ofV (g 147) m 11, v') ∧ SP v' g := by
  have a := SP_a h
  have b := SP_b h
  have hm12 : m < 12 := Nat.lt_of_lt_of_le hm (OkT_n a.1).2
  unfold FX11_of_0
  rw [c_has (gmen b.1) a.1 hm, b_some, if_neg z1, if_neg (show ¬ (nI 11 : Int32) = 0 by decide), if_neg (show ¬ (nI 11 : Int32) = 1 by decide), if_neg (show ¬ (nI 11 : Int32) = 2 by decide), if_neg (show ¬ (nI 11 : Int32) = 3 by decide), if_neg (show ¬ (nI 11 : Int32) = 4 by decide), if_neg (show ¬ (nI 11 : Int32) = 5 by decide), if_neg (show ¬ (nI 11 : Int32) = 6 by decide), if_neg (show ¬ (nI 11 : Int32) = 7 by decide), if_neg (show ¬ (nI 11 : Int32) = 8 by decide), if_neg (show ¬ (nI 11 : Int32) = 9 by decide), if_neg (show ¬ (nI 11 : Int32) = 10 by decide), if_pos (show (nI 11 : Int32) = 11 by decide)]
  obtain ⟨v0, g0⟩ := c_asked_32 b.1 a hm (w := 1) (by omega)
  rw [show nI 1 = 1 by decide] at g0
  rw [g0]
  exact ⟨v0, rfl, SP_sv (frX3_asked_32 _ _ _ g0) h⟩
theorem s_of12 {v g : Mem} (h : SP v g) {m : Nat} (hm : m < nmen (g 147)) : ∃ v', FX11_of_0 (nI m) (nI 12) v = some (ofV (g 147) m 12, v') ∧ SP v' g := by
  have a := SP_a h
  have b := SP_b h
  have hm12 : m < 12 := Nat.lt_of_lt_of_le hm (OkT_n a.1).2
  unfold FX11_of_0
  rw [c_has (gmen b.1) a.1 hm, b_some, if_neg z1, if_neg (show ¬ (nI 12 : Int32) = 0 by decide), if_neg (show ¬ (nI 12 : Int32) = 1 by decide), if_neg (show ¬ (nI 12 : Int32) = 2 by decide), if_neg (show ¬ (nI 12 : Int32) = 3 by decide), if_neg (show ¬ (nI 12 : Int32) = 4 by decide), if_neg (show ¬ (nI 12 : Int32) = 5 by decide), if_neg (show ¬ (nI 12 : Int32) = 6 by decide), if_neg (show ¬ (nI 12 : Int32) = 7 by decide), if_neg (show ¬ (nI 12 : Int32) = 8 by decide), if_neg (show ¬ (nI 12 : Int32) = 9 by decide), if_neg (show ¬ (nI 12 : Int32) = 10 by decide), if_neg (show ¬ (nI 12 : Int32) = 11 by decide), if_pos (show (nI 12 : Int32) = 12 by decide)]
  obtain ⟨v0, g0⟩ := c_asked_32 b.1 a hm (w := 2) (by omega)
  rw [show nI 2 = 2 by decide] at g0
  rw [g0]
  exact ⟨v0, rfl, SP_sv (frX3_asked_32 _ _ _ g0) h⟩
theorem s_of13 {v g : Mem} (h : SP v g) {m : Nat} (hm : m < nmen (g 147)) : ∃ v', FX11_of_0 (nI m) (nI 13) v = some (ofV (g 147) m 13, v') ∧ SP v' g := by
  have a := SP_a h
  have b := SP_b h
  have hm12 : m < 12 := Nat.lt_of_lt_of_le hm (OkT_n a.1).2
  unfold FX11_of_0
  rw [c_has (gmen b.1) a.1 hm, b_some, if_neg z1, if_neg (show ¬ (nI 13 : Int32) = 0 by decide), if_neg (show ¬ (nI 13 : Int32) = 1 by decide), if_neg (show ¬ (nI 13 : Int32) = 2 by decide), if_neg (show ¬ (nI 13 : Int32) = 3 by decide), if_neg (show ¬ (nI 13 : Int32) = 4 by decide), if_neg (show ¬ (nI 13 : Int32) = 5 by decide), if_neg (show ¬ (nI 13 : Int32) = 6 by decide), if_neg (show ¬ (nI 13 : Int32) = 7 by decide), if_neg (show ¬ (nI 13 : Int32) = 8 by decide), if_neg (show ¬ (nI 13 : Int32) = 9 by decide), if_neg (show ¬ (nI 13 : Int32) = 10 by decide), if_neg (show ¬ (nI 13 : Int32) = 11 by decide), if_neg (show ¬ (nI 13 : Int32) = 12 by decide), if_pos (show (nI 13 : Int32) = 13 by decide)]
  obtain ⟨v0, g0⟩ := c_asked_32 b.1 a hm (w := 3) (by omega)
  rw [show nI 3 = 3 by decide] at g0
  rw [g0]
  exact ⟨v0, rfl, SP_sv (frX3_asked_32 _ _ _ g0) h⟩
theorem s_of14 {v g : Mem} (h : SP v g) {m : Nat} (hm : m < nmen (g 147)) : ∃ v', FX11_of_0 (nI m) (nI 14) v = some (ofV (g 147) m 14, v') ∧ SP v' g := by
  have a := SP_a h
  have b := SP_b h
  have hm12 : m < 12 := Nat.lt_of_lt_of_le hm (OkT_n a.1).2
  unfold FX11_of_0
  rw [c_has (gmen b.1) a.1 hm, b_some, if_neg z1, if_neg (show ¬ (nI 14 : Int32) = 0 by decide), if_neg (show ¬ (nI 14 : Int32) = 1 by decide), if_neg (show ¬ (nI 14 : Int32) = 2 by decide), if_neg (show ¬ (nI 14 : Int32) = 3 by decide), if_neg (show ¬ (nI 14 : Int32) = 4 by decide), if_neg (show ¬ (nI 14 : Int32) = 5 by decide), if_neg (show ¬ (nI 14 : Int32) = 6 by decide), if_neg (show ¬ (nI 14 : Int32) = 7 by decide), if_neg (show ¬ (nI 14 : Int32) = 8 by decide), if_neg (show ¬ (nI 14 : Int32) = 9 by decide), if_neg (show ¬ (nI 14 : Int32) = 10 by decide), if_neg (show ¬ (nI 14 : Int32) = 11 by decide), if_neg (show ¬ (nI 14 : Int32) = 12 by decide), if_neg (show ¬ (nI 14 : Int32) = 13 by decide)]
  exact ⟨v, rfl, h⟩
theorem s_of {v g : Mem} (h : SP v g) {m : Nat} (hm : m < nmen (g 147)) {k : Nat} (hk : k < 15) : ∃ v', FX11_of_0 (nI m) (nI k) v = some (ofV (g 147) m k, v') ∧ SP v' g := by
  rcases (by omega : k = 0 ∨ k = 1 ∨ k = 2 ∨ k = 3 ∨ k = 4 ∨ k = 5 ∨ k = 6 ∨ k = 7 ∨ k = 8 ∨ k = 9 ∨ k = 10 ∨ k = 11 ∨ k = 12 ∨ k = 13 ∨ k = 14) with rfl | rfl | rfl | rfl | rfl | rfl | rfl | rfl | rfl | rfl | rfl | rfl | rfl | rfl | rfl
  · exact s_of0 h hm
  · exact s_of1 h hm
  · exact s_of2 h hm
  · exact s_of3 h hm
  · exact s_of4 h hm
  · exact s_of5 h hm
  · exact s_of6 h hm
  · exact s_of7 h hm
  · exact s_of8 h hm
  · exact s_of9 h hm
  · exact s_of10 h hm
  · exact s_of11 h hm
  · exact s_of12 h hm
  · exact s_of13 h hm
  · exact s_of14 h hm
theorem s_ofN {v g : Mem} (h : SP v g) (q : Int32) : FX11_of_0 (g 147 78) q v = some (-2, v) := by
  have a := SP_a h
  have b := SP_b h
  unfold FX11_of_0
  rw [c_hasN (gmen b.1) a.1 (by
    rintro ⟨m, hm, e⟩
    have q := (OkT_n a.1).2
    rw [(OkT_n a.1).1, nn_eq (by omega) (by omega)] at e
    omega), b_some, if_pos rfl]
theorem s_weight {v g : Mem} (h : SP v g) {f : Nat} (hf : f < 8) : FX11_weight_0 (nI f) v = some (sWt1 (g 147) (nI f)) := by
  have a := SP_a h
  have b := SP_b h
  have hc : 0 ≤ nI f ∧ nI f ≤ 7 := by
    rw [in7]
    exact ⟨f, by omega, rfl⟩
  unfold FX11_weight_0
  rw [c_fa, b_some, if_pos hc, if_neg z1, rb (show f < 8 by omega) (by omega), gwe b.1 (by omega)]
theorem s_country {v g : Mem} (h : SP v g) {c : Nat} (hc : c < 2) : FX11_country_0 (nI c) 0 v = some (sIn (g 147) (nI c)) ∧ FX11_country_0 (nI c) 1 v = some (sKn (g 147) (nI c)) ∧ FX11_country_0 (nI c) 2 v = some (sWt (g 147) (sKn (g 147) (nI c))) ∧ FX11_country_0 (nI c) 3 v = some (g 147 (82 + c)) ∧ FX11_country_0 (nI c) 4 v = some (sRest (g 147) (nI c)) := by
  have a := SP_a h
  have b := SP_b h
  have hcc : nI c = 0 ∨ nI c = 1 := by
    rcases (by omega : c = 0 ∨ c = 1) with rfl | rfl
    · exact Or.inl (by decide)
    · exact Or.inr (by decide)
  have e : ∀ q, FX11_country_0 (nI c) q v = (if q = 0 then some (sIn (g 147) (nI c)) else if q = 1 then some (sKn (g 147) (nI c)) else if q = 2 then some (sWt (g 147) (sKn (g 147) (nI c))) else if q = 3 then some (g 147 (82 + c)) else if q = 4 then (if sRest (g 147) (nI c) = 0 then some 0 else some 1) else some (-1)) := by
    intro q
    unfold FX11_country_0
    rw [c_co, b_some, if_pos hcc, if_neg z1, c_inF_32 b.1 a.1, c_known_32 b.1 a.1, gday_23 b.1, c_rest b.1.1 a.1, rb hc (by omega), gwa b.1 hc]
    simp only [b_some]
    rw [c_wOf b.1]
    simp only [b_some]
  have e4 : (if sRest (g 147) (nI c) = 0 then some 0 else some 1) = some (sRest (g 147) (nI c)) := by
    rcases rest_01 (g 147) (nI c) with q | q
    · rw [q]; rfl
    · rw [q]; rfl
  refine ⟨by rw [e]; rfl, by rw [e]; rfl, by rw [e]; rfl, by rw [e]; rfl, ?_⟩
  rw [e, if_neg (by decide), if_neg (by decide), if_neg (by decide), if_neg (by decide), if_pos rfl, e4]
theorem s_book {v g : Mem} (h : SP v g) {i k : Nat} (hi : i < nt (g 147 3)) (hk : k < 4) : FX11_book_0 (nI i) (nI k) v = some (g 147 (300 + 4 * i + k)) := by
  have a := SP_a h
  have b := SP_b h
  obtain ⟨n, hL, eL⟩ := OkD_ln a.2.1
  rw [eL, nt_nI (by omega)] at hi
  unfold FX11_book_0 FX11_book_0_b29
  rw [gln_23 b.1, eL]
  rw [if_neg (nI_pos (by omega)), if_neg (nle hi (by omega)), if_neg (nI_pos (by omega)), if_neg (by rw [li_le (by decide) (by omega)]; show ¬ 4 ≤ k; omega), if_neg z1]
  unfold FX1_part_30 FX1_part_30_b25
  have i1 : (nI i * 4) + nI k = nI (4 * i + k) := by rw [show (4 : Int32) = nI 4 by decide, nI_mul, nI_add, Nat.mul_comm]
  rw [if_neg (nI_pos (by omega)), if_neg (by rw [li_le (by decide) (by omega)]; show ¬ 150 ≤ i; omega), if_neg (nI_pos (by omega)), if_neg (by rw [li_le (by decide) (by omega)]; show ¬ 4 ≤ k; omega), if_neg z1, i1, rb (by omega) (by omega), b_some, b.2.1 _ (by omega), show 300 + (4 * i + k) = 300 + 4 * i + k by omega]
theorem s_bookN {v g : Mem} (h : SP v g) : FX11_book_0 (g 147 3) 0 v = some (-2) := by
  have a := SP_a h
  have b := SP_b h
  obtain ⟨n, hL, eL⟩ := OkD_ln a.2.1
  unfold FX11_book_0 FX11_book_0_b29
  rw [gln_23 b.1, eL, if_neg (nI_pos (by omega)), if_pos (by rw [nn_le (by omega) (by omega)]; omega), if_pos rfl]
theorem UNn {v g : Mem} (h : SP v g) : v 52 2 = g 146 4 := by
  obtain ⟨-, -, -, ⟨n, x, -, -, u1, -, u3, -⟩, -, -⟩ := h
  rw [u1, u3]
theorem s_look0 {v g : Mem} (h : SP v g) : FX11_look_0 (nI 0) v = some (g 147 78) := by
  have b := SP_b h
  unfold FX11_look_0
  rw [if_pos (show (nI 0 : Int32) = 0 by decide), gmen b.1]
theorem s_look1 {v g : Mem} (h : SP v g) : FX11_look_0 (nI 1) v = some (g 147 0) := by
  have b := SP_b h
  unfold FX11_look_0
  rw [if_neg (show ¬ (nI 1 : Int32) = 0 by decide), if_pos (show (nI 1 : Int32) = 1 by decide), gday_23 b.1]
theorem s_look2 {v g : Mem} (h : SP v g) : FX11_look_0 (nI 2) v = some (g 147 1) := by
  have b := SP_b h
  unfold FX11_look_0
  rw [if_neg (show ¬ (nI 2 : Int32) = 0 by decide), if_neg (show ¬ (nI 2 : Int32) = 1 by decide), if_pos (show (nI 2 : Int32) = 2 by decide), gwar_23 b.1]
theorem s_look3 {v g : Mem} (h : SP v g) : FX11_look_0 (nI 3) v = some (g 147 79) := by
  have b := SP_b h
  unfold FX11_look_0
  rw [if_neg (show ¬ (nI 3 : Int32) = 0 by decide), if_neg (show ¬ (nI 3 : Int32) = 1 by decide), if_neg (show ¬ (nI 3 : Int32) = 2 by decide), if_pos (show (nI 3 : Int32) = 3 by decide), gkeep b.1]
theorem s_look4 {v g : Mem} (h : SP v g) : FX11_look_0 (nI 4) v = some (g 147 80) := by
  have b := SP_b h
  unfold FX11_look_0
  rw [if_neg (show ¬ (nI 4 : Int32) = 0 by decide), if_neg (show ¬ (nI 4 : Int32) = 1 by decide), if_neg (show ¬ (nI 4 : Int32) = 2 by decide), if_neg (show ¬ (nI 4 : Int32) = 3 by decide), if_pos (show (nI 4 : Int32) = 4 by decide), TR_rain b.1.1]
theorem s_look5 {v g : Mem} (h : SP v g) : FX11_look_0 (nI 5) v = some (g 147 81) := by
  have b := SP_b h
  unfold FX11_look_0
  rw [if_neg (show ¬ (nI 5 : Int32) = 0 by decide), if_neg (show ¬ (nI 5 : Int32) = 1 by decide), if_neg (show ¬ (nI 5 : Int32) = 2 by decide), if_neg (show ¬ (nI 5 : Int32) = 3 by decide), if_neg (show ¬ (nI 5 : Int32) = 4 by decide), if_pos (show (nI 5 : Int32) = 5 by decide), gtea b.1]
theorem s_look6 {v g : Mem} (h : SP v g) : FX11_look_0 (nI 6) v = some (sHills (g 147)) := by
  have b := SP_b h
  unfold FX11_look_0
  rw [if_neg (show ¬ (nI 6 : Int32) = 0 by decide), if_neg (show ¬ (nI 6 : Int32) = 1 by decide), if_neg (show ¬ (nI 6 : Int32) = 2 by decide), if_neg (show ¬ (nI 6 : Int32) = 3 by decide), if_neg (show ¬ (nI 6 : Int32) = 4 by decide), if_neg (show ¬ (nI 6 : Int32) = 5 by decide), if_pos (show (nI 6 : Int32) = 6 by decide), ghi b.1]
theorem s_look7 {v g : Mem} (h : SP v g) : FX11_look_0 (nI 7) v = some (g 147 3) := by
  have b := SP_b h
  unfold FX11_look_0
  rw [if_neg (show ¬ (nI 7 : Int32) = 0 by decide), if_neg (show ¬ (nI 7 : Int32) = 1 by decide), if_neg (show ¬ (nI 7 : Int32) = 2 by decide), if_neg (show ¬ (nI 7 : Int32) = 3 by decide), if_neg (show ¬ (nI 7 : Int32) = 4 by decide), if_neg (show ¬ (nI 7 : Int32) = 5 by decide), if_neg (show ¬ (nI 7 : Int32) = 6 by decide), if_pos (show (nI 7 : Int32) = 7 by decide), gln_23 b.1]
theorem s_look8 {v g : Mem} (h : SP v g) : FX11_look_0 (nI 8) v = some (g 147 2) := by
  have b := SP_b h
  unfold FX11_look_0
  rw [if_neg (show ¬ (nI 8 : Int32) = 0 by decide), if_neg (show ¬ (nI 8 : Int32) = 1 by decide), if_neg (show ¬ (nI 8 : Int32) = 2 by decide), if_neg (show ¬ (nI 8 : Int32) = 3 by decide), if_neg (show ¬ (nI 8 : Int32) = 4 by decide), if_neg (show ¬ (nI 8 : Int32) = 5 by decide), if_neg (show ¬ (nI 8 : Int32) = 6 by decide), if_neg (show ¬ (nI 8 : Int32) = 7 by decide), if_pos (show (nI 8 : Int32) = 8 by decide), gdr_23 b.1]
theorem s_look10 {v g : Mem} (h : SP v g) : FX11_look_0 (nI 10) v = some (g 147 85) := by
  have b := SP_b h
  unfold FX11_look_0
  rw [if_neg (show ¬ (nI 10 : Int32) = 0 by decide), if_neg (show ¬ (nI 10 : Int32) = 1 by decide), if_neg (show ¬ (nI 10 : Int32) = 2 by decide), if_neg (show ¬ (nI 10 : Int32) = 3 by decide), if_neg (show ¬ (nI 10 : Int32) = 4 by decide), if_neg (show ¬ (nI 10 : Int32) = 5 by decide), if_neg (show ¬ (nI 10 : Int32) = 6 by decide), if_neg (show ¬ (nI 10 : Int32) = 7 by decide), if_neg (show ¬ (nI 10 : Int32) = 8 by decide), if_neg (show ¬ (nI 10 : Int32) = 9 by decide), if_pos (show (nI 10 : Int32) = 10 by decide), TR_tl b.1.1]
theorem s_look12 {v g : Mem} (h : SP v g) : FX11_look_0 (nI 12) v = some (g 147 87) := by
  have b := SP_b h
  unfold FX11_look_0
  rw [if_neg (show ¬ (nI 12 : Int32) = 0 by decide), if_neg (show ¬ (nI 12 : Int32) = 1 by decide), if_neg (show ¬ (nI 12 : Int32) = 2 by decide), if_neg (show ¬ (nI 12 : Int32) = 3 by decide), if_neg (show ¬ (nI 12 : Int32) = 4 by decide), if_neg (show ¬ (nI 12 : Int32) = 5 by decide), if_neg (show ¬ (nI 12 : Int32) = 6 by decide), if_neg (show ¬ (nI 12 : Int32) = 7 by decide), if_neg (show ¬ (nI 12 : Int32) = 8 by decide), if_neg (show ¬ (nI 12 : Int32) = 9 by decide), if_neg (show ¬ (nI 12 : Int32) = 10 by decide), if_neg (show ¬ (nI 12 : Int32) = 11 by decide), if_pos (show (nI 12 : Int32) = 12 by decide), show v 15 3 = _ from TR_ol b.1.1]
theorem s_look14 {v g : Mem} (h : SP v g) : FX11_look_0 (nI 14) v = some (g 146 4) := by
  have b := SP_b h
  unfold FX11_look_0
  rw [if_neg (show ¬ (nI 14 : Int32) = 0 by decide), if_neg (show ¬ (nI 14 : Int32) = 1 by decide), if_neg (show ¬ (nI 14 : Int32) = 2 by decide), if_neg (show ¬ (nI 14 : Int32) = 3 by decide), if_neg (show ¬ (nI 14 : Int32) = 4 by decide), if_neg (show ¬ (nI 14 : Int32) = 5 by decide), if_neg (show ¬ (nI 14 : Int32) = 6 by decide), if_neg (show ¬ (nI 14 : Int32) = 7 by decide), if_neg (show ¬ (nI 14 : Int32) = 8 by decide), if_neg (show ¬ (nI 14 : Int32) = 9 by decide), if_neg (show ¬ (nI 14 : Int32) = 10 by decide), if_neg (show ¬ (nI 14 : Int32) = 11 by decide), if_neg (show ¬ (nI 14 : Int32) = 12 by decide), if_neg (show ¬ (nI 14 : Int32) = 13 by decide), if_pos (show (nI 14 : Int32) = 14 by decide), UNn h]
