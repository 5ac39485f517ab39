/-! the whole: the start, the loop over the script -/
theorem z147a : ∀ k, k < 1786 → e_u43 147 k = if k = 1 ∨ k = 79 then 1 else if k = 81 then 3 else if k = 82 ∨ k = 83 then 2 else 0 := by decide +kernel
theorem z147 : ∀ k, k < 1786 → k ≠ 1 → k ≠ 79 → k ≠ 81 → k ≠ 82 → k ≠ 83 → e_u43 147 k = 0 := by
  intro k h a b c d e
  rw [z147a k h, if_neg (by omega), if_neg c, if_neg (by omega)]
theorem s_OkT : OkT (e_u43 147) := by
  have n0 : nmen (e_u43 147) = 0 := by decide +kernel
  have n85 : nt (e_u43 147 85) = 0 := by decide +kernel
  have n86 : nt (e_u43 147 86) = 0 := by decide +kernel
  have n87 : nt (e_u43 147 87) = 0 := by decide +kernel
  have n88 : nt (e_u43 147 88) = 0 := by decide +kernel
  have z0 : nI 0 = 0 := nI_0
  have zz : ∀ k, k < 1786 → k ≠ 1 → k ≠ 79 → k ≠ 81 → k ≠ 82 → k ≠ 83 → e_u43 147 k = nI 0 := fun k a b c d e f => by rw [z0]; exact z147 k a b c d e f
  refine ⟨⟨by decide +kernel, by rw [n0]; omega⟩, fun m hm => Or.inl (z147 _ (by omega) (by omega) (by omega) (by omega) (by omega) (by omega)), fun m hm => ⟨0, by omega, zz _ (by omega) (by omega) (by omega) (by omega) (by omega) (by omega)⟩, fun m hm => ⟨0, by omega, fun h => by rw [n0] at h; omega, zz _ (by omega) (by omega) (by omega) (by omega) (by omega) (by omega)⟩, ⟨1, by omega, by decide +kernel⟩, ⟨0, by omega, by decide +kernel⟩, ⟨3, by omega, by decide +kernel⟩, fun c hc => ⟨2, by omega, ?_⟩, fun c hc => Or.inl (z147 _ (by omega) (by omega) (by omega) (by omega) (by omega) (by omega)), ⟨by decide +kernel, by rw [n85]; omega⟩, ⟨by decide +kernel, by rw [n86]; omega⟩, ⟨by decide +kernel, by rw [n87]; omega⟩, ⟨by decide +kernel, by rw [n88]; omega⟩, fun i hi => by rw [n85] at hi; omega, fun i hi => by rw [n86] at hi; omega, fun i hi => by rw [n88] at hi; omega⟩
  have : ∀ c, c < 2 → e_u43 147 (82 + c) = nI 2 := by decide +kernel
  exact this c hc
theorem s_OkD : OkD (e_u43 147) := by
  have n0 : nmen (e_u43 147) = 0 := by decide +kernel
  have z0 : nI 0 = 0 := nI_0
  have zz : ∀ k, k < 1786 → k ≠ 1 → k ≠ 79 → k ≠ 81 → k ≠ 82 → k ≠ 83 → e_u43 147 k = nI 0 := fun k a b c d e f => by rw [z0]; exact z147 k a b c d e f
  exact ⟨fun m hm => ⟨0, by omega, zz _ (by omega) (by omega) (by omega) (by omega) (by omega) (by omega)⟩, fun m hm => ⟨0, by omega, zz _ (by omega) (by omega) (by omega) (by omega) (by omega) (by omega)⟩, fun m hm => ⟨0, by omega, zz _ (by omega) (by omega) (by omega) (by omega) (by omega) (by omega)⟩, fun m hm => ⟨0, by omega, zz _ (by omega) (by omega) (by omega) (by omega) (by omega) (by omega)⟩, fun m hm => ⟨0, by omega, zz _ (by omega) (by omega) (by omega) (by omega) (by omega) (by omega)⟩, Or.inr (by decide +kernel), ⟨0, by omega, by decide +kernel⟩, fun m hm _ => z147 _ (by omega) (by omega) (by omega) (by omega) (by omega) (by omega)⟩
theorem s_WO : WO (e_u43 147) := by
  have n84 : nt (e_u43 147 84) = 0 := by decide +kernel
  exact ⟨s_OkT, s_OkD, ⟨⟨by decide +kernel, by rw [n84]; omega⟩, fun i hi => by rw [n84] at hi; omega⟩⟩
theorem s_TR : TR 1 e_u43 (e_u43 147) := by
  unfold TR
  decide +kernel
theorem s_BR : ∀ j, j < 6 → ∀ m, m < 12 → e_u43 (23 + 1 + j) m = e_u43 147 (4 + 12 * j + m) := by decide +kernel
theorem s_SP : SP e_u43 e_u43 := by
  have n84 : nt (e_u43 147 84) = 0 := by decide +kernel
  refine ⟨s_WO, ⟨⟨s_TR, ⟨by decide +kernel, fun i hi => by rw [n84] at hi; omega⟩, ⟨by decide +kernel, by decide +kernel, by decide +kernel, by decide +kernel, fun j m hj hm => s_BR j hj m hm⟩⟩, ?_, by decide +kernel, by decide +kernel⟩, by decide +kernel, ⟨0, 0, by omega, by omega, by decide +kernel, by decide +kernel, by decide +kernel, fun j hj => by omega⟩, ⟨by decide +kernel, Or.inl (by decide +kernel)⟩, 0, by omega, by decide +kernel, by decide +kernel, fun i hi => by omega, by decide +kernel, by decide +kernel⟩
  have : ∀ i, i < 600 → e_u43 31 i = e_u43 147 (300 + i) := by decide +kernel
  exact this
theorem G_state (p1 : Int32) {u : Mem} (h : SP u u) : ∃ r u1 u2, FX11_state_0 p1 u = some (r, u1) ∧ FX12_state_146 p1 u1 = some (r, u2) ∧ SP u2 u2 := A2_go (A_state p1) (fun v r v' e => frX11_state_0 _ v e) (fun v r v' e => frX12_state_146 _ v e) (by decide) (by decide) h
theorem G_man (p1 : Int32) (p2 : Int32) (p3 : Int32) {u : Mem} (h : SP u u) : ∃ r u1 u2, FX11_man_0 p1 p2 p3 u = some (r, u1) ∧ FX12_man_146 p1 p2 p3 u1 = some (r, u2) ∧ SP u2 u2 := A2_go (A_man p1 p2 p3) (fun v r v' e => frX11_man_0 _ _ _ v e) (fun v r v' e => frX12_man_146 _ _ _ v e) (by decide) (by decide) h
theorem G_set (p1 : Int32) (p2 : Int32) (p3 : Int32) {u : Mem} (h : SP u u) : ∃ r u1 u2, FX11_set_0 p1 p2 p3 u = some (r, u1) ∧ FX12_set_146 p1 p2 p3 u1 = some (r, u2) ∧ SP u2 u2 := A2_go (A_set p1 p2 p3) (fun v r v' e => frX11_set_0 _ _ _ v e) (fun v r v' e => frX12_set_146 _ _ _ v e) (by decide) (by decide) h
theorem G_teach (p1 : Int32) (p2 : Int32) {u : Mem} (h : SP u u) : ∃ r u1 u2, FX11_teach_0 p1 p2 u = some (r, u1) ∧ FX12_teach_146 p1 p2 u1 = some (r, u2) ∧ SP u2 u2 := A2_go (A_teach p1 p2) (fun v r v' e => frX11_teach_0 _ _ v e) (fun v r v' e => frX12_teach_146 _ _ v e) (by decide) (by decide) h
theorem G_send (p1 : Int32) (p2 : Int32) (p3 : Int32) {u : Mem} (h : SP u u) : ∃ r u1 u2, FX11_send_0 p1 p2 p3 u = some (r, u1) ∧ FX12_send_146 p1 p2 p3 u1 = some (r, u2) ∧ SP u2 u2 := A2_go (A_send p1 p2 p3) (fun v r v' e => frX11_send_0 _ _ _ v e) (fun v r v' e => frX12_send_146 _ _ _ v e) (by decide) (by decide) h
theorem G_days (p1 : Int32) {u : Mem} (h : SP u u) : ∃ r u1 u2, FX11_days_0 p1 u = some (r, u1) ∧ FX12_days_146 p1 u1 = some (r, u2) ∧ SP u2 u2 := A2_go (A_days p1) (fun v r v' e => frX11_days_0 _ v e) (fun v r v' e => frX12_days_146 _ v e) (by decide) (by decide) h
theorem G_feed (p1 : Int32) (p2 : Int32) (p3 : Int32) (p4 : Int32) (p5 : Int32) {u : Mem} (h : SP u u) : ∃ r u1 u2, FX11_feed_0 p1 p2 p3 p4 p5 u = some (r, u1) ∧ FX12_feed_146 p1 p2 p3 p4 p5 u1 = some (r, u2) ∧ SP u2 u2 := A2_go (A_feed p1 p2 p3 p4 p5) (fun v r v' e => frX11_feed_0 _ _ _ _ _ v e) (fun v r v' e => frX12_feed_146 _ _ _ _ _ v e) (by decide) (by decide) h
theorem G_end (p1 : Int32) {u : Mem} (h : SP u u) : ∃ r u1 u2, FX11_end_0 p1 u = some (r, u1) ∧ FX12_end_146 p1 u1 = some (r, u2) ∧ SP u2 u2 := A2_go (A_end p1) (fun v r v' e => frX11_end_0 _ v e) (fun v r v' e => frX12_end_146 _ v e) (by decide) (by decide) h
theorem G_text (p1 : Int32) {u : Mem} (h : SP u u) : ∃ r u1 u2, FX11_text_0 p1 u = some (r, u1) ∧ FX12_text_146 p1 u1 = some (r, u2) ∧ SP u2 u2 := A2_go (A_text p1) (fun v r v' e => frX11_text_0 _ v e) (fun v r v' e => frX12_text_146 _ v e) (by decide) (by decide) h
theorem G_of (p1 : Int32) (p2 : Int32) {u : Mem} (h : SP u u) : ∃ r u1 u2, FX11_of_0 p1 p2 u = some (r, u1) ∧ FX12_of_146 p1 p2 u1 = some (r, u2) ∧ SP u2 u2 := A2_go (A_of p1 p2) (fun v r v' e => frX11_of_0 _ _ v e) (fun v r v' e => frX12_of_146 _ _ v e) (by decide) (by decide) h
theorem G_lasts (p1 : Int32) {u : Mem} (h : SP u u) : ∃ r u1 u2, FX11_lasts_0 p1 u = some (r, u1) ∧ FX12_lasts_146 p1 u1 = some (r, u2) ∧ SP u2 u2 := A2_go (A_lasts p1) (fun v r v' e => frX11_lasts_0 _ v e) (fun v r v' e => frX12_lasts_146 _ v e) (by decide) (by decide) h
theorem G_soonest (p1 : Int32) (p2 : Int32) {u : Mem} (h : SP u u) : ∃ r u1 u2, FX11_soonest_0 p1 p2 u = some (r, u1) ∧ FX12_soonest_146 p1 p2 u1 = some (r, u2) ∧ SP u2 u2 := A2_go (A_soonest p1 p2) (fun v r v' e => frX11_soonest_0 _ _ v e) (fun v r v' e => frX12_soonest_146 _ _ v e) (by decide) (by decide) h
theorem G_from (p1 : Int32) {u : Mem} (h : SP u u) : ∃ r u1 u2, FX11_from_0 p1 u = some (r, u1) ∧ FX12_from_146 p1 u1 = some (r, u2) ∧ SP u2 u2 := A2_go (A_from p1) (fun v r v' e => frX11_from_0 _ v e) (fun v r v' e => frX12_from_146 _ v e) (by decide) (by decide) h
theorem G_stands (p1 : Int32) (p2 : Int32) {u : Mem} (h : SP u u) : ∃ r u1 u2, FX11_stands_0 p1 p2 u = some (r, u1) ∧ FX12_stands_146 p1 p2 u1 = some (r, u2) ∧ SP u2 u2 := A2_go (A_stands p1 p2) (fun v r v' e => frX11_stands_0 _ _ v e) (fun v r v' e => frX12_stands_146 _ _ v e) (by decide) (by decide) h
theorem G_slipper (p1 : Int32) (p2 : Int32) (p3 : Int32) {u : Mem} (h : SP u u) : ∃ r u1 u2, FX11_slipper_0 p1 p2 p3 u = some (r, u1) ∧ FX12_slipper_146 p1 p2 p3 u1 = some (r, u2) ∧ SP u2 u2 := A2_go (A_slipper p1 p2 p3) (fun v r v' e => frX11_slipper_0 _ _ _ v e) (fun v r v' e => frX12_slipper_146 _ _ _ v e) (by decide) (by decide) h
theorem G_forgets (p1 : Int32) (p2 : Int32) {u : Mem} (h : SP u u) : ∃ r u1 u2, FX11_forgets_0 p1 p2 u = some (r, u1) ∧ FX12_forgets_146 p1 p2 u1 = some (r, u2) ∧ SP u2 u2 := A2_go (A_forgets p1 p2) (fun v r v' e => frX11_forgets_0 _ _ v e) (fun v r v' e => frX12_forgets_146 _ _ v e) (by decide) (by decide) h
theorem G_undo {u : Mem} (h : SP u u) : ∃ r u1 u2, FX11_undo_0 u = some (r, u1) ∧ FX12_undo_146 u1 = some (r, u2) ∧ SP u2 u2 := A2_go (A_undo) (fun v r v' e => frX11_undo_0 v e) (fun v r v' e => frX12_undo_146 v e) (by decide) (by decide) h
theorem G_image (p1 : Int32) {u : Mem} (h : SP u u) : ∃ r u1 u2, FX11_image_0 p1 u = some (r, u1) ∧ FX12_image_146 p1 u1 = some (r, u2) ∧ SP u2 u2 := A2_go (A_image p1) (fun v r v' e => frX11_image_0 _ v e) (fun v r v' e => frX12_image_146 _ v e) (by decide) (by decide) h
theorem G_knees (p q : Int32) {u : Mem} (h : SP u u) : ∃ r u1, FX11_knees_0 p q u = some (r, u1) ∧ FX12_knees_146 p q u1 = some r ∧ SP u1 u1 := by
  obtain ⟨r, u1, e1, -, -⟩ := A_knees p q u u h
  have f1 := frX11_knees_0 _ _ _ e1
  obtain ⟨r', v', e2, e3, hs⟩ := A_knees p q u u1 (SP_w (fun c hc => f1 c (fr_a (lo' := 107) (hi' := 109) (by decide) (by omega))) h)
  rw [e1] at e2
  cases e2
  exact ⟨r, u1, e1, e3, hs⟩
theorem rdS_n {L : Nat} {xs : Nat → Int32} {i : Nat} (h : i < L) (hL : L ≤ 3072) : rdS L xs (nI i) = some (xs i) := by
  unfold rdS
  rw [if_neg (nI_in h (by omega)), nI_clamp (by omega)]
set_option maxHeartbeats 4000000 in
theorem sem_step {L : Nat} {xs : Nat → Int32} (hL : L ≤ 3072) {i : Nat} (hi : i + 6 ≤ L) {u : Mem} (h : SP u u) (k : Int32 → Mem → Option Int32) (hk : ∀ u', SP u' u' → k (nI (i + 6)) u' = some 1) : FLW_b18 L xs k (nI i) u = some 1 := by
  have r0 : rdS L xs (nI i) = some (xs i) := rdS_n (by omega) hL
  have e6 : nI i + 6 = nI (i + 6) := add_li 6 i
  have r1 : rdS L xs (nI i + 1) = some (xs (i + 1)) := by rw [show nI i + 1 = nI (i + 1) from add_li 1 i]; exact rdS_n (by omega) hL
  have r2 : rdS L xs (nI i + 2) = some (xs (i + 2)) := by rw [show nI i + 2 = nI (i + 2) from add_li 2 i]; exact rdS_n (by omega) hL
  have r3 : rdS L xs (nI i + 3) = some (xs (i + 3)) := by rw [show nI i + 3 = nI (i + 3) from add_li 3 i]; exact rdS_n (by omega) hL
  have r4 : rdS L xs (nI i + 4) = some (xs (i + 4)) := by rw [show nI i + 4 = nI (i + 4) from add_li 4 i]; exact rdS_n (by omega) hL
  have r5 : rdS L xs (nI i + 5) = some (xs (i + 5)) := by rw [show nI i + 5 = nI (i + 5) from add_li 5 i]; exact rdS_n (by omega) hL
  unfold FLW_b18 FLW_b1064 FLW_b1016 FLW_b1033
  unfold FLW_b1064
  rw [if_neg (show ¬ nI L - 6 < nI i by
    rw [Int32.lt_iff_toInt_lt, show (6 : Int32) = nI 6 by decide, nI_subI (by omega) (by decide), nI_toInt (by omega)]; omega), r0, b_some, e6]
  by_cases h0 : (xs i &&& 31) = 0
  · obtain ⟨r, u1, u2, e1, e2, hs⟩ := G_state (xs (i + 1)) h
    rw [if_pos h0, r1, b_some, e1, b2_some, b_some, e2, b2_some, if_pos rfl]
    exact hk u2 hs
  rw [if_neg h0]
  by_cases h1 : (xs i &&& 31) = 1
  · obtain ⟨r, u1, u2, e1, e2, hs⟩ := G_man (xs (i + 1)) (xs (i + 2)) (xs (i + 3)) h
    rw [if_pos h1, r1, b_some, r2, b_some, r3, b_some, e1, b2_some, b_some, b_some, b_some, e2, b2_some, if_pos rfl]
    exact hk u2 hs
  rw [if_neg h1]
  by_cases h2 : (xs i &&& 31) = 2
  · obtain ⟨r, u1, u2, e1, e2, hs⟩ := G_set (xs (i + 1)) (xs (i + 2)) (xs (i + 3)) h
    rw [if_pos h2, r1, b_some, r2, b_some, r3, b_some, e1, b2_some, b_some, b_some, b_some, e2, b2_some, if_pos rfl]
    exact hk u2 hs
  rw [if_neg h2]
  by_cases h3 : (xs i &&& 31) = 3
  · obtain ⟨r, u1, u2, e1, e2, hs⟩ := G_teach (xs (i + 1)) (xs (i + 2)) h
    rw [if_pos h3, r1, b_some, r2, b_some, e1, b2_some, b_some, b_some, e2, b2_some, if_pos rfl]
    exact hk u2 hs
  rw [if_neg h3]
  by_cases h4 : (xs i &&& 31) = 4
  · obtain ⟨r, u1, u2, e1, e2, hs⟩ := G_send (xs (i + 1)) (xs (i + 2)) (xs (i + 3)) h
    rw [if_pos h4, r1, b_some, r2, b_some, r3, b_some, e1, b2_some, b_some, b_some, b_some, e2, b2_some, if_pos rfl]
    exact hk u2 hs
  rw [if_neg h4]
  by_cases h5 : (xs i &&& 31) = 5
  · obtain ⟨r, u1, u2, e1, e2, hs⟩ := G_days (xs (i + 1)) h
    rw [if_pos h5, r1, b_some, e1, b2_some, b_some, e2, b2_some, if_pos rfl]
    exact hk u2 hs
  rw [if_neg h5]
  by_cases h6 : (xs i &&& 31) = 6
  · obtain ⟨r, u1, u2, e1, e2, hs⟩ := G_feed (xs (i + 1)) (xs (i + 2)) (xs (i + 3)) (xs (i + 4)) (xs (i + 5)) h
    rw [if_pos h6, r1, b_some, r2, b_some, r3, b_some, r4, b_some, r5, b_some, e1, b2_some, b_some, b_some, b_some, b_some, b_some, e2, b2_some, if_pos rfl]
    exact hk u2 hs
  rw [if_neg h6]
  by_cases h7 : (xs i &&& 31) = 7
  · obtain ⟨r, u1, u2, e1, e2, hs⟩ := G_end (xs (i + 1)) h
    rw [if_pos h7, r1, b_some, e1, b2_some, b_some, e2, b2_some, if_pos rfl]
    exact hk u2 hs
  rw [if_neg h7]
  by_cases h8 : (xs i &&& 31) = 8
  · obtain ⟨r, u1, u2, e1, e2, hs⟩ := G_text (xs (i + 1)) h
    rw [if_pos h8, r1, b_some, e1, b2_some, b_some, e2, b2_some, if_pos rfl]
    exact hk u2 hs
  rw [if_neg h8]
  by_cases h9 : (xs i &&& 31) = 9
  · obtain ⟨r, e1, e2⟩ := A_fault (xs (i + 1)) u u h
    rw [if_pos h9, r1, b_some, e1, b_some, b_some, e2, b_some, if_pos rfl]
    exact hk u h
  rw [if_neg h9]
  by_cases h10 : (xs i &&& 31) = 10
  · obtain ⟨r, u1, u2, e1, e2, hs⟩ := G_of (xs (i + 1)) (xs (i + 2)) h
    rw [if_pos h10, r1, b_some, r2, b_some, e1, b2_some, b_some, b_some, e2, b2_some, if_pos rfl]
    exact hk u2 hs
  rw [if_neg h10]
  by_cases h11 : (xs i &&& 31) = 11
  · obtain ⟨r, e1, e2⟩ := A_weight (xs (i + 1)) u u h
    rw [if_pos h11, r1, b_some, e1, b_some, b_some, e2, b_some, if_pos rfl]
    exact hk u h
  rw [if_neg h11]
  by_cases h12 : (xs i &&& 31) = 12
  · obtain ⟨r, e1, e2⟩ := A_country (xs (i + 1)) (xs (i + 2)) u u h
    rw [if_pos h12, r1, b_some, r2, b_some, e1, b_some, b_some, b_some, e2, b_some, if_pos rfl]
    exact hk u h
  rw [if_neg h12]
  by_cases h13 : (xs i &&& 31) = 13
  · obtain ⟨r, e1, e2⟩ := A_book (xs (i + 1)) (xs (i + 2)) u u h
    rw [if_pos h13, r1, b_some, r2, b_some, e1, b_some, b_some, b_some, e2, b_some, if_pos rfl]
    exact hk u h
  rw [if_neg h13]
  by_cases h14 : (xs i &&& 31) = 14
  · obtain ⟨r, u1, u2, e1, e2, hs⟩ := G_lasts (xs (i + 1)) h
    rw [if_pos h14, r1, b_some, e1, b2_some, b_some, e2, b2_some, if_pos rfl]
    exact hk u2 hs
  rw [if_neg h14]
  by_cases h15 : (xs i &&& 31) = 15
  · obtain ⟨r, u1, u2, e1, e2, hs⟩ := G_soonest (xs (i + 1)) (xs (i + 2)) h
    rw [if_pos h15, r1, b_some, r2, b_some, e1, b2_some, b_some, b_some, e2, b2_some, if_pos rfl]
    exact hk u2 hs
  rw [if_neg h15]
  by_cases h16 : (xs i &&& 31) = 16
  · obtain ⟨r, u1, u2, e1, e2, hs⟩ := G_from (xs (i + 1)) h
    rw [if_pos h16, r1, b_some, e1, b2_some, b_some, e2, b2_some, if_pos rfl]
    exact hk u2 hs
  rw [if_neg h16]
  by_cases h17 : (xs i &&& 31) = 17
  · obtain ⟨r, e1, e2⟩ := A_hears (xs (i + 1)) u u h
    rw [if_pos h17, r1, b_some, e1, b_some, b_some, e2, b_some, if_pos rfl]
    exact hk u h
  rw [if_neg h17]
  by_cases h18 : (xs i &&& 31) = 18
  · obtain ⟨r, u1, e1, e2, hs⟩ := G_knees (xs (i + 1)) (xs (i + 2)) h
    rw [if_pos h18, r1, b_some, r2, b_some, e1, b2_some, b_some, b_some, e2, b_some, if_pos rfl]
    exact hk u1 hs
  rw [if_neg h18]
  by_cases h19 : (xs i &&& 31) = 19
  · obtain ⟨r, e1, e2⟩ := A_march (xs (i + 1)) (xs (i + 2)) (xs (i + 3)) (xs (i + 4)) u u h
    rw [if_pos h19, r1, b_some, r2, b_some, r3, b_some, r4, b_some, e1, b_some, b_some, b_some, b_some, b_some, e2, b_some, if_pos rfl]
    exact hk u h
  rw [if_neg h19]
  by_cases h20 : (xs i &&& 31) = 20
  · obtain ⟨r, u1, u2, e1, e2, hs⟩ := G_stands (xs (i + 1)) (xs (i + 2)) h
    rw [if_pos h20, r1, b_some, r2, b_some, e1, b2_some, b_some, b_some, e2, b2_some, if_pos rfl]
    exact hk u2 hs
  rw [if_neg h20]
  by_cases h21 : (xs i &&& 31) = 21
  · obtain ⟨r, u1, u2, e1, e2, hs⟩ := G_slipper (xs (i + 1)) (xs (i + 2)) (xs (i + 3)) h
    rw [if_pos h21, r1, b_some, r2, b_some, r3, b_some, e1, b2_some, b_some, b_some, b_some, e2, b2_some, if_pos rfl]
    exact hk u2 hs
  rw [if_neg h21]
  by_cases h22 : (xs i &&& 31) = 22
  · obtain ⟨r, e1, e2⟩ := A_left u u h
    rw [if_pos h22,  e1, b_some,  e2, b_some, if_pos rfl]
    exact hk u h
  rw [if_neg h22]
  by_cases h23 : (xs i &&& 31) = 23
  · obtain ⟨r, e1, e2⟩ := A_ask u u h
    rw [if_pos h23,  e1, b_some,  e2, b_some, if_pos rfl]
    exact hk u h
  rw [if_neg h23]
  by_cases h24 : (xs i &&& 31) = 24
  · obtain ⟨r, u1, u2, e1, e2, hs⟩ := G_forgets (xs (i + 1)) (xs (i + 2)) h
    rw [if_pos h24, r1, b_some, r2, b_some, e1, b2_some, b_some, b_some, e2, b2_some, if_pos rfl]
    exact hk u2 hs
  rw [if_neg h24]
  by_cases h25 : (xs i &&& 31) = 25
  · obtain ⟨r, e1, e2⟩ := A_last u u h
    rw [if_pos h25,  e1, b_some,  e2, b_some, if_pos rfl]
    exact hk u h
  rw [if_neg h25]
  by_cases h26 : (xs i &&& 31) = 26
  · obtain ⟨r, e1, e2⟩ := A_treaty (xs (i + 1)) u u h
    rw [if_pos h26, r1, b_some, e1, b_some, b_some, e2, b_some, if_pos rfl]
    exact hk u h
  rw [if_neg h26]
  by_cases h27 : (xs i &&& 31) = 27
  · obtain ⟨r, u1, u2, e1, e2, hs⟩ := G_undo h
    rw [if_pos h27,  e1, b2_some,  e2, b2_some, if_pos rfl]
    exact hk u2 hs
  rw [if_neg h27]
  by_cases h28 : (xs i &&& 31) = 28
  · rw [if_pos h28, r1, b_some]
    by_cases c : xs (i + 1) = 0
    · obtain ⟨r, u1, u2, e1, e2, hs⟩ := G_image 0 h
      rw [if_pos c, e1, b2_some, b_some, if_pos c, e2, b2_some, if_pos rfl]
      exact hk u2 hs
    · obtain ⟨r, u1, u2, e1, e2, hs⟩ := G_image 1 h
      rw [if_neg c, e1, b2_some, b_some, if_neg c, e2, b2_some, if_pos rfl]
      exact hk u2 hs
  rw [if_neg h28]
  by_cases h29 : (xs i &&& 31) = 29
  · obtain ⟨r, e1, e2⟩ := A_look (xs (i + 1)) u u h
    rw [if_pos h29, r1, b_some, e1, b_some, b_some, e2, b_some, if_pos rfl]
    exact hk u h
  rw [if_neg h29]
  exact hk u h
theorem sem_loop {L : Nat} {xs : Nat → Int32} (hL : L ≤ 3072) : ∀ (d i F : Nat) (u : Mem), L - i ≤ d → d < F → SP u u → i ≤ 4000 → FLW_L18 L xs F (nI i) u = some 1 := by
  intro d
  induction d using Nat.strongRecOn with
  | _ d ih =>
  intro i F u hd hF h hi4
  obtain ⟨F, rfl⟩ : ∃ f, F = f + 1 := ⟨F - 1, by omega⟩
  show FLW_b18 L xs (FLW_L18 L xs F) (nI i) u = some 1
  by_cases c : i + 6 ≤ L
  · exact sem_step hL c h _ (fun u' h' => ih (d - 6) (by omega) (i + 6) F u' (by omega) (by omega) h' (by omega))
  · unfold FLW_b18
    rw [if_pos]
    rw [Int32.lt_iff_toInt_lt, show (6 : Int32) = nI 6 by decide, nI_subI (by omega) (by decide), nI_toInt (by omega)]; omega
theorem sem_all (L : Nat) (xs : Nat → Int32) (hL : L ≤ 3072) : FLW_L18 L xs FU 0 e_u43 = some 1 := by
  have h := sem_loop hL (xs := xs) L 0 FU e_u43 (by omega) (by show _ < 10000; omega) s_SP (by omega)
  rw [nI_0] at h
  exact h
