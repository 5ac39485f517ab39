/-! what is read of the state, on both sides -/
theorem gmen {b : Nat} {u : Mem} {W : Wt} (h : CR b u W) : u 1 0 = W 78 := TR_men h.1
theorem gkeep {b : Nat} {u : Mem} {W : Wt} (h : CR b u W) : u 1 7 = W 79 := TR_keep h.1
theorem gtea {b : Nat} {u : Mem} {W : Wt} (h : CR b u W) : u 1 9 = W 81 := TR_tea h.1
theorem ghi {b : Nat} {u : Mem} {W : Wt} (h : CR b u W) : u 1 10 = sHills W := TR_hi h.1
theorem gco {b : Nat} {u : Mem} {W : Wt} (h : CR b u W) {m : Nat} (hm : m < 12) : u 2 m = W (90 + m) := TR_co h.1 m hm
theorem gag {b : Nat} {u : Mem} {W : Wt} (h : CR b u W) {m : Nat} (hm : m < 12) : u 3 m = W (102 + m) := TR_ag h.1 m hm
theorem gle {b : Nat} {u : Mem} {W : Wt} (h : CR b u W) {m : Nat} (hm : m < 12) : u 4 m = W (114 + m) := TR_le h.1 m hm
theorem gte {b : Nat} {u : Mem} {W : Wt} (h : CR b u W) {m : Nat} (hm : m < 12) : u 5 m = sTold W (nI m) := TR_te h.1 m hm
theorem gwa {b : Nat} {u : Mem} {W : Wt} (h : CR b u W) {m : Nat} (hm : m < 2) : u 6 m = W (82 + m) := TR_wa h.1 m hm
theorem gwe {b : Nat} {u : Mem} {W : Wt} (h : CR b u W) {m : Nat} (hm : m < 8) : u 7 m = sWt1 W (nI m) := TR_we h.1 m hm
theorem gwar_23 {u : Mem} {W : Wt} (h : CR 23 u W) : u 23 6 = W 1 := BR_war h.2.2
theorem gday_23 {u : Mem} {W : Wt} (h : CR 23 u W) : u 23 7 = W 0 := BR_day h.2.2
theorem gdr_23 {u : Mem} {W : Wt} (h : CR 23 u W) : u 23 8 = W 2 := BR_dr h.2.2
theorem gln_23 {u : Mem} {W : Wt} (h : CR 23 u W) : u 23 9 = W 3 := BR_ln h.2.2
theorem gbr_23 {u : Mem} {W : Wt} (h : CR 23 u W) {m : Nat} (hm : m < 12) : u 24 m = W (4 + m) := BR_br h.2.2 m hm
theorem gkn_23 {u : Mem} {W : Wt} (h : CR 23 u W) {m : Nat} (hm : m < 12) : u 25 m = W (16 + m) := BR_kn h.2.2 m hm
theorem gcn_23 {u : Mem} {W : Wt} (h : CR 23 u W) {m : Nat} (hm : m < 12) : u 26 m = W (28 + m) := BR_cn h.2.2 m hm
theorem gwh_23 {u : Mem} {W : Wt} (h : CR 23 u W) {m : Nat} (hm : m < 12) : u 27 m = W (40 + m) := BR_wh h.2.2 m hm
theorem gce_23 {u : Mem} {W : Wt} (h : CR 23 u W) {m : Nat} (hm : m < 12) : u 28 m = W (52 + m) := BR_ce h.2.2 m hm
theorem gsi_23 {u : Mem} {W : Wt} (h : CR 23 u W) {m : Nat} (hm : m < 12) : u 29 m = W (64 + m) := BR_si h.2.2 m hm
theorem gwar_97 {u : Mem} {W : Wt} (h : CR 97 u W) : u 97 6 = W 1 := BR_war h.2.2
theorem gday_97 {u : Mem} {W : Wt} (h : CR 97 u W) : u 97 7 = W 0 := BR_day h.2.2
theorem gdr_97 {u : Mem} {W : Wt} (h : CR 97 u W) : u 97 8 = W 2 := BR_dr h.2.2
theorem gln_97 {u : Mem} {W : Wt} (h : CR 97 u W) : u 97 9 = W 3 := BR_ln h.2.2
theorem gbr_97 {u : Mem} {W : Wt} (h : CR 97 u W) {m : Nat} (hm : m < 12) : u 98 m = W (4 + m) := BR_br h.2.2 m hm
theorem gkn_97 {u : Mem} {W : Wt} (h : CR 97 u W) {m : Nat} (hm : m < 12) : u 99 m = W (16 + m) := BR_kn h.2.2 m hm
theorem gcn_97 {u : Mem} {W : Wt} (h : CR 97 u W) {m : Nat} (hm : m < 12) : u 100 m = W (28 + m) := BR_cn h.2.2 m hm
theorem gwh_97 {u : Mem} {W : Wt} (h : CR 97 u W) {m : Nat} (hm : m < 12) : u 101 m = W (40 + m) := BR_wh h.2.2 m hm
theorem gce_97 {u : Mem} {W : Wt} (h : CR 97 u W) {m : Nat} (hm : m < 12) : u 102 m = W (52 + m) := BR_ce h.2.2 m hm
theorem gsi_97 {u : Mem} {W : Wt} (h : CR 97 u W) {m : Nat} (hm : m < 12) : u 103 m = W (64 + m) := BR_si h.2.2 m hm
theorem z1 : ¬ (1 : Int32) = 0 := by decide
theorem z01 : ¬ (0 : Int32) = 1 := by decide
theorem z0 : (0 : Int32) = 0 := rfl
theorem n12 {i : Nat} (h : i < 12) : ¬ (12 : Int32) ≤ nI i := by rw [li_le (by decide) (by omega)]; show ¬ 12 ≤ i; omega
theorem nle {i n : Nat} (h : i < n) (hn : n < 2147483648) : ¬ nI n ≤ nI i := by rw [nn_le (by omega) (by omega)]; omega
theorem yle {n : Nat} (hn : n < 2147483648) : nI n ≤ nI n := by rw [nn_le hn hn]; exact Nat.le_refl n
theorem two_ends {α : Type} (p q : Prop) [Decidable p] [Decidable q] (h : q) (a b : α) : (if p then a else if q then a else b) = a := by
  by_cases c : p
  · rw [if_pos c]
  · rw [if_neg c, if_pos h]
theorem c_inF_32 {u : Mem} {W : Wt} (hC : CR 23 u W) (hT : OkT W) (c : Int32) : FX3_howManyInField_32 c u = some (sIn W c) := by
  obtain ⟨hn, hn12⟩ := OkT_n hT
  refine lp_v (fun F i s => FX3_howManyInField_32_L4 F c s i u) (nmen W) (fun i => fo i (fun m s => s + if W (90 + m) = c ∧ W (40 + m) = 1 then 1 else 0) 0) _ (fun i F hi => ?_) (fun F => ?_) FU (by show _ < 10000; omega)
  · show FX3_howManyInField_32_b4 _ _ _ _ _ = _
    unfold FX3_howManyInField_32_b4 FX3_howManyInField_32_b53
    rw [if_neg (n12 (by omega)), gmen hC, hn, if_neg (nle hi (by omega)), rb (by omega) (by omega), gco hC (by omega), fo_s, nI_1]
    by_cases c1 : W (90 + i) = c
    · rw [if_pos c1, rb (by omega) (by omega), gwh_23 hC (by omega)]
      by_cases c2 : W (40 + i) = 1
      · rw [if_pos c2, if_pos ⟨c1, c2⟩]
      · rw [if_neg c2, if_neg (fun h => c2 h.2)]
    · rw [if_neg c1, if_neg (fun h => c1 h.1)]
  · show FX3_howManyInField_32_b4 _ _ _ _ _ = _
    unfold FX3_howManyInField_32_b4 FX3_howManyInField_32_b61
    rw [gmen hC, hn, two_ends _ _ (yle (by omega))]
    rfl
theorem c_known_32 {u : Mem} {W : Wt} (hC : CR 23 u W) (hT : OkT W) (c : Int32) : FX3_known_32 c u = some (sKn W c) := by
  obtain ⟨hn, hn12⟩ := OkT_n hT
  refine lp_v (fun F i s => FX3_known_32_L4 F c s i u) (nmen W) (fun i => fo i (fun m s => s ||| if W (90 + m) = c then W (16 + m) else 0) 0) _ (fun i F hi => ?_) (fun F => ?_) FU (by show _ < 10000; omega)
  · show FX3_known_32_b4 _ _ _ _ _ = _
    unfold FX3_known_32_b4 FX3_known_32_b48
    rw [if_neg (n12 (by omega)), gmen hC, hn, if_neg (nle hi (by omega)), rb (by omega) (by omega), gco hC (by omega), fo_s, nI_1]
    by_cases c1 : W (90 + i) = c
    · rw [if_pos c1, rb (by omega) (by omega), gkn_23 hC (by omega), if_pos c1]
    · rw [if_neg c1, if_neg c1]
  · show FX3_known_32_b4 _ _ _ _ _ = _
    unfold FX3_known_32_b4 FX3_known_32_b56
    rw [gmen hC, hn, two_ends _ _ (yle (by omega))]
    rfl
theorem c_cells_32 {u : Mem} {W : Wt} (hC : CR 23 u W) (hT : OkT W) (c : Int32) : FX3_cellsOf_32 c u = some (sCells W c) := by
  obtain ⟨hn, hn12⟩ := OkT_n hT
  refine lp_v (fun F i s => FX3_cellsOf_32_L4 F c s i u) (nmen W) (fun i => fo i (fun m s => s ||| if W (90 + m) = c ∧ W (40 + m) = 1 then 1 <<< (W (52 + m) &&& 31) else 0) 0) _ (fun i F hi => ?_) (fun F => ?_) FU (by show _ < 10000; omega)
  · show FX3_cellsOf_32_b4 _ _ _ _ _ = _
    unfold FX3_cellsOf_32_b4 FX3_cellsOf_32_b63
    rw [if_neg (n12 (by omega)), gmen hC, hn, if_neg (nle hi (by omega)), rb (by omega) (by omega), gco hC (by omega), fo_s, nI_1]
    by_cases c1 : W (90 + i) = c
    · rw [if_pos c1, rb (by omega) (by omega), gwh_23 hC (by omega)]
      by_cases c2 : W (40 + i) = 1
      · rw [if_pos c2, rb (by omega) (by omega), gce_23 hC (by omega), if_pos ⟨c1, c2⟩]
      · rw [if_neg c2, if_neg (fun h => c2 h.2)]
    · rw [if_neg c1, if_neg (fun h => c1 h.1)]
  · show FX3_cellsOf_32_b4 _ _ _ _ _ = _
    unfold FX3_cellsOf_32_b4 FX3_cellsOf_32_b71
    rw [gmen hC, hn, two_ends _ _ (yle (by omega))]
    rfl
theorem c_isAt_32 {u : Mem} {W : Wt} (hC : CR 23 u W) (hT : OkT W) {m : Nat} (hm : m < nmen W) (x : Int32) : FX3_isAt_32 (nI m) x u = some (if W (40 + m) = 1 ∧ W (52 + m) = x then 1 else 0) := by
  obtain ⟨hn, hn12⟩ := OkT_n hT
  unfold FX3_isAt_32
  rw [c_has (gmen hC) hT hm, b_some, if_neg (by decide), rb (by omega) (by omega), gwh_23 hC (by omega)]
  by_cases c1 : W (40 + m) = 1
  · rw [if_pos c1, rb (by omega) (by omega), gce_23 hC (by omega)]
    by_cases c2 : W (52 + m) = x
    · rw [if_pos c2, if_pos ⟨c1, c2⟩]
    · rw [if_neg c2, if_neg (fun h => c2 h.2)]
  · rw [if_neg c1, if_neg (fun h => c1 h.1)]
theorem c_brAt_32 {u : Mem} {W : Wt} (hC : CR 23 u W) (hT : OkT W) (c x : Int32) : FX3_breathAt_32 c x u = some (sAt W c x) := by
  obtain ⟨hn, hn12⟩ := OkT_n hT
  refine lp_v (fun F i s => FX3_breathAt_32_L5 F c x s i u) (nmen W) (fun i => fo i (fun m s => s + if W (90 + m) = c ∧ W (40 + m) = 1 ∧ W (52 + m) = x then W (4 + m) else 0) 0) _ (fun i F hi => ?_) (fun F => ?_) FU (by show _ < 10000; omega)
  · show FX3_breathAt_32_b5 _ _ _ _ _ _ = _
    unfold FX3_breathAt_32_b5 FX3_breathAt_32_b63
    rw [if_neg (n12 (by omega)), gmen hC, hn, if_neg (nle hi (by omega)), rb (by omega) (by omega), gco hC (by omega), fo_s, nI_1]
    by_cases c1 : W (90 + i) = c
    · rw [if_pos c1, c_isAt_32 hC hT hi, b_some]
      by_cases c2 : W (40 + i) = 1 ∧ W (52 + i) = x
      · rw [if_pos c2, if_neg (by decide), rb (by omega) (by omega), gbr_23 hC (by omega), if_pos ⟨c1, c2⟩]
      · rw [if_neg c2, if_pos rfl, if_neg (fun h => c2 h.2)]
    · rw [if_neg c1, if_neg (fun h => c1 h.1)]
  · show FX3_breathAt_32_b5 _ _ _ _ _ _ = _
    unfold FX3_breathAt_32_b5 FX3_breathAt_32_b71
    rw [gmen hC, hn, two_ends _ _ (yle (by omega))]
    rfl
theorem c_inF_104 {u : Mem} {W : Wt} (hC : CR 97 u W) (hT : OkT W) (c : Int32) : FX3_howManyInField_104 c u = some (sIn W c) := by
  obtain ⟨hn, hn12⟩ := OkT_n hT
  refine lp_v (fun F i s => FX3_howManyInField_104_L4 F c s i u) (nmen W) (fun i => fo i (fun m s => s + if W (90 + m) = c ∧ W (40 + m) = 1 then 1 else 0) 0) _ (fun i F hi => ?_) (fun F => ?_) FU (by show _ < 10000; omega)
  · show FX3_howManyInField_104_b4 _ _ _ _ _ = _
    unfold FX3_howManyInField_104_b4 FX3_howManyInField_104_b53
    rw [if_neg (n12 (by omega)), gmen hC, hn, if_neg (nle hi (by omega)), rb (by omega) (by omega), gco hC (by omega), fo_s, nI_1]
    by_cases c1 : W (90 + i) = c
    · rw [if_pos c1, rb (by omega) (by omega), gwh_97 hC (by omega)]
      by_cases c2 : W (40 + i) = 1
      · rw [if_pos c2, if_pos ⟨c1, c2⟩]
      · rw [if_neg c2, if_neg (fun h => c2 h.2)]
    · rw [if_neg c1, if_neg (fun h => c1 h.1)]
  · show FX3_howManyInField_104_b4 _ _ _ _ _ = _
    unfold FX3_howManyInField_104_b4 FX3_howManyInField_104_b61
    rw [gmen hC, hn, two_ends _ _ (yle (by omega))]
    rfl
theorem c_known_104 {u : Mem} {W : Wt} (hC : CR 97 u W) (hT : OkT W) (c : Int32) : FX3_known_104 c u = some (sKn W c) := by
  obtain ⟨hn, hn12⟩ := OkT_n hT
  refine lp_v (fun F i s => FX3_known_104_L4 F c s i u) (nmen W) (fun i => fo i (fun m s => s ||| if W (90 + m) = c then W (16 + m) else 0) 0) _ (fun i F hi => ?_) (fun F => ?_) FU (by show _ < 10000; omega)
  · show FX3_known_104_b4 _ _ _ _ _ = _
    unfold FX3_known_104_b4 FX3_known_104_b48
    rw [if_neg (n12 (by omega)), gmen hC, hn, if_neg (nle hi (by omega)), rb (by omega) (by omega), gco hC (by omega), fo_s, nI_1]
    by_cases c1 : W (90 + i) = c
    · rw [if_pos c1, rb (by omega) (by omega), gkn_97 hC (by omega), if_pos c1]
    · rw [if_neg c1, if_neg c1]
  · show FX3_known_104_b4 _ _ _ _ _ = _
    unfold FX3_known_104_b4 FX3_known_104_b56
    rw [gmen hC, hn, two_ends _ _ (yle (by omega))]
    rfl
theorem c_cells_104 {u : Mem} {W : Wt} (hC : CR 97 u W) (hT : OkT W) (c : Int32) : FX3_cellsOf_104 c u = some (sCells W c) := by
  obtain ⟨hn, hn12⟩ := OkT_n hT
  refine lp_v (fun F i s => FX3_cellsOf_104_L4 F c s i u) (nmen W) (fun i => fo i (fun m s => s ||| if W (90 + m) = c ∧ W (40 + m) = 1 then 1 <<< (W (52 + m) &&& 31) else 0) 0) _ (fun i F hi => ?_) (fun F => ?_) FU (by show _ < 10000; omega)
  · show FX3_cellsOf_104_b4 _ _ _ _ _ = _
    unfold FX3_cellsOf_104_b4 FX3_cellsOf_104_b63
    rw [if_neg (n12 (by omega)), gmen hC, hn, if_neg (nle hi (by omega)), rb (by omega) (by omega), gco hC (by omega), fo_s, nI_1]
    by_cases c1 : W (90 + i) = c
    · rw [if_pos c1, rb (by omega) (by omega), gwh_97 hC (by omega)]
      by_cases c2 : W (40 + i) = 1
      · rw [if_pos c2, rb (by omega) (by omega), gce_97 hC (by omega), if_pos ⟨c1, c2⟩]
      · rw [if_neg c2, if_neg (fun h => c2 h.2)]
    · rw [if_neg c1, if_neg (fun h => c1 h.1)]
  · show FX3_cellsOf_104_b4 _ _ _ _ _ = _
    unfold FX3_cellsOf_104_b4 FX3_cellsOf_104_b71
    rw [gmen hC, hn, two_ends _ _ (yle (by omega))]
    rfl
theorem c_isAt_104 {u : Mem} {W : Wt} (hC : CR 97 u W) (hT : OkT W) {m : Nat} (hm : m < nmen W) (x : Int32) : FX3_isAt_104 (nI m) x u = some (if W (40 + m) = 1 ∧ W (52 + m) = x then 1 else 0) := by
  obtain ⟨hn, hn12⟩ := OkT_n hT
  unfold FX3_isAt_104
  rw [c_has (gmen hC) hT hm, b_some, if_neg (by decide), rb (by omega) (by omega), gwh_97 hC (by omega)]
  by_cases c1 : W (40 + m) = 1
  · rw [if_pos c1, rb (by omega) (by omega), gce_97 hC (by omega)]
    by_cases c2 : W (52 + m) = x
    · rw [if_pos c2, if_pos ⟨c1, c2⟩]
    · rw [if_neg c2, if_neg (fun h => c2 h.2)]
  · rw [if_neg c1, if_neg (fun h => c1 h.1)]
theorem c_brAt_104 {u : Mem} {W : Wt} (hC : CR 97 u W) (hT : OkT W) (c x : Int32) : FX3_breathAt_104 c x u = some (sAt W c x) := by
  obtain ⟨hn, hn12⟩ := OkT_n hT
  refine lp_v (fun F i s => FX3_breathAt_104_L5 F c x s i u) (nmen W) (fun i => fo i (fun m s => s + if W (90 + m) = c ∧ W (40 + m) = 1 ∧ W (52 + m) = x then W (4 + m) else 0) 0) _ (fun i F hi => ?_) (fun F => ?_) FU (by show _ < 10000; omega)
  · show FX3_breathAt_104_b5 _ _ _ _ _ _ = _
    unfold FX3_breathAt_104_b5 FX3_breathAt_104_b63
    rw [if_neg (n12 (by omega)), gmen hC, hn, if_neg (nle hi (by omega)), rb (by omega) (by omega), gco hC (by omega), fo_s, nI_1]
    by_cases c1 : W (90 + i) = c
    · rw [if_pos c1, c_isAt_104 hC hT hi, b_some]
      by_cases c2 : W (40 + i) = 1 ∧ W (52 + i) = x
      · rw [if_pos c2, if_neg (by decide), rb (by omega) (by omega), gbr_97 hC (by omega), if_pos ⟨c1, c2⟩]
      · rw [if_neg c2, if_pos rfl, if_neg (fun h => c2 h.2)]
    · rw [if_neg c1, if_neg (fun h => c1 h.1)]
  · show FX3_breathAt_104_b5 _ _ _ _ _ _ = _
    unfold FX3_breathAt_104_b5 FX3_breathAt_104_b71
    rw [gmen hC, hn, two_ends _ _ (yle (by omega))]
    rfl
theorem c_brOf_104 {u : Mem} {W : Wt} (hC : CR 97 u W) (hT : OkT W) (c : Int32) : FX3_breathOf_104 c u = some (sBr W c) := by
  obtain ⟨hn, hn12⟩ := OkT_n hT
  refine lp_v (fun F i s => FX3_breathOf_104_L4 F c s i u) (nmen W) (fun i => fo i (fun m s => s + if W (90 + m) = c then W (4 + m) else 0) 0) _ (fun i F hi => ?_) (fun F => ?_) FU (by show _ < 10000; omega)
  · show FX3_breathOf_104_b4 _ _ _ _ _ = _
    unfold FX3_breathOf_104_b4 FX3_breathOf_104_b48
    rw [if_neg (n12 (by omega)), gmen hC, hn, if_neg (nle hi (by omega)), rb (by omega) (by omega), gco hC (by omega), fo_s, nI_1]
    by_cases c1 : W (90 + i) = c
    · rw [if_pos c1, rb (by omega) (by omega), gbr_97 hC (by omega), if_pos c1]
    · rw [if_neg c1, if_neg c1]
  · show FX3_breathOf_104_b4 _ _ _ _ _ = _
    unfold FX3_breathOf_104_b4 FX3_breathOf_104_b56
    rw [gmen hC, hn, two_ends _ _ (yle (by omega))]
    rfl
theorem c_wOf {b : Nat} {u : Mem} {W : Wt} (hC : CR b u W) (z : Int32) : FX9_weightOf_1 z u = some (sWt W z) := by
  refine lp_v (fun F i s => FX9_weightOf_1_L4 F z s i u) 8 (fun i => fo i (fun f s => s + if tb z f = true then sWt1 W (nI f) else 0) 0) _ (fun i F hi => ?_) (fun F => ?_) FU (by decide)
  · show FX9_weightOf_1_b4 _ _ _ _ _ = _
    unfold FX9_weightOf_1_b4 FX9_weightOf_1_b29
    rw [if_neg (by rw [li_le (by decide) (by omega)]; show ¬ 8 ≤ i; omega), holds_b _ (by omega), b_some, fo_s, nI_1]
    by_cases c1 : tb z i = true
    · rw [if_pos c1, if_neg (by decide), rb hi (by omega), gwe hC hi, if_pos c1]
    · rw [if_neg c1, if_pos rfl, if_neg c1]
  · show FX9_weightOf_1_b4 _ _ _ _ _ = _
    unfold FX9_weightOf_1_b4
    rw [if_pos (by decide)]
    rfl
theorem c_rest {u : Mem} {W : Wt} (hT1 : TR 1 u W) (hT : OkT W) (c : Int32) : FX5_rests_15 (W 0) c u = some (sRest W c) := by
  obtain ⟨hn, hn16⟩ := OkT_on hT
  have e3 : u 15 3 = nI (nt (W 87)) := (TR_ol hT1).trans hn
  refine lp_v (fun F i s => FX5_rests_15_L5 F (W 0) c s i u) (nt (W 87)) (fun i => fo i (fun i s => if W (222 + 3 * i) = W 0 ∧ W (222 + 3 * i + 2) = c then (if W (222 + 3 * i + 1) = 11 then 1 else 0) else s) 0) _ (fun i F hi => ?_) (fun F => ?_) FU (by show _ < 10000; omega)
  · show FX5_rests_15_b5 _ _ _ _ _ _ = _
    unfold FX5_rests_15_b5 FX5_rests_15_b60 FX5_rests_15_b59 FX5_rests_15_b60
    rw [e3, if_neg (nle hi (by omega)), if_neg (by rw [li_le (by decide) (by omega)]; show ¬ 16 ≤ i; omega), rb (by omega) (by omega), show u 16 i = _ from TR_od hT1 i hi, fo_s, nI_1]
    by_cases c1 : W (222 + 3 * i) = W 0
    · rw [if_pos c1, rb (by omega) (by omega), show u 17 i = _ from TR_oc hT1 i hi]
      by_cases c2 : W (222 + 3 * i + 2) = c
      · rw [if_pos c2, rb (by omega) (by omega), show u 18 i = _ from TR_or hT1 i hi]
        by_cases c3 : W (222 + 3 * i + 1) = 11
        · simp only [if_pos c3, if_pos (And.intro c1 c2)]; rfl
        · simp only [if_neg c3, if_pos (And.intro c1 c2), if_neg z01]
      · rw [if_neg c2, if_neg (fun h => c2 h.2)]
    · rw [if_neg c1, if_neg (fun h => c1 h.1)]
  · show FX5_rests_15_b5 _ _ _ _ _ _ = _
    unfold FX5_rests_15_b5 FX5_rests_15_b66
    rw [e3, if_pos (yle (by omega))]
    show (bchk (sRest W c)).bind _ = _
    rw [bchk_rest]
    rfl
/-! the model's -/
theorem m_isOf {u : Mem} {W : Wt} (hu : u 147 = W) {m : Nat} (hm : m < 12) (c w : Int32) : FX12_isOf_146 (nI m) c w u = some (if W (90 + m) = c ∧ W (40 + m) = w then 1 else 0) := by
  unfold FX12_isOf_146
  rw [rl (by show 90 + m < _; omega) (by omega), hu]
  show (if W (90 + m) = c then _ else _) = _
  by_cases c1 : W (90 + m) = c
  · rw [if_pos c1, rl (by show 40 + m < _; omega) (by omega), hu]
    show (if W (40 + m) = w then _ else _) = _
    by_cases c2 : W (40 + m) = w
    · rw [if_pos c2, if_pos ⟨c1, c2⟩]
    · rw [if_neg c2, if_neg (fun h => c2 h.2)]
  · rw [if_neg c1, if_neg (fun h => c1 h.1)]
theorem m_inF {u : Mem} {W : Wt} (hu : u 147 = W) (hT : OkT W) (c : Int32) : FX12_inField_146 c u = some (sIn W c) := by
  obtain ⟨hn, hn12⟩ := OkT_n hT
  refine lp_v (fun F i s => FX12_inField_146_L4 F c s i u) (nmen W) (fun i => fo i (fun m s => s + if W (90 + m) = c ∧ W (40 + m) = 1 then 1 else 0) 0) _ (fun i F hi => ?_) (fun F => ?_) FU (by show _ < 10000; omega)
  · show FX12_inField_146_b4 _ _ _ _ _ = _
    unfold FX12_inField_146_b4 FX12_inField_146_b31
    rw [hu, hn, if_neg (nle hi (by omega)), m_isOf hu (by omega), b_some, fo_s, nI_1]
    by_cases c1 : W (90 + i) = c ∧ W (40 + i) = 1
    · simp only [if_pos c1, if_neg z1]
    · simp only [if_neg c1, reduceIte]
  · show FX12_inField_146_b4 _ _ _ _ _ = _
    unfold FX12_inField_146_b4
    rw [hu, hn, if_pos (yle (by omega))]
    rfl
theorem m_known {u : Mem} {W : Wt} (hu : u 147 = W) (hT : OkT W) (c : Int32) : FX12_knownIn_146 c u = some (sKn W c) := by
  obtain ⟨hn, hn12⟩ := OkT_n hT
  refine lp_v (fun F i s => FX12_knownIn_146_L4 F c s i u) (nmen W) (fun i => fo i (fun m s => s ||| if W (90 + m) = c then W (16 + m) else 0) 0) _ (fun i F hi => ?_) (fun F => ?_) FU (by show _ < 10000; omega)
  · show FX12_knownIn_146_b4 _ _ _ _ _ = _
    unfold FX12_knownIn_146_b4 FX12_knownIn_146_b42
    rw [hu, hn, if_neg (nle hi (by omega)), rl (by show 90 + i < _; omega) (by omega), hu, fo_s, nI_1]
    show (if W (90 + i) = c then _ else _) = _
    by_cases c1 : W (90 + i) = c
    · simp only [if_pos c1]; rw [rl (by show 16 + i < _; omega) (by omega), hu]
    · simp only [if_neg c1]
  · show FX12_knownIn_146_b4 _ _ _ _ _ = _
    unfold FX12_knownIn_146_b4
    rw [hu, hn, if_pos (yle (by omega))]
    rfl
theorem ix2 (c i : Nat) : (OfNat.ofNat c : Int32) + (2 * nI i) = nI ((OfNat.ofNat c : Nat) + 2 * i) := by
  rw [show (2 : Int32) = nI 2 by decide, nI_mul]; exact nI_add c (2 * i)
theorem ix3 (c i : Nat) : (OfNat.ofNat c : Int32) + (3 * nI i) = nI ((OfNat.ofNat c : Nat) + 3 * i) := by
  rw [show (3 : Int32) = nI 3 by decide, nI_mul]; exact nI_add c (3 * i)
theorem m_wt1 {u : Mem} {W : Wt} (hu : u 147 = W) (hT : OkT W) (f : Int32) : FX12_weightOf_146 f u = some (sWt1 W f) := by
  obtain ⟨hn0, hn12⟩ := OkT_wn hT
  have hn : u 147 86 = nI (nt (W 86)) := by rw [hu]; exact hn0
  refine lp_v (fun F i s => FX12_weightOf_146_L4 F f s i u) (nt (W 86)) (fun i => fo i (fun i s => if W (190 + 2 * i) = f then W (190 + 2 * i + 1) else s) 1) _ (fun i F hi => ?_) (fun F => ?_) FU (by show _ < 10000; omega)
  · show FX12_weightOf_146_b4 _ _ _ _ _ = _
    unfold FX12_weightOf_146_b4 FX12_weightOf_146_b46
    rw [hn, if_neg (nle hi (by omega)), ix2, nI_1, rb (by omega) (by omega), hu, fo_s, nI_1]
    by_cases c1 : W (190 + 2 * i) = f
    · simp only [if_pos c1]; rw [rb (by omega) (by omega), hu]
    · simp only [if_neg c1]
  · show FX12_weightOf_146_b4 _ _ _ _ _ = _
    unfold FX12_weightOf_146_b4
    rw [hn, if_pos (yle (by omega))]
    rfl
theorem m_wt {u : Mem} {W : Wt} (hu : u 147 = W) (hT : OkT W) (z : Int32) : FX12_weightOfSet_146 z u = some (sWt W z) := by
  refine lp_v (fun F i s => FX12_weightOfSet_146_L4 F z s i u) 8 (fun i => fo i (fun f s => s + if tb z f = true then sWt1 W (nI f) else 0) 0) _ (fun i F hi => ?_) (fun F => ?_) FU (by decide)
  · show FX12_weightOfSet_146_b4 _ _ _ _ _ = _
    unfold FX12_weightOfSet_146_b4 FX12_weightOfSet_146_b29
    rw [if_neg (by rw [li_le (by decide) (by omega)]; show ¬ 8 ≤ i; omega), fo_s, nI_1]
    by_cases c1 : tb z i = true
    · rw [if_pos (show ((z >>> (nI i &&& 31)) &&& 1) = 1 by rw [bit_1 z (by omega)]; exact c1), m_wt1 hu hT, b_some, if_pos c1]
    · rw [if_neg (show ¬ ((z >>> (nI i &&& 31)) &&& 1) = 1 by rw [bit_1 z (by omega)]; exact c1), if_neg c1]
  · show FX12_weightOfSet_146_b4 _ _ _ _ _ = _
    unfold FX12_weightOfSet_146_b4
    rw [if_pos (by decide)]
    rfl
theorem m_told {u : Mem} {W : Wt} (hu : u 147 = W) (hT : OkT W) (m : Int32) : FX12_toldBy_146 m u = some (sTold W m) := by
  obtain ⟨hn0, hn12⟩ := OkT_tn hT
  have hn : u 147 85 = nI (nt (W 85)) := by rw [hu]; exact hn0
  refine lp_v (fun F i s => FX12_toldBy_146_L4 F m s i u) (nt (W 85)) (fun i => fo i (fun i s => if W (158 + 2 * i) = m then s ||| W (158 + 2 * i + 1) else s) 0) _ (fun i F hi => ?_) (fun F => ?_) FU (by show _ < 10000; omega)
  · show FX12_toldBy_146_b4 _ _ _ _ _ = _
    unfold FX12_toldBy_146_b4 FX12_toldBy_146_b48
    rw [hn, if_neg (nle hi (by omega)), ix2, nI_1, rb (by omega) (by omega), hu, fo_s, nI_1]
    by_cases c1 : W (158 + 2 * i) = m
    · simp only [if_pos c1]; rw [rb (by omega) (by omega), hu]
    · simp only [if_neg c1]
  · show FX12_toldBy_146_b4 _ _ _ _ _ = _
    unfold FX12_toldBy_146_b4
    rw [hn, if_pos (yle (by omega))]
    rfl
theorem m_rest {u : Mem} {W : Wt} (hu : u 147 = W) (hT : OkT W) (c : Int32) : FX12_rests_146 c u = some (sRest W c) := by
  obtain ⟨hn0, hn12⟩ := OkT_on hT
  have hn : u 147 87 = nI (nt (W 87)) := by rw [hu]; exact hn0
  refine lp_v (fun F i s => FX12_rests_146_L4 F c s i u) (nt (W 87)) (fun i => fo i (fun i s => if W (222 + 3 * i) = W 0 ∧ W (222 + 3 * i + 2) = c then (if W (222 + 3 * i + 1) = 11 then 1 else 0) else s) 0) _ (fun i F hi => ?_) (fun F => ?_) FU (by show _ < 10000; omega)
  · show FX12_rests_146_b4 _ _ _ _ _ = _
    unfold FX12_rests_146_b4 FX12_rests_146_b73 FX12_rests_146_b72 FX12_rests_146_b73
    rw [hn, if_neg (nle hi (by omega)), ix3, show nI (222 + 3 * i) + 2 = nI (222 + 3 * i + 2) from nI_add _ 2, nI_1, rb (by omega) (by omega), hu, fo_s, nI_1]
    by_cases c1 : W (222 + 3 * i) = W 0
    · rw [if_pos c1, rb (by omega) (by omega), hu]
      by_cases c2 : W (222 + 3 * i + 2) = c
      · rw [if_pos c2, rb (by omega) (by omega), hu]
        by_cases c3 : W (222 + 3 * i + 1) = 11
        · simp only [if_pos c3, if_pos (And.intro c1 c2)]
        · simp only [if_neg c3, if_pos (And.intro c1 c2)]
      · simp only [if_neg c2, if_neg (fun h : _ ∧ _ => c2 h.2)]
    · simp only [if_neg c1, if_neg (fun h : _ ∧ _ => c1 h.1)]
  · show FX12_rests_146_b4 _ _ _ _ _ = _
    unfold FX12_rests_146_b4
    rw [hn, if_pos (yle (by omega))]
    show (bchk (sRest W c)).bind _ = _
    rw [bchk_rest]
    rfl
theorem m_brAt {u : Mem} {W : Wt} (hu : u 147 = W) (hT : OkT W) (c x : Int32) : FX12_breathAt_146 c x u = some (sAt W c x) := by
  obtain ⟨hn, hn12⟩ := OkT_n hT
  refine lp_v (fun F i s => FX12_breathAt_146_L5 F c x s i u) (nmen W) (fun i => fo i (fun m s => s + if W (90 + m) = c ∧ W (40 + m) = 1 ∧ W (52 + m) = x then W (4 + m) else 0) 0) _ (fun i F hi => ?_) (fun F => ?_) FU (by show _ < 10000; omega)
  · show FX12_breathAt_146_b5 _ _ _ _ _ _ = _
    unfold FX12_breathAt_146_b5 FX12_breathAt_146_b56
    rw [hu, hn, if_neg (nle hi (by omega)), m_isOf hu (by omega), b_some, fo_s, nI_1]
    by_cases c1 : W (90 + i) = c ∧ W (40 + i) = 1
    · rw [if_pos c1, if_neg (by decide), rl (by show 52 + i < _; omega) (by omega), hu]
      show (if W (52 + i) = x then _ else _) = _
      by_cases c2 : W (52 + i) = x
      · rw [if_pos c2, rl (by show 4 + i < _; omega) (by omega), hu, if_pos ⟨c1.1, c1.2, c2⟩]
      · rw [if_neg c2, if_neg (fun h => c2 h.2.2)]
    · simp only [if_neg c1, reduceIte]; rw [if_neg (fun h => c1 ⟨h.1, h.2.1⟩)]
  · show FX12_breathAt_146_b5 _ _ _ _ _ _ = _
    unfold FX12_breathAt_146_b5
    rw [hu, hn, if_pos (yle (by omega))]
    rfl
theorem sHeld_at {W : Wt} {c x : Int32} : ∀ (n : Nat), fo n (fun m s => s || decide (W (90 + m) = c ∧ W (40 + m) = 1 ∧ W (52 + m) = x)) false = decide (∃ m, m < n ∧ W (90 + m) = c ∧ W (40 + m) = 1 ∧ W (52 + m) = x) := by
  intro n
  induction n with
  | zero => rw [fo_0]; symm; apply decide_eq_false; rintro ⟨m, h, -⟩; omega
  | succ n ih =>
    rw [fo_s, ih, ← Bool.decide_or]
    apply decide_eq_decide.mpr
    constructor
    · rintro (⟨m, h, r⟩ | h)
      · exact ⟨m, by omega, r⟩
      · exact ⟨n, by omega, h⟩
    · rintro ⟨m, h, r⟩
      by_cases e : m = n
      · subst e; exact Or.inr r
      · exact Or.inl ⟨m, by omega, r⟩
theorem sHeld_iff {W : Wt} {c x : Int32} : (sHeld W c x = true) = (∃ m, m < nmen W ∧ W (90 + m) = c ∧ W (40 + m) = 1 ∧ W (52 + m) = x) := by
  unfold sHeld; rw [sHeld_at, decide_eq_true_eq]
theorem m_held {u : Mem} {W : Wt} (hu : u 147 = W) (hT : OkT W) (c x : Int32) : FX12_isHeld_146 c x u = some (if sHeld W c x = true then 1 else 0) := by
  obtain ⟨hn, hn12⟩ := OkT_n hT
  have h := lp_r (S := Unit) (fun F i _ => FX12_isHeld_146_L2 F c x i u) (nmen W) (fun i _ => ∀ m, m < i → ¬ (W (90 + m) = c ∧ W (40 + m) = 1 ∧ W (52 + m) = x)) (fun o => o = some (if sHeld W c x = true then 1 else 0)) (fun i s hi hI => ?_) (fun s hI F => ?_) FU 0 () (by omega) (by show _ < 10000; omega) (fun m hm => by omega)
  · rw [← nI_0] at h ⊢; exact h
  · by_cases c0 : W (90 + i) = c ∧ W (40 + i) = 1 ∧ W (52 + i) = x
    · refine Or.inr (fun F => ?_)
      show FX12_isHeld_146_b2 _ _ _ _ _ = _
      unfold FX12_isHeld_146_b2
      rw [hu, hn, if_neg (nle hi (by omega)), m_isOf hu (by omega), b_some, if_pos (show W (90 + i) = c ∧ W (40 + i) = 1 from ⟨c0.1, c0.2.1⟩), if_neg z1, rl (by show 52 + i < _; omega) (by omega), hu, if_pos c0.2.2, if_pos (show sHeld W c x = true by rw [sHeld_iff]; exact ⟨i, hi, c0⟩)]
    · refine Or.inl ⟨(), fun m hm => ?_, fun F => ?_⟩
      · by_cases e : m = i
        · rw [e]; exact c0
        · exact hI m (by omega)
      · show FX12_isHeld_146_b2 _ _ _ _ _ = _
        unfold FX12_isHeld_146_b2 FX12_isHeld_146_b38
        rw [hu, hn, if_neg (nle hi (by omega)), m_isOf hu (by omega), b_some, nI_1]
        by_cases c1 : W (90 + i) = c ∧ W (40 + i) = 1
        · rw [if_pos c1, if_neg (by decide), rl (by show 52 + i < _; omega) (by omega), hu, if_neg (fun h => c0 ⟨c1.1, c1.2, h⟩)]
        · rw [if_neg c1, if_pos rfl]
  · show FX12_isHeld_146_b2 _ _ _ _ _ = _
    unfold FX12_isHeld_146_b2
    rw [hu, hn, if_pos (yle (by omega)), if_neg (show ¬ sHeld W c x = true by rw [sHeld_iff]; rintro ⟨m, h1, h2⟩; exact hI m h1 h2)]
/-- the set of cells, by its bits -/
theorem cells_n {W : Wt} (hD : OkD W) {c : Int32} : ∀ n, n ≤ 12 → ∀ k, k < 32 → tb (fo n (fun m s => s ||| if W (90 + m) = c ∧ W (40 + m) = 1 then 1 <<< (W (52 + m) &&& 31) else 0) 0) k = decide (∃ m, m < n ∧ W (90 + m) = c ∧ W (40 + m) = 1 ∧ W (52 + m) = nI k) := by
  intro n
  induction n with
  | zero => intro _ k hk; rw [fo_0, tb_0]; symm; apply decide_eq_false; rintro ⟨m, h, -⟩; omega
  | succ n ih =>
    intro hn k hk
    rw [fo_s, tb_or, ih (by omega) k hk]
    obtain ⟨j, hj, e⟩ := OkD_ce hD n (by omega)
    have h2 : tb (if W (90 + n) = c ∧ W (40 + n) = 1 then 1 <<< (W (52 + n) &&& 31) else 0) k = decide (W (90 + n) = c ∧ W (40 + n) = 1 ∧ W (52 + n) = nI k) := by
      by_cases c1 : W (90 + n) = c ∧ W (40 + n) = 1
      · rw [if_pos c1, e, nI_shm (by omega), tb_1s (by omega) hk]
        apply decide_eq_decide.mpr
        rw [nn_eq (by omega) (by omega)]
        exact ⟨fun h => ⟨c1.1, c1.2, h.symm⟩, fun h => h.2.2.symm⟩
      · rw [if_neg c1, tb_0]; symm; apply decide_eq_false
        exact fun h => c1 ⟨h.1, h.2.1⟩
    rw [h2, ← Bool.decide_or]
    apply decide_eq_decide.mpr
    constructor
    · rintro (⟨m, h, r⟩ | h)
      · exact ⟨m, by omega, r⟩
      · exact ⟨n, by omega, h⟩
    · rintro ⟨m, h, r⟩
      by_cases e : m = n
      · subst e; exact Or.inr r
      · exact Or.inl ⟨m, by omega, r⟩
theorem cells_tb {W : Wt} (hT : OkT W) (hD : OkD W) {c : Int32} {k : Nat} (hk : k < 32) : tb (sCells W c) k = sHeld W c (nI k) := by
  obtain ⟨hn, hn12⟩ := OkT_n hT
  unfold sCells sHeld
  rw [cells_n hD _ hn12 k hk, sHeld_at]

