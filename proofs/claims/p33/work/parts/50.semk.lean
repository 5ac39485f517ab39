/-! fights: the class's -/
theorem XR_m32 {fa md : Int32} {B : Wt} {u : Mem} {W : Wt} (h : XR_32 fa md B u W) : XR_32 fa (md + 1) B (mupd u 32 6 (u 32 6 + 1)) W :=
  ⟨⟨TR_cg h.1.1 (fun i hi => m_ne (by omega)), LC_cg h.1.2.1 (fun i hi => m_ne (by omega)), BR_cg h.1.2.2 (fun i hi => m_ne (by omega))⟩, fun i hi => by rw [m_ne (by omega)]; exact h.2.1 i hi, by rw [m_eq, up_ne (by omega)]; exact h.2.2.1, by rw [m_eq, up_ne (by omega)]; exact h.2.2.2⟩
theorem XR_m104 {fa md : Int32} {B : Wt} {u : Mem} {W : Wt} (h : XR_104 fa md B u W) : XR_104 fa (md + 1) B (mupd u 104 6 (u 104 6 + 1)) W :=
  ⟨⟨TR_cg h.1.1 (fun i hi => m_ne (by omega)), LC_cg h.1.2.1 (fun i hi => m_ne (by omega)), BR_cg h.1.2.2 (fun i hi => m_ne (by omega))⟩, by rw [m_eq, up_ne (by omega)]; exact h.2.1, by rw [m_eq, up_ne (by omega)]; exact h.2.2.1, by rw [m_eq, up_eq, h.2.2.2.1], by rw [m_ne (by omega)]; exact h.2.2.2.2⟩
theorem c_yng_32 {u : Mem} {W : Wt} (hC : CR 23 u W) (hT : OkT W) (c x : Int32) : FX3_catchYoungest_32 c x u = FX3_catchYoungest_32_b96 x (yng W c x (nmen W)) u := by
  obtain ⟨hn, hn12⟩ := OkT_n hT
  refine lp_v (fun F i s => FX3_catchYoungest_32_L5 F c x s i u) (nmen W) (fun i => yng W c x i) _ (fun i F hi => ?_) (fun F => ?_) FU (by show _ < 10000; omega)
  · show FX3_catchYoungest_32_b5 _ _ _ _ _ _ = FX3_catchYoungest_32_L5 F c x (yng W c x (i + 1)) (nI (i + 1)) u
    have hi12 : i < 12 := by omega
    unfold FX3_catchYoungest_32_b5 FX3_catchYoungest_32_b53 FX3_catchYoungest_32_b87 FX3_catchYoungest_32_b90
    rw [if_neg (n12 hi12), gmen hC, hn, if_neg (nle hi (by omega)), rb hi12 (by omega), gco hC hi12, c_isAt_32 hC hT hi, b_some, nI_1]
    rw [show yng W c x (i + 1) = if (W (90 + i) = c ∧ W (40 + i) = 1 ∧ W (52 + i) = x) ∧ (yng W c x i = -1 ∨ W (102 + i) < W (102 + nt (yng W c x i))) then nI i else yng W c x i from rfl]
    by_cases c1 : W (90 + i) = c
    · rw [if_pos c1]
      by_cases c2 : W (40 + i) = 1 ∧ W (52 + i) = x
      · rw [if_pos c2, if_neg z1, if_neg z1]
        rcases yng_ok W c x i with e | ⟨k, hk, e, -⟩
        · rw [if_pos e, if_pos ⟨⟨c1, c2⟩, Or.inl e⟩]
        · rw [e, if_neg (nI_m1 (by omega)), rb hi12 (by omega), rb (show k < 12 by omega) (by omega), gag hC hi12, gag hC (show k < 12 by omega), nt_nI (by omega)]
          by_cases c3 : W (102 + i) < W (102 + k)
          · rw [if_neg (by rw [Int32.not_le]; exact c3), if_pos ⟨⟨c1, c2⟩, Or.inr c3⟩]
          · rw [if_pos (by rw [← Int32.not_lt]; exact c3), if_neg]
            rintro ⟨-, h | h⟩
            · exact nI_m1 (by omega) h
            · exact c3 h
      · rw [if_neg c2, if_pos rfl, if_pos rfl, if_neg (fun h => c2 h.1.2)]
    · rw [if_neg c1, if_pos rfl, if_neg (fun h => c1 h.1.1)]
  · show FX3_catchYoungest_32_b5 _ _ _ _ _ _ = _
    unfold FX3_catchYoungest_32_b5
    rw [gmen hC, hn, two_ends _ _ (yle (by omega))]
theorem c_catch_32 {fa md : Int32} {B : Wt} {u : Mem} {W : Wt} (hX : XR_32 fa md B u W) (hW : WO W) {c x : Int32} (h : sHeld W c x = true) : ∃ u', FX3_catchYoungest_32 c x u = some u' ∧ XR_32 fa (md + 1) B u' (dCatch 1 c x W) := by
  obtain ⟨hn, hn12⟩ := OkT_n hW.1
  obtain ⟨k, hk, e, r1, r2, r3⟩ := yng_held hW.1 h
  have hk12 : k < 12 := by omega
  rw [c_yng_32 hX.1 hW.1]
  unfold FX3_catchYoungest_32_b96 dCatch
  rw [e, nt_nI (by omega), if_neg (nI_m1 (by omega)), wb hk12 (by omega), m_ne (by decide), gday_23 hX.1, wb hk12 (by omega), b_some]
  have hX1 := XR_u32 hX hW.1 (j := 3) (by omega) hk12 2
  have hW1 : WO (upd W (40 + k) 2) := WO_u hW (s78_u (by omega)) (OkD_uwh hW.2.1 hk12 ⟨2, by omega, rfl⟩ (Or.inl hk))
  have hX2 := XR_u32 hX1 hW1.1 (j := 5) (by omega) hk12 (W 0)
  have hW2 : WO (upd (upd W (40 + k) 2) (64 + k) (W 0)) := WO_u hW1 (s78_u (by omega)) (OkD_usi hW1.2.1 hk12)
  obtain ⟨u3, g3, hX3⟩ := c_note_32 (XR_m32 hX2) hW2 1 (nI k) x
  refine ⟨u3, ?_, hX3⟩
  show (FX3_note_32 1 (nI k) x (mupd (mupd (mupd u 27 k 2) 29 k (W 0)) 32 6 ((mupd (mupd u 27 k 2) 29 k (W 0)) 32 6 + 1))).bind _ = _
  rw [g3, b_some]
theorem c_beat1_32 {fa md : Int32} {B : Wt} {u : Mem} {W : Wt} (hX : XR_32 fa md B u W) (hW : WO W) {c x : Int32} {m : Nat} (hm : m < nmen W) : ∃ u', XR_32 fa md B u' (dBeat1 1 c x m W) ∧ ∀ F, FX3_beat_32_L2 (F + 1) c x (nI m) u = FX3_beat_32_L2 F c x (nI (m + 1)) u' := by
  obtain ⟨hn, hn12⟩ := OkT_n hW.1
  have hm12 : m < 12 := by omega
  have hn' : u 1 0 = nI (nmen W) := (gmen hX.1).trans hn
  have start : ∀ F, FX3_beat_32_L2 (F + 1) c x (nI m) u = (if (if W (40 + m) = 1 ∧ W (52 + m) = x then (1 : Int32) else 0) = 0 then FX3_beat_32_L2 F c x (nI (m + 1)) u else (if W (90 + m) = c then ((FX3_note_32 2 (nI m) x (mupd (mupd u 27 m 0) 24 m (W (4 + m) / 2))).bind fun u12 => FX3_beat_32_L2 F c x (nI (m + 1)) u12) else FX3_beat_32_L2 F c x (nI (m + 1)) (mupd u 24 m (mx0 (W (4 + m) - 10))))) := by
    intro F
    show FX3_beat_32_b2 _ _ _ _ _ = _
    unfold FX3_beat_32_b2 FX3_beat_32_b102
    rw [if_neg (n12 hm12), hn', if_neg (nle hm (by omega)), c_isAt_32 hX.1 hW.1 hm, b_some, rb hm12 (by omega), gco hX.1 hm12, wb hm12 (by omega), rb hm12 (by omega), rb hm12 (by omega), dv2, wb hm12 (by omega), wb hm12 (by omega), m_ne (by decide), gbr_23 hX.1 hm12, nI_1]
    rfl
  unfold dBeat1
  by_cases h : W (40 + m) = 1 ∧ W (52 + m) = x
  · rw [if_pos h]
    by_cases h3 : W (90 + m) = c
    · rw [if_pos h3]
      have hW1 : WO (upd W (40 + m) 0) := WO_u hW (s78_u (by omega)) (OkD_uwh hW.2.1 hm12 ⟨0, by omega, rfl⟩ (Or.inr rfl))
      obtain ⟨j, hj, e⟩ := OkD_br hW.2.1 m hm12
      have hW2 : WO (upd (upd W (40 + m) 0) (4 + m) (W (4 + m) / 2)) := WO_u hW1 (s78_u (by omega)) (OkD_ubr hW1.2.1 hm12 (by rw [e]; exact half_n hj))
      have hX2 := XR_u32 (XR_u32 hX hW.1 (j := 3) (by omega) hm12 0) hW1.1 (j := 0) (by omega) hm12 (W (4 + m) / 2)
      obtain ⟨u3, g3, hX3⟩ := c_note_32 hX2 hW2 2 (nI m) x
      refine ⟨u3, hX3, fun F => ?_⟩
      rw [start, if_pos h, if_neg z1, if_pos h3]
      show (FX3_note_32 2 (nI m) x (mupd (mupd u (23 + 1 + 3) m 0) (23 + 1 + 0) m (W (4 + m) / 2))).bind _ = _
      rw [g3, b_some]
    · rw [if_neg h3]
      exact ⟨_, XR_u32 hX hW.1 (j := 0) (by omega) hm12 (mx0 (W (4 + m) - 10)), fun F => by rw [start, if_pos h, if_neg z1, if_neg h3]⟩
  · rw [if_neg h]
    exact ⟨u, hX, fun F => by rw [start, if_neg h, if_pos rfl]⟩
theorem c_beat_32 {fa md : Int32} {B : Wt} {u : Mem} {W : Wt} (hX : XR_32 fa md B u W) (hW : WO W) (c x : Int32) : ∃ u', FX3_beat_32 c x u = some u' ∧ XR_32 fa md B u' (dBeat 1 c x W) := by
  obtain ⟨hn, hn12⟩ := OkT_n hW.1
  have hh := lp_w (fun F i u => FX3_beat_32_L2 F c x i u) (nmen W) (fun u V => XR_32 fa md B u V ∧ WO V ∧ fx x W V) (dBeat1 1 c x) (fun u => some u) (fun i v V hi hV => ?_) (fun v V F hV => ?_) (F := FU) (u := u) (s := W) (by show _ < 10000; omega) ⟨hX, hW, fx_r x W⟩
  · obtain ⟨u', ⟨hR, -⟩, e⟩ := hh
    exact ⟨u', e, hR⟩
  · obtain ⟨h1, h2, h3⟩ := hV
    have en := s78_n h3.1.1
    obtain ⟨v', a, b⟩ := c_beat1_32 h1 h2 (c := c) (x := x) (m := i) (by omega)
    obtain ⟨w1, w2⟩ := dBeat1_w (tr := 1) (c := c) (x := x) (m := i) h2 (by omega)
    exact ⟨v', ⟨a, w1, fx_t h3 w2⟩, b⟩
  · obtain ⟨h1, h2, h3⟩ := hV
    have en := s78_n h3.1.1
    show FX3_beat_32_b2 _ _ _ _ _ = _
    unfold FX3_beat_32_b2
    rw [gmen h1.1, (OkT_n h2.1).1, en, two_ends _ _ (yle (by omega))]
theorem c_halve_32 {fa md : Int32} {B : Wt} {u : Mem} {W : Wt} (hX : XR_32 fa md B u W) (hW : WO W) (x : Int32) : ∃ u', FX3_halve_32 x u = some u' ∧ XR_32 fa md B u' (fo (nmen W) (dHalve1 x) W) := by
  obtain ⟨hn, hn12⟩ := OkT_n hW.1
  have hh := lp_w (fun F i u => FX3_halve_32_L2 F x i u) (nmen W) (fun u V => XR_32 fa md B u V ∧ WO V ∧ fx x W V) (dHalve1 x) (fun u => some u) (fun i v V hi hV => ?_) (fun v V F hV => ?_) (F := FU) (u := u) (s := W) (by show _ < 10000; omega) ⟨hX, hW, fx_r x W⟩
  · obtain ⟨u', ⟨hR, -⟩, e⟩ := hh
    exact ⟨u', e, hR⟩
  · obtain ⟨h1, h2, h3⟩ := hV
    have en := s78_n h3.1.1
    have hi12 : i < 12 := by omega
    have hn' : v 1 0 = nI (nmen W) := by rw [gmen h1.1, (OkT_n h2.1).1, en]
    obtain ⟨w1, w2⟩ := dHalve1_w (x := x) (m := i) h2 (by omega)
    have start : ∀ F, FX3_halve_32_L2 (F + 1) x (nI i) v = (if (if V (40 + i) = 1 ∧ V (52 + i) = x then (1 : Int32) else 0) = 0 then FX3_halve_32_L2 F x (nI (i + 1)) v else FX3_halve_32_L2 F x (nI (i + 1)) (mupd v 24 i (V (4 + i) / 2))) := by
      intro F
      show FX3_halve_32_b2 _ _ _ _ = _
      unfold FX3_halve_32_b2 FX3_halve_32_b41
      rw [if_neg (n12 hi12), hn', if_neg (nle hi (by omega)), c_isAt_32 h1.1 h2.1 (by omega), b_some, rb hi12 (by omega), dv2, wb hi12 (by omega), gbr_23 h1.1 hi12, nI_1]
    unfold dHalve1 at w1 w2 ⊢
    by_cases q : V (40 + i) = 1 ∧ V (52 + i) = x
    · rw [if_pos q] at w1 w2 ⊢
      exact ⟨_, ⟨XR_u32 h1 h2.1 (j := 0) (by omega) hi12 (V (4 + i) / 2), w1, fx_t h3 w2⟩, fun F => by rw [start, if_pos q, if_neg z1]⟩
    · rw [if_neg q]
      exact ⟨v, ⟨h1, h2, h3⟩, fun F => by rw [start, if_neg q, if_pos rfl]⟩
  · obtain ⟨h1, h2, h3⟩ := hV
    have en := s78_n h3.1.1
    show FX3_halve_32_b2 _ _ _ _ = _
    unfold FX3_halve_32_b2
    rw [gmen h1.1, (OkT_n h2.1).1, en, two_ends _ _ (yle (by omega))]
/-- one cell's fight: the set of both is as at first for the cells that are to come -/
theorem c_fight1_32 {fa : Int32} {B : Wt} {u : Mem} {s : Wt × Int32} {S : Int32} (hX : XR_32 fa s.2 B u s.1) (hW : WO s.1) {x : Nat} (hx : x < 16) (hS : ∀ y, x ≤ y → y < 16 → tb S y = (sHeld s.1 0 (nI y) && sHeld s.1 1 (nI y))) : ∃ u', XR_32 fa (dFight 1 x s).2 B u' (dFight 1 x s).1 ∧ ∀ F, FX3_fight_32_L14 (F + 1) S (nI x) u = FX3_fight_32_L14 F S (nI (x + 1)) u' := by
  have start : ∀ F, FX3_fight_32_L14 (F + 1) S (nI x) u = FX3_fight_32_b14 (FX3_fight_32_L14 F) S (nI x) u := fun F => rfl
  have e16 : ¬ (16 : Int32) ≤ nI x := by rw [li_le (by decide) (by omega)]; show ¬ 16 ≤ x; omega
  have hSx := hS x (Nat.le_refl x) hx
  unfold dFight
  by_cases h : sHeld s.1 0 (nI x) = true ∧ sHeld s.1 1 (nI x) = true
  · have ht : tb S x = true := by rw [hSx, h.1, h.2]; rfl
    rw [if_pos h]
    by_cases q : sAt s.1 0 (nI x) - sAt s.1 1 (nI x) = 0
    · rw [if_pos q]
      obtain ⟨u', g, hX'⟩ := c_halve_32 hX hW (nI x)
      refine ⟨u', hX', fun F => ?_⟩
      rw [start]
      unfold FX3_fight_32_b14 FX3_fight_32_b85
      rw [if_neg e16, holds_b _ (by omega), b_some, if_pos ht, if_neg z1, c_brAt_32 hX.1 hW.1, b_some, c_brAt_32 hX.1 hW.1, b_some, if_pos q, g, b_some, nI_1]
    · rw [if_neg q]
      by_cases q2 : 0 ≤ sAt s.1 0 (nI x) - sAt s.1 1 (nI x)
      · rw [if_pos q2]
        obtain ⟨u1, g1, hX1⟩ := c_catch_32 hX hW h.2
        obtain ⟨w1, -⟩ := dCatch_w (tr := 1) hW h.2
        obtain ⟨u2, g2, hX2⟩ := c_beat_32 hX1 w1 1 (nI x)
        refine ⟨u2, hX2, fun F => ?_⟩
        rw [start]
        unfold FX3_fight_32_b14 FX3_fight_32_b67 FX3_fight_32_b81 FX3_fight_32_b85
        rw [if_neg e16, holds_b _ (by omega), b_some, if_pos ht, if_neg z1, c_brAt_32 hX.1 hW.1, b_some, c_brAt_32 hX.1 hW.1, b_some, if_neg q, if_pos q2, g1, b_some, if_pos q2, g2, b_some, nI_1]
      · rw [if_neg q2]
        obtain ⟨u1, g1, hX1⟩ := c_catch_32 hX hW h.1
        obtain ⟨w1, -⟩ := dCatch_w (tr := 1) hW h.1
        obtain ⟨u2, g2, hX2⟩ := c_beat_32 hX1 w1 0 (nI x)
        refine ⟨u2, hX2, fun F => ?_⟩
        rw [start]
        unfold FX3_fight_32_b14 FX3_fight_32_b67 FX3_fight_32_b81 FX3_fight_32_b85
        rw [if_neg e16, holds_b _ (by omega), b_some, if_pos ht, if_neg z1, c_brAt_32 hX.1 hW.1, b_some, c_brAt_32 hX.1 hW.1, b_some, if_neg q, if_neg q2, g1, b_some, if_neg q2, g2, b_some, nI_1]
  · have ht : ¬ tb S x = true := by
      rw [hSx, Bool.and_eq_true]; exact h
    rw [if_neg h]
    refine ⟨u, hX, fun F => ?_⟩
    rw [start]
    unfold FX3_fight_32_b14 FX3_fight_32_b85
    rw [if_neg e16, holds_b _ (by omega), b_some, if_neg ht, if_pos rfl, nI_1]
theorem c_yng_104 {u : Mem} {W : Wt} (hC : CR 97 u W) (hT : OkT W) (c x : Int32) : FX3_catchYoungest_104 c x u = FX3_catchYoungest_104_b96 x (yng W c x (nmen W)) u := by
  obtain ⟨hn, hn12⟩ := OkT_n hT
  refine lp_v (fun F i s => FX3_catchYoungest_104_L5 F c x s i u) (nmen W) (fun i => yng W c x i) _ (fun i F hi => ?_) (fun F => ?_) FU (by show _ < 10000; omega)
  · show FX3_catchYoungest_104_b5 _ _ _ _ _ _ = FX3_catchYoungest_104_L5 F c x (yng W c x (i + 1)) (nI (i + 1)) u
    have hi12 : i < 12 := by omega
    unfold FX3_catchYoungest_104_b5 FX3_catchYoungest_104_b53 FX3_catchYoungest_104_b87 FX3_catchYoungest_104_b90
    rw [if_neg (n12 hi12), gmen hC, hn, if_neg (nle hi (by omega)), rb hi12 (by omega), gco hC hi12, c_isAt_104 hC hT hi, b_some, nI_1]
    rw [show yng W c x (i + 1) = if (W (90 + i) = c ∧ W (40 + i) = 1 ∧ W (52 + i) = x) ∧ (yng W c x i = -1 ∨ W (102 + i) < W (102 + nt (yng W c x i))) then nI i else yng W c x i from rfl]
    by_cases c1 : W (90 + i) = c
    · rw [if_pos c1]
      by_cases c2 : W (40 + i) = 1 ∧ W (52 + i) = x
      · rw [if_pos c2, if_neg z1, if_neg z1]
        rcases yng_ok W c x i with e | ⟨k, hk, e, -⟩
        · rw [if_pos e, if_pos ⟨⟨c1, c2⟩, Or.inl e⟩]
        · rw [e, if_neg (nI_m1 (by omega)), rb hi12 (by omega), rb (show k < 12 by omega) (by omega), gag hC hi12, gag hC (show k < 12 by omega), nt_nI (by omega)]
          by_cases c3 : W (102 + i) < W (102 + k)
          · rw [if_neg (by rw [Int32.not_le]; exact c3), if_pos ⟨⟨c1, c2⟩, Or.inr c3⟩]
          · rw [if_pos (by rw [← Int32.not_lt]; exact c3), if_neg]
            rintro ⟨-, h | h⟩
            · exact nI_m1 (by omega) h
            · exact c3 h
      · rw [if_neg c2, if_pos rfl, if_pos rfl, if_neg (fun h => c2 h.1.2)]
    · rw [if_neg c1, if_pos rfl, if_neg (fun h => c1 h.1.1)]
  · show FX3_catchYoungest_104_b5 _ _ _ _ _ _ = _
    unfold FX3_catchYoungest_104_b5
    rw [gmen hC, hn, two_ends _ _ (yle (by omega))]
theorem c_catch_104 {fa md : Int32} {B : Wt} {u : Mem} {W : Wt} (hX : XR_104 fa md B u W) (hW : WO W) {c x : Int32} (h : sHeld W c x = true) : ∃ u', FX3_catchYoungest_104 c x u = some u' ∧ XR_104 fa (md + 1) B u' (dCatch 0 c x W) := by
  obtain ⟨hn, hn12⟩ := OkT_n hW.1
  obtain ⟨k, hk, e, r1, r2, r3⟩ := yng_held hW.1 h
  have hk12 : k < 12 := by omega
  rw [c_yng_104 hX.1 hW.1]
  unfold FX3_catchYoungest_104_b96 dCatch
  rw [e, nt_nI (by omega), if_neg (nI_m1 (by omega)), wb hk12 (by omega), m_ne (by decide), gday_97 hX.1, wb hk12 (by omega), b_some]
  have hX1 := XR_u104 hX hW.1 (j := 3) (by omega) hk12 2
  have hW1 : WO (upd W (40 + k) 2) := WO_u hW (s78_u (by omega)) (OkD_uwh hW.2.1 hk12 ⟨2, by omega, rfl⟩ (Or.inl hk))
  have hX2 := XR_u104 hX1 hW1.1 (j := 5) (by omega) hk12 (W 0)
  have hW2 : WO (upd (upd W (40 + k) 2) (64 + k) (W 0)) := WO_u hW1 (s78_u (by omega)) (OkD_usi hW1.2.1 hk12)
  obtain ⟨u3, g3, hX3⟩ := c_note_104 (XR_m104 hX2) hW2 1 (nI k) x
  refine ⟨u3, ?_, hX3⟩
  show (FX3_note_104 1 (nI k) x (mupd (mupd (mupd u 101 k 2) 103 k (W 0)) 104 6 ((mupd (mupd u 101 k 2) 103 k (W 0)) 104 6 + 1))).bind _ = _
  rw [g3, b_some]
theorem c_beat1_104 {fa md : Int32} {B : Wt} {u : Mem} {W : Wt} (hX : XR_104 fa md B u W) (hW : WO W) {c x : Int32} {m : Nat} (hm : m < nmen W) : ∃ u', XR_104 fa md B u' (dBeat1 0 c x m W) ∧ ∀ F, FX3_beat_104_L2 (F + 1) c x (nI m) u = FX3_beat_104_L2 F c x (nI (m + 1)) u' := by
  obtain ⟨hn, hn12⟩ := OkT_n hW.1
  have hm12 : m < 12 := by omega
  have hn' : u 1 0 = nI (nmen W) := (gmen hX.1).trans hn
  have start : ∀ F, FX3_beat_104_L2 (F + 1) c x (nI m) u = (if (if W (40 + m) = 1 ∧ W (52 + m) = x then (1 : Int32) else 0) = 0 then FX3_beat_104_L2 F c x (nI (m + 1)) u else (if W (90 + m) = c then ((FX3_note_104 2 (nI m) x (mupd (mupd u 101 m 0) 98 m (W (4 + m) / 2))).bind fun u12 => FX3_beat_104_L2 F c x (nI (m + 1)) u12) else FX3_beat_104_L2 F c x (nI (m + 1)) (mupd u 98 m (mx0 (W (4 + m) - 10))))) := by
    intro F
    show FX3_beat_104_b2 _ _ _ _ _ = _
    unfold FX3_beat_104_b2 FX3_beat_104_b102
    rw [if_neg (n12 hm12), hn', if_neg (nle hm (by omega)), c_isAt_104 hX.1 hW.1 hm, b_some, rb hm12 (by omega), gco hX.1 hm12, wb hm12 (by omega), rb hm12 (by omega), rb hm12 (by omega), dv2, wb hm12 (by omega), wb hm12 (by omega), m_ne (by decide), gbr_97 hX.1 hm12, nI_1]
    rfl
  unfold dBeat1
  by_cases h : W (40 + m) = 1 ∧ W (52 + m) = x
  · rw [if_pos h]
    by_cases h3 : W (90 + m) = c
    · rw [if_pos h3]
      have hW1 : WO (upd W (40 + m) 0) := WO_u hW (s78_u (by omega)) (OkD_uwh hW.2.1 hm12 ⟨0, by omega, rfl⟩ (Or.inr rfl))
      obtain ⟨j, hj, e⟩ := OkD_br hW.2.1 m hm12
      have hW2 : WO (upd (upd W (40 + m) 0) (4 + m) (W (4 + m) / 2)) := WO_u hW1 (s78_u (by omega)) (OkD_ubr hW1.2.1 hm12 (by rw [e]; exact half_n hj))
      have hX2 := XR_u104 (XR_u104 hX hW.1 (j := 3) (by omega) hm12 0) hW1.1 (j := 0) (by omega) hm12 (W (4 + m) / 2)
      obtain ⟨u3, g3, hX3⟩ := c_note_104 hX2 hW2 2 (nI m) x
      refine ⟨u3, hX3, fun F => ?_⟩
      rw [start, if_pos h, if_neg z1, if_pos h3]
      show (FX3_note_104 2 (nI m) x (mupd (mupd u (97 + 1 + 3) m 0) (97 + 1 + 0) m (W (4 + m) / 2))).bind _ = _
      rw [g3, b_some]
    · rw [if_neg h3]
      exact ⟨_, XR_u104 hX hW.1 (j := 0) (by omega) hm12 (mx0 (W (4 + m) - 10)), fun F => by rw [start, if_pos h, if_neg z1, if_neg h3]⟩
  · rw [if_neg h]
    exact ⟨u, hX, fun F => by rw [start, if_neg h, if_pos rfl]⟩
theorem c_beat_104 {fa md : Int32} {B : Wt} {u : Mem} {W : Wt} (hX : XR_104 fa md B u W) (hW : WO W) (c x : Int32) : ∃ u', FX3_beat_104 c x u = some u' ∧ XR_104 fa md B u' (dBeat 0 c x W) := by
  obtain ⟨hn, hn12⟩ := OkT_n hW.1
  have hh := lp_w (fun F i u => FX3_beat_104_L2 F c x i u) (nmen W) (fun u V => XR_104 fa md B u V ∧ WO V ∧ fx x W V) (dBeat1 0 c x) (fun u => some u) (fun i v V hi hV => ?_) (fun v V F hV => ?_) (F := FU) (u := u) (s := W) (by show _ < 10000; omega) ⟨hX, hW, fx_r x W⟩
  · obtain ⟨u', ⟨hR, -⟩, e⟩ := hh
    exact ⟨u', e, hR⟩
  · obtain ⟨h1, h2, h3⟩ := hV
    have en := s78_n h3.1.1
    obtain ⟨v', a, b⟩ := c_beat1_104 h1 h2 (c := c) (x := x) (m := i) (by omega)
    obtain ⟨w1, w2⟩ := dBeat1_w (tr := 0) (c := c) (x := x) (m := i) h2 (by omega)
    exact ⟨v', ⟨a, w1, fx_t h3 w2⟩, b⟩
  · obtain ⟨h1, h2, h3⟩ := hV
    have en := s78_n h3.1.1
    show FX3_beat_104_b2 _ _ _ _ _ = _
    unfold FX3_beat_104_b2
    rw [gmen h1.1, (OkT_n h2.1).1, en, two_ends _ _ (yle (by omega))]
theorem c_halve_104 {fa md : Int32} {B : Wt} {u : Mem} {W : Wt} (hX : XR_104 fa md B u W) (hW : WO W) (x : Int32) : ∃ u', FX3_halve_104 x u = some u' ∧ XR_104 fa md B u' (fo (nmen W) (dHalve1 x) W) := by
  obtain ⟨hn, hn12⟩ := OkT_n hW.1
  have hh := lp_w (fun F i u => FX3_halve_104_L2 F x i u) (nmen W) (fun u V => XR_104 fa md B u V ∧ WO V ∧ fx x W V) (dHalve1 x) (fun u => some u) (fun i v V hi hV => ?_) (fun v V F hV => ?_) (F := FU) (u := u) (s := W) (by show _ < 10000; omega) ⟨hX, hW, fx_r x W⟩
  · obtain ⟨u', ⟨hR, -⟩, e⟩ := hh
    exact ⟨u', e, hR⟩
  · obtain ⟨h1, h2, h3⟩ := hV
    have en := s78_n h3.1.1
    have hi12 : i < 12 := by omega
    have hn' : v 1 0 = nI (nmen W) := by rw [gmen h1.1, (OkT_n h2.1).1, en]
    obtain ⟨w1, w2⟩ := dHalve1_w (x := x) (m := i) h2 (by omega)
    have start : ∀ F, FX3_halve_104_L2 (F + 1) x (nI i) v = (if (if V (40 + i) = 1 ∧ V (52 + i) = x then (1 : Int32) else 0) = 0 then FX3_halve_104_L2 F x (nI (i + 1)) v else FX3_halve_104_L2 F x (nI (i + 1)) (mupd v 98 i (V (4 + i) / 2))) := by
      intro F
      show FX3_halve_104_b2 _ _ _ _ = _
      unfold FX3_halve_104_b2 FX3_halve_104_b41
      rw [if_neg (n12 hi12), hn', if_neg (nle hi (by omega)), c_isAt_104 h1.1 h2.1 (by omega), b_some, rb hi12 (by omega), dv2, wb hi12 (by omega), gbr_97 h1.1 hi12, nI_1]
    unfold dHalve1 at w1 w2 ⊢
    by_cases q : V (40 + i) = 1 ∧ V (52 + i) = x
    · rw [if_pos q] at w1 w2 ⊢
      exact ⟨_, ⟨XR_u104 h1 h2.1 (j := 0) (by omega) hi12 (V (4 + i) / 2), w1, fx_t h3 w2⟩, fun F => by rw [start, if_pos q, if_neg z1]⟩
    · rw [if_neg q]
      exact ⟨v, ⟨h1, h2, h3⟩, fun F => by rw [start, if_neg q, if_pos rfl]⟩
  · obtain ⟨h1, h2, h3⟩ := hV
    have en := s78_n h3.1.1
    show FX3_halve_104_b2 _ _ _ _ = _
    unfold FX3_halve_104_b2
    rw [gmen h1.1, (OkT_n h2.1).1, en, two_ends _ _ (yle (by omega))]
/-- one cell's fight: the set of both is as at first for the cells that are to come -/
theorem c_fight1_104 {fa : Int32} {B : Wt} {u : Mem} {s : Wt × Int32} {S : Int32} (hX : XR_104 fa s.2 B u s.1) (hW : WO s.1) {x : Nat} (hx : x < 16) (hS : ∀ y, x ≤ y → y < 16 → tb S y = (sHeld s.1 0 (nI y) && sHeld s.1 1 (nI y))) : ∃ u', XR_104 fa (dFight 0 x s).2 B u' (dFight 0 x s).1 ∧ ∀ F, FX3_fight_104_L14 (F + 1) S (nI x) u = FX3_fight_104_L14 F S (nI (x + 1)) u' := by
  have start : ∀ F, FX3_fight_104_L14 (F + 1) S (nI x) u = FX3_fight_104_b14 (FX3_fight_104_L14 F) S (nI x) u := fun F => rfl
  have e16 : ¬ (16 : Int32) ≤ nI x := by rw [li_le (by decide) (by omega)]; show ¬ 16 ≤ x; omega
  have hSx := hS x (Nat.le_refl x) hx
  unfold dFight
  by_cases h : sHeld s.1 0 (nI x) = true ∧ sHeld s.1 1 (nI x) = true
  · have ht : tb S x = true := by rw [hSx, h.1, h.2]; rfl
    rw [if_pos h]
    by_cases q : sAt s.1 0 (nI x) - sAt s.1 1 (nI x) = 0
    · rw [if_pos q]
      obtain ⟨u', g, hX'⟩ := c_halve_104 hX hW (nI x)
      refine ⟨u', hX', fun F => ?_⟩
      rw [start]
      unfold FX3_fight_104_b14 FX3_fight_104_b85
      rw [if_neg e16, holds_b _ (by omega), b_some, if_pos ht, if_neg z1, c_brAt_104 hX.1 hW.1, b_some, c_brAt_104 hX.1 hW.1, b_some, if_pos q, g, b_some, nI_1]
    · rw [if_neg q]
      by_cases q2 : 0 ≤ sAt s.1 0 (nI x) - sAt s.1 1 (nI x)
      · rw [if_pos q2]
        obtain ⟨u1, g1, hX1⟩ := c_catch_104 hX hW h.2
        obtain ⟨w1, -⟩ := dCatch_w (tr := 0) hW h.2
        obtain ⟨u2, g2, hX2⟩ := c_beat_104 hX1 w1 1 (nI x)
        refine ⟨u2, hX2, fun F => ?_⟩
        rw [start]
        unfold FX3_fight_104_b14 FX3_fight_104_b67 FX3_fight_104_b81 FX3_fight_104_b85
        rw [if_neg e16, holds_b _ (by omega), b_some, if_pos ht, if_neg z1, c_brAt_104 hX.1 hW.1, b_some, c_brAt_104 hX.1 hW.1, b_some, if_neg q, if_pos q2, g1, b_some, if_pos q2, g2, b_some, nI_1]
      · rw [if_neg q2]
        obtain ⟨u1, g1, hX1⟩ := c_catch_104 hX hW h.1
        obtain ⟨w1, -⟩ := dCatch_w (tr := 0) hW h.1
        obtain ⟨u2, g2, hX2⟩ := c_beat_104 hX1 w1 0 (nI x)
        refine ⟨u2, hX2, fun F => ?_⟩
        rw [start]
        unfold FX3_fight_104_b14 FX3_fight_104_b67 FX3_fight_104_b81 FX3_fight_104_b85
        rw [if_neg e16, holds_b _ (by omega), b_some, if_pos ht, if_neg z1, c_brAt_104 hX.1 hW.1, b_some, c_brAt_104 hX.1 hW.1, b_some, if_neg q, if_neg q2, g1, b_some, if_neg q2, g2, b_some, nI_1]
  · have ht : ¬ tb S x = true := by
      rw [hSx, Bool.and_eq_true]; exact h
    rw [if_neg h]
    refine ⟨u, hX, fun F => ?_⟩
    rw [start]
    unfold FX3_fight_104_b14 FX3_fight_104_b85
    rw [if_neg e16, holds_b _ (by omega), b_some, if_neg ht, if_pos rfl, nI_1]
def dFights (tr : Int32) (s : Wt × Int32) : Wt × Int32 := fo 16 (dFight tr) s
theorem lp_i {S : Type} (L : Nat → Int32 → Mem → Option Mem) (n : Nat) (R : Nat → Mem → S → Prop) (f : Nat → S → S) (k : Mem → Option Mem) (hs : ∀ i u s, i < n → R i u s → ∃ u', R (i + 1) u' (f i s) ∧ ∀ F, L (F + 1) (nI i) u = L F (nI (i + 1)) u') (he : ∀ u s F, R n u s → L (F + 1) (nI n) u = k u) {F : Nat} {u : Mem} {s : S} (hF : n < F) (hR : R 0 u s) : ∃ u', R n u' (fo n f s) ∧ L F 0 u = k u' := by
  have h : ∀ (m F i : Nat) (u : Mem), i + m = n → m < F → R i u (fo i f s) → ∃ u', R n u' (fo n f s) ∧ L F (nI i) u = k u' := by
    intro m
    induction m with
    | zero =>
      intro F i u hi hF hR
      obtain ⟨F', rfl⟩ : ∃ F', F = F' + 1 := ⟨F - 1, by omega⟩
      have hi' : i = n := by omega
      subst hi'
      exact ⟨u, hR, he u _ F' hR⟩
    | succ m ih =>
      intro F i u hi hF hR
      obtain ⟨F', rfl⟩ : ∃ F', F = F' + 1 := ⟨F - 1, by omega⟩
      obtain ⟨u', hR', e⟩ := hs i u _ (by omega) hR
      rw [e F']
      exact ih F' (i + 1) u' (by omega) (by omega) hR'
  rw [← nI_0]
  exact h n F 0 u (by omega) hF hR
theorem dFights_w {tr : Int32} {s : Wt × Int32} (hW : WO s.1) : ∀ n, n ≤ 16 → WO (fo n (dFight tr) s).1 ∧ lf s.1 (fo n (dFight tr) s).1
  | 0, _ => ⟨hW, lf_r _⟩
  | n + 1, h => by
    obtain ⟨a, b⟩ := dFights_w hW n (by omega)
    obtain ⟨a', b'⟩ := dFight_w (tr := tr) (x := n) a
    exact ⟨a', lf_t b b'.1⟩
theorem c_fights_32 {fa : Int32} {B : Wt} {u : Mem} {s : Wt × Int32} (hX : XR_32 fa s.2 B u s.1) (hW : WO s.1) : ∃ u', FX3_fight_32 u = some u' ∧ XR_32 fa (dFights 1 s).2 B u' (dFights 1 s).1 := by
  have hh := lp_i (fun F i u => FX3_fight_32_L14 F (sCells s.1 0 &&& sCells s.1 1) i u) 16 (fun i u t => XR_32 fa t.2 B u t.1 ∧ WO t.1 ∧ ∀ y, i ≤ y → y < 16 → tb (sCells s.1 0 &&& sCells s.1 1) y = (sHeld t.1 0 (nI y) && sHeld t.1 1 (nI y))) (dFight 1) (fun u => some u) (fun i v t hi hV => ?_) (fun v t F hV => ?_) (F := FU) (u := u) (s := s) (by decide) ⟨hX, hW, fun y _ hy => by rw [tb_and, cells_tb hW.1 hW.2.1 (by omega), cells_tb hW.1 hW.2.1 (by omega)]⟩
  · obtain ⟨u', ⟨hR, -⟩, e⟩ := hh
    refine ⟨u', ?_, hR⟩
    unfold FX3_fight_32
    rw [c_cells_32 hX.1 hW.1, b_some, c_cells_32 hX.1 hW.1, b_some]
    exact e
  · obtain ⟨h1, h2, h3⟩ := hV
    obtain ⟨v', a, b⟩ := c_fight1_32 h1 h2 hi h3
    obtain ⟨w1, w2⟩ := dFight_w (tr := 1) (x := i) h2
    refine ⟨v', ⟨a, w1, fun y hy hy16 => ?_⟩, b⟩
    have ne : nI y ≠ nI i := fun e => by rw [nn_eq (by omega) (by omega)] at e; omega
    rw [fx_held (OkT_n h2.1).2 w2 ne, fx_held (OkT_n h2.1).2 w2 ne]
    exact h3 y (by omega) hy16
  · show FX3_fight_32_b14 _ _ _ _ = _
    unfold FX3_fight_32_b14
    rw [if_pos (by decide)]
theorem c_fights_104 {fa : Int32} {B : Wt} {u : Mem} {s : Wt × Int32} (hX : XR_104 fa s.2 B u s.1) (hW : WO s.1) : ∃ u', FX3_fight_104 u = some u' ∧ XR_104 fa (dFights 0 s).2 B u' (dFights 0 s).1 := by
  have hh := lp_i (fun F i u => FX3_fight_104_L14 F (sCells s.1 0 &&& sCells s.1 1) i u) 16 (fun i u t => XR_104 fa t.2 B u t.1 ∧ WO t.1 ∧ ∀ y, i ≤ y → y < 16 → tb (sCells s.1 0 &&& sCells s.1 1) y = (sHeld t.1 0 (nI y) && sHeld t.1 1 (nI y))) (dFight 0) (fun u => some u) (fun i v t hi hV => ?_) (fun v t F hV => ?_) (F := FU) (u := u) (s := s) (by decide) ⟨hX, hW, fun y _ hy => by rw [tb_and, cells_tb hW.1 hW.2.1 (by omega), cells_tb hW.1 hW.2.1 (by omega)]⟩
  · obtain ⟨u', ⟨hR, -⟩, e⟩ := hh
    refine ⟨u', ?_, hR⟩
    unfold FX3_fight_104
    rw [c_cells_104 hX.1 hW.1, b_some, c_cells_104 hX.1 hW.1, b_some]
    exact e
  · obtain ⟨h1, h2, h3⟩ := hV
    obtain ⟨v', a, b⟩ := c_fight1_104 h1 h2 hi h3
    obtain ⟨w1, w2⟩ := dFight_w (tr := 0) (x := i) h2
    refine ⟨v', ⟨a, w1, fun y hy hy16 => ?_⟩, b⟩
    have ne : nI y ≠ nI i := fun e => by rw [nn_eq (by omega) (by omega)] at e; omega
    rw [fx_held (OkT_n h2.1).2 w2 ne, fx_held (OkT_n h2.1).2 w2 ne]
    exact h3 y (by omega) hy16
  · show FX3_fight_104_b14 _ _ _ _ = _
    unfold FX3_fight_104_b14
    rw [if_pos (by decide)]
def dThr (W : Wt) (c : Int32) : Bool := sHeld W c (dEnd (1 - c)) && !sHeld W (1 - c) (dEnd (1 - c))
def dArrive (W : Wt) : Wt := if dThr W 0 = true ∨ dThr W 1 = true then upd W 1 0 else W
theorem dArrive_w {W : Wt} (hW : WO W) : WO (dArrive W) ∧ lf W (dArrive W) := by
  unfold dArrive
  split
  · exact ⟨WO_u hW (s78_u (by omega)) (OkD_uwar hW.2.1), lf_u (by omega)⟩
  · exact ⟨hW, lf_r W⟩
theorem c_arrive_32 {fa md : Int32} {B : Wt} {u : Mem} {W : Wt} (hX : XR_32 fa md B u W) (hW : WO W) : ∃ u', FX3_arrive_32 u = some u' ∧ XR_32 fa md B u' (dArrive W) := by
  have h15 : ∀ c, FX11_holds (sCells W c) (dEnd 1) = some (if sHeld W c 15 = true then 1 else 0) := fun c => by
    rw [show dEnd 1 = nI 15 by decide, holds_b _ (by omega), cells_tb hW.1 hW.2.1 (by omega), show nI 15 = 15 by decide]
  have h00 : ∀ c, FX11_holds (sCells W c) (dEnd 0) = some (if sHeld W c 0 = true then 1 else 0) := fun c => by
    rw [show dEnd 0 = nI 0 by decide, holds_b _ (by omega), cells_tb hW.1 hW.2.1 (by omega), nI_0]
  have t0 : dThr W 0 = (sHeld W 0 15 && !sHeld W 1 15) := by
    unfold dThr; rw [show (1 : Int32) - 0 = 1 by decide, show dEnd 1 = 15 by decide]
  have t1 : dThr W 1 = (sHeld W 1 0 && !sHeld W 0 0) := by
    unfold dThr; rw [show (1 : Int32) - 1 = 0 by decide, show dEnd 0 = 0 by decide]
  have hX1 := XR_f32 hX hW.1 (k := 6) (q := 1) (by omega) 0
  unfold FX3_arrive_32 FX3_arrive_32_b39 FX3_arrive_32_b66 dArrive
  rw [c_cells_32 hX.1 hW.1, b_some, c_cells_32 hX.1 hW.1, b_some, t0, t1]
  simp only [c_end, b_some, h15, h00]
  cases a : sHeld W 0 15 <;> cases b : sHeld W 1 15 <;> cases c : sHeld W 1 0 <;> cases d : sHeld W 0 0 <;> simp <;> first | exact hX | exact hX1
theorem c_arrive_104 {fa md : Int32} {B : Wt} {u : Mem} {W : Wt} (hX : XR_104 fa md B u W) (hW : WO W) : ∃ u', FX3_arrive_104 u = some u' ∧ XR_104 fa md B u' (dArrive W) := by
  have h15 : ∀ c, FX11_holds (sCells W c) (dEnd 1) = some (if sHeld W c 15 = true then 1 else 0) := fun c => by
    rw [show dEnd 1 = nI 15 by decide, holds_b _ (by omega), cells_tb hW.1 hW.2.1 (by omega), show nI 15 = 15 by decide]
  have h00 : ∀ c, FX11_holds (sCells W c) (dEnd 0) = some (if sHeld W c 0 = true then 1 else 0) := fun c => by
    rw [show dEnd 0 = nI 0 by decide, holds_b _ (by omega), cells_tb hW.1 hW.2.1 (by omega), nI_0]
  have t0 : dThr W 0 = (sHeld W 0 15 && !sHeld W 1 15) := by
    unfold dThr; rw [show (1 : Int32) - 0 = 1 by decide, show dEnd 1 = 15 by decide]
  have t1 : dThr W 1 = (sHeld W 1 0 && !sHeld W 0 0) := by
    unfold dThr; rw [show (1 : Int32) - 1 = 0 by decide, show dEnd 0 = 0 by decide]
  have hX1 := XR_f104 hX hW.1 (k := 6) (q := 1) (by omega) 0
  unfold FX3_arrive_104 FX3_arrive_104_b39 FX3_arrive_104_b66 dArrive
  rw [c_cells_104 hX.1 hW.1, b_some, c_cells_104 hX.1 hW.1, b_some, t0, t1]
  simp only [c_end, b_some, h15, h00]
  cases a : sHeld W 0 15 <;> cases b : sHeld W 1 15 <;> cases c : sHeld W 1 0 <;> cases d : sHeld W 0 0 <;> simp <;> first | exact hX | exact hX1

