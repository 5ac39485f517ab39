/-! a day -/
theorem fo_more {f : Nat → Wt → Wt} {W : Wt} {n : Nat} : ∀ k, (∀ i, n ≤ i → i < n + k → f i (fo n f W) = fo n f W) → fo (n + k) f W = fo n f W
  | 0, _ => rfl
  | k + 1, h => by
    show f (n + k) (fo (n + k) f W) = _
    rw [fo_more k (fun i a b => h i a (by omega))]
    exact h (n + k) (by omega) (by omega)
theorem upd_self {W : Wt} {k : Nat} {x : Int32} (h : W k = x) : upd W k x = W := by
  funext j
  by_cases e : j = k
  · rw [e, up_eq, h]
  · rw [up_ne e]
theorem home_12 {W : Wt} (hW : WO W) : fo 12 (fun m V => upd V (40 + m) 0) W = dHome W := by
  obtain ⟨hn, hn12⟩ := OkT_n hW.1
  obtain ⟨a, b⟩ := dHome_w hW
  have e : 12 = nmen W + (12 - nmen W) := by omega
  rw [e]
  unfold dHome
  refine fo_more _ (fun i h1 h2 => ?_)
  refine upd_self ?_
  show (dHome W) (40 + i) = 0
  exact OkD_hm a.2.1 i (by omega) (by rw [s78_n b.1]; exact h1)
theorem dFights_def (tr : Int32) (s : Wt × Int32) : fo 16 (dFight tr) s = dFights tr s := rfl
theorem dFights_ok {tr : Int32} {s : Wt × Int32} (hW : WO s.1) : WO (dFights tr s).1 ∧ lf s.1 (dFights tr s).1 := by
  rw [← dFights_def]; exact dFights_w hW 16 (Nat.le_refl _)
def dWages (fa tr : Int32) (s : Wt × Int32) : Wt × Int32 := (dArrive (dFights tr (dMarches (dCallUp fa tr 1 (dCallUp fa tr 0 s.1)), s.2)).1, (dFights tr (dMarches (dCallUp fa tr 1 (dCallUp fa tr 0 s.1)), s.2)).2)
def dMid (tr : Int32) (W : Wt) : Wt := dFades tr (dTells W)
def dNext (W : Wt) : Wt := upd W 0 (W 0 + 1)
def dDay (fa tr : Int32) (s : Wt × Int32) : Wt × Int32 := if s.1 1 = 1 then (dNext (dEnds tr (dMid tr (dWages fa tr s).1)), (dWages fa tr s).2) else (dNext (dMid tr s.1), s.2)
theorem dMarches_w {W : Wt} (hW : WO W) : WO (dMarches W) ∧ lf W (dMarches W) := fo_lf (fun m W => dMarch_w) hW _ (OkT_n hW.1).2
theorem dWages_w {fa tr : Int32} {s : Wt × Int32} (hW : WO s.1) : WO (dWages fa tr s).1 ∧ lf s.1 (dWages fa tr s).1 := by
  obtain ⟨a1, b1⟩ := dCallUp_w (fa := fa) (tr := tr) (c := 0) hW
  obtain ⟨a2, b2⟩ := dCallUp_w (fa := fa) (tr := tr) (c := 1) a1
  obtain ⟨a3, b3⟩ := dMarches_w a2
  obtain ⟨a4, b4⟩ := dFights_ok (tr := tr) (s := (dMarches (dCallUp fa tr 1 (dCallUp fa tr 0 s.1)), s.2)) a3
  obtain ⟨a5, b5⟩ := dArrive_w a4
  unfold dWages
  dsimp only at b4 ⊢
  exact ⟨a5, lf_t (lf_t b1 b2) (lf_t b3 (lf_t b4 b5))⟩
theorem dMid_w {tr : Int32} {W : Wt} (hW : WO W) : WO (dMid tr W) ∧ lf W (dMid tr W) := by
  obtain ⟨a1, b1⟩ := dTells_w hW
  obtain ⟨a2, b2⟩ := dFades_w (tr := tr) a1
  exact ⟨a2, lf_t b1 b2⟩
theorem dNext_w {W : Wt} (hW : WO W) : WO (dNext W) ∧ same78 W (dNext W) := ⟨WO_u hW (s78_u (by omega)) (OkD_ufr hW.2.1 (by omega)), s78_u (by omega)⟩
theorem dDay_w {fa tr : Int32} {s : Wt × Int32} (hW : WO s.1) : WO (dDay fa tr s).1 ∧ same78 s.1 (dDay fa tr s).1 := by
  unfold dDay
  split
  · obtain ⟨a1, b1⟩ := dWages_w (fa := fa) (tr := tr) hW
    obtain ⟨a2, b2⟩ := dMid_w (tr := tr) a1
    obtain ⟨a3, b3⟩ := dEnds_w (tr := tr) a2
    obtain ⟨a4, b4⟩ := dNext_w a3
    exact ⟨a4, s78_t (s78_t b1.1 b2.1) (s78_t b3.1 b4)⟩
  · obtain ⟨a2, b2⟩ := dMid_w (tr := tr) hW
    obtain ⟨a4, b4⟩ := dNext_w a2
    exact ⟨a4, s78_t b2.1 b4⟩
theorem c_fill_32 {fa md : Int32} {B : Wt} {u : Mem} {W : Wt} (hX : XR_32 fa md B u W) (hW : WO W) : ∃ u', FJ7_fill_53178_27 0 u = some u' ∧ XR_32 fa md B u' (dHome W) := by
  have hh := lp_w (fun F i u => FJ7_fill_53178_27_L5 F 0 i 12 u) 12 (fun u V => XR_32 fa md B u V ∧ WO V) (fun m V => upd V (40 + m) 0) (fun u => some u) (fun i v V hi hV => ?_) (fun v V F hV => ?_) (F := FU) (u := u) (s := W) (by decide) ⟨hX, hW⟩
  · obtain ⟨u', ⟨hR, -⟩, e⟩ := hh
    rw [home_12 hW] at hR
    exact ⟨u', e, hR⟩
  · refine ⟨_, ⟨XR_u32 hV.1 hV.2.1 (j := 3) (by omega) hi 0, WO_home hV.2 hi⟩, fun F => ?_⟩
    show FJ7_fill_53178_27_b5 _ _ _ _ _ = _
    unfold FJ7_fill_53178_27_b5
    rw [if_neg (n12 hi), wb hi (by omega), nI_1]
  · show FJ7_fill_53178_27_b5 _ _ _ _ _ = _
    unfold FJ7_fill_53178_27_b5
    rw [if_pos (by decide)]
theorem c_ends_32 {fa md : Int32} {B : Wt} {u : Mem} {W : Wt} (hX : XR_32 fa md B u W) (hW : WO W) : ∃ u', FX3_endDay_32 u = some u' ∧ XR_32 fa md B u' (dEnds 1 W) := by
  have tail : ∀ v V, XR_32 fa md B v V → WO V → ∃ u', FX3_endDay_32_b52 v = some u' ∧ XR_32 fa md B u' (if dBack 1 V 1 = 1 then dBack 1 V else dNote 1 4 (-1) 0 (dHome (dBack 1 V))) := by
    intro v V hv hV
    obtain ⟨hn, hn12⟩ := OkT_n hV.1
    have hh := lp_w (fun F i u => FX3_endDay_32_L54 F i u) (nmen V) (fun u V' => XR_32 fa md B u V' ∧ WO V' ∧ lf V V') (dBack1 1) (fun u => FX3_endDay_32_b134 u) (fun i w V' hi hV' => ?_) (fun w V' F hV' => ?_) (F := FU) (u := v) (s := V) (by show _ < 10000; omega) ⟨hv, hV, lf_r V⟩
    · obtain ⟨u', ⟨hR, hW', hl⟩, e⟩ := hh
      have hR : XR_32 fa md B u' (dBack 1 V) := hR
      have hW' : WO (dBack 1 V) := hW'
      unfold FX3_endDay_32_b52
      rw [e]
      unfold FX3_endDay_32_b134
      rw [gwar_23 hR.1]
      rcases OkD_war hW'.2.1 with c | c
      · rw [c, if_pos rfl, if_neg z01]
        obtain ⟨u2, g2, hR2⟩ := c_fill_32 hR hW'
        obtain ⟨u3, g3, hR3⟩ := c_note_32 hR2 (dHome_w hW').1 4 (-1) 0
        exact ⟨u3, by rw [g2, b_some, g3]; rfl, hR3⟩
      · rw [c, if_neg z1, if_pos rfl]; exact ⟨u', rfl, hR⟩
    · obtain ⟨q1, q2, q3⟩ := hV'
      have en := s78_n q3.1
      have hi12 : i < 12 := by omega
      have hw : w 1 0 = nI (nmen V) := by rw [gmen q1.1, (OkT_n q2.1).1, en]
      have start : ∀ F, FX3_endDay_32_L54 (F + 1) (nI i) w = (if V' (40 + i) = 2 then (if V' 0 - V' (64 + i) < V' 81 then FX3_endDay_32_L54 F (nI (i + 1)) w else ((FX3_note_32 5 (nI i) 0 (mupd w 27 i 0)).bind fun u9 => FX3_endDay_32_L54 F (nI (i + 1)) u9)) else FX3_endDay_32_L54 F (nI (i + 1)) w) := by
        intro F
        show FX3_endDay_32_b54 _ _ _ = _
        unfold FX3_endDay_32_b54 FX3_endDay_32_b128
        rw [if_neg (n12 hi12), hw, if_neg (nle hi (by omega)), rb hi12 (by omega), gwh_23 q1.1 hi12, rb hi12 (by omega), gsi_23 q1.1 hi12, gday_23 q1.1, gtea q1.1, wb hi12 (by omega), nI_1]
      obtain ⟨w1, w2⟩ := dBack1_w (tr := 1) (m := i) q2 hi12
      unfold dBack1 at w1 w2 ⊢
      by_cases c1 : V' (40 + i) = 2
      · by_cases c2 : V' 81 ≤ V' 0 - V' (64 + i)
        · rw [if_pos ⟨c1, c2⟩] at w1 w2 ⊢
          obtain ⟨u3, g3, hR3⟩ := c_note_32 (XR_u32 q1 q2.1 (j := 3) (by omega) hi12 0) (WO_home q2 hi12) 5 (nI i) 0
          refine ⟨u3, ⟨hR3, w1, lf_t q3 w2⟩, fun F => ?_⟩
          rw [start, if_pos c1, if_neg (by rw [Int32.not_lt]; exact c2)]
          show (FX3_note_32 5 (nI i) 0 (mupd w (23 + 1 + 3) i 0)).bind _ = _
          rw [g3, b_some]
        · rw [if_neg (fun h => c2 h.2)]
          exact ⟨w, ⟨q1, q2, q3⟩, fun F => by rw [start, if_pos c1, if_pos (by rw [← Int32.not_le]; exact c2)]⟩
      · rw [if_neg (fun h => c1 h.1)]
        exact ⟨w, ⟨q1, q2, q3⟩, fun F => by rw [start, if_neg c1]⟩
    · obtain ⟨q1, q2, q3⟩ := hV'
      have en := s78_n q3.1
      show FX3_endDay_32_b54 _ _ _ = _
      unfold FX3_endDay_32_b54
      rw [gmen q1.1, (OkT_n q2.1).1, en, two_ends _ _ (yle (by omega))]
  unfold FX3_endDay_32 FX3_endDay_32_b44 dEnds
  simp only [c_known_32 hX.1 hW.1, b_some, c_wOf hX.1, gkeep hX.1]
  have hX1 := XR_f32 hX hW.1 (k := 6) (q := 1) (by omega) 0
  obtain ⟨w1, -⟩ := dE1_w hW
  unfold dE1 at w1 ⊢
  by_cases c0 : sWt W (sKn W 0) < W 79
  · rw [if_pos (Or.inl c0)] at w1 ⊢
    rw [if_pos c0]
    exact tail _ _ hX1 w1
  · by_cases c1 : sWt W (sKn W 1) < W 79
    · rw [if_pos (Or.inr c1)] at w1 ⊢
      rw [if_neg c0, if_neg (by rw [Int32.not_le]; exact c1)]
      exact tail _ _ hX1 w1
    · have nn : ¬ (sWt W (sKn W 0) < W 79 ∨ sWt W (sKn W 1) < W 79) := fun h => h.elim c0 c1
      rw [if_neg nn] at w1 ⊢
      rw [if_neg c0, if_pos (by rw [← Int32.not_lt]; exact c1)]
      exact tail _ _ hX w1
theorem c_wages_32 {fa : Int32} {B : Wt} {u : Mem} {s : Wt × Int32} (hX : XR_32 fa s.2 B u s.1) (hW : WO s.1) : ∃ u1 u2 u3 u4 u5, FX3_callUp_32 0 u = some u1 ∧ FX3_callUp_32 1 u1 = some u2 ∧ FX3_goOn_32 u2 = some u3 ∧ FX3_fight_32 u3 = some u4 ∧ FX3_arrive_32 u4 = some u5 ∧ XR_32 fa (dWages fa 1 s).2 B u5 (dWages fa 1 s).1 := by
  obtain ⟨u1, g1, h1⟩ := c_callUp_32 hX hW (c := 0) (by omega)
  obtain ⟨w1, -⟩ := dCallUp_w (fa := fa) (tr := 1) (c := 0) hW
  obtain ⟨u2, g2, h2⟩ := c_callUp_32 h1 w1 (c := 1) (by omega)
  obtain ⟨w2, -⟩ := dCallUp_w (fa := fa) (tr := 1) (c := 1) w1
  obtain ⟨u3, g3, h3, w3, -⟩ := c_goOn_32 h2 w2
  obtain ⟨u4, g4, h4⟩ := c_fights_32 (s := (dMarches (dCallUp fa 1 1 (dCallUp fa 1 0 s.1)), s.2)) h3 w3
  obtain ⟨w4, -⟩ := dFights_ok (tr := 1) (s := (dMarches (dCallUp fa 1 1 (dCallUp fa 1 0 s.1)), s.2)) w3
  obtain ⟨u5, g5, h5⟩ := c_arrive_32 h4 w4
  unfold dWages
  dsimp only
  exact ⟨u1, u2, u3, u4, u5, g1, g2, g3, g4, g5, h5⟩
theorem c_tl_32 {fa md : Int32} {B : Wt} {u : Mem} {W : Wt} (hX : XR_32 fa md B u W) (hW : WO W) : ∃ u1, XR_32 fa md B u1 (dTells W) ∧ ∀ l, FX3_pass_32_b43 l u = FX3_pass_32_b60 l u1 := by
  unfold dTells
  by_cases c : W 0 - W 0 / 7 * 7 = 0
  · rw [if_pos c]
    obtain ⟨u1, g1, h1⟩ := c_tells_32 hX hW
    exact ⟨u1, h1, fun l => by unfold FX3_pass_32_b43; rw [gday_23 hX.1, rm7, if_pos c, g1, b_some]⟩
  · rw [if_neg c]
    exact ⟨u, hX, fun l => by unfold FX3_pass_32_b43; rw [gday_23 hX.1, rm7, if_neg c]⟩
theorem c_fill_104 {fa md : Int32} {B : Wt} {u : Mem} {W : Wt} (hX : XR_104 fa md B u W) (hW : WO W) : ∃ u', FJ7_fill_53178_101 0 u = some u' ∧ XR_104 fa md B u' (dHome W) := by
  have hh := lp_w (fun F i u => FJ7_fill_53178_101_L5 F 0 i 12 u) 12 (fun u V => XR_104 fa md B u V ∧ WO V) (fun m V => upd V (40 + m) 0) (fun u => some u) (fun i v V hi hV => ?_) (fun v V F hV => ?_) (F := FU) (u := u) (s := W) (by decide) ⟨hX, hW⟩
  · obtain ⟨u', ⟨hR, -⟩, e⟩ := hh
    rw [home_12 hW] at hR
    exact ⟨u', e, hR⟩
  · refine ⟨_, ⟨XR_u104 hV.1 hV.2.1 (j := 3) (by omega) hi 0, WO_home hV.2 hi⟩, fun F => ?_⟩
    show FJ7_fill_53178_101_b5 _ _ _ _ _ = _
    unfold FJ7_fill_53178_101_b5
    rw [if_neg (n12 hi), wb hi (by omega), nI_1]
  · show FJ7_fill_53178_101_b5 _ _ _ _ _ = _
    unfold FJ7_fill_53178_101_b5
    rw [if_pos (by decide)]
theorem c_ends_104 {fa md : Int32} {B : Wt} {u : Mem} {W : Wt} (hX : XR_104 fa md B u W) (hW : WO W) : ∃ u', FX3_endDay_104 u = some u' ∧ XR_104 fa md B u' (dEnds 0 W) := by
  have tail : ∀ v V, XR_104 fa md B v V → WO V → ∃ u', FX3_endDay_104_b52 v = some u' ∧ XR_104 fa md B u' (if dBack 0 V 1 = 1 then dBack 0 V else dNote 0 4 (-1) 0 (dHome (dBack 0 V))) := by
    intro v V hv hV
    obtain ⟨hn, hn12⟩ := OkT_n hV.1
    have hh := lp_w (fun F i u => FX3_endDay_104_L54 F i u) (nmen V) (fun u V' => XR_104 fa md B u V' ∧ WO V' ∧ lf V V') (dBack1 0) (fun u => FX3_endDay_104_b134 u) (fun i w V' hi hV' => ?_) (fun w V' F hV' => ?_) (F := FU) (u := v) (s := V) (by show _ < 10000; omega) ⟨hv, hV, lf_r V⟩
    · obtain ⟨u', ⟨hR, hW', hl⟩, e⟩ := hh
      have hR : XR_104 fa md B u' (dBack 0 V) := hR
      have hW' : WO (dBack 0 V) := hW'
      unfold FX3_endDay_104_b52
      rw [e]
      unfold FX3_endDay_104_b134
      rw [gwar_97 hR.1]
      rcases OkD_war hW'.2.1 with c | c
      · rw [c, if_pos rfl, if_neg z01]
        obtain ⟨u2, g2, hR2⟩ := c_fill_104 hR hW'
        obtain ⟨u3, g3, hR3⟩ := c_note_104 hR2 (dHome_w hW').1 4 (-1) 0
        exact ⟨u3, by rw [g2, b_some, g3]; rfl, hR3⟩
      · rw [c, if_neg z1, if_pos rfl]; exact ⟨u', rfl, hR⟩
    · obtain ⟨q1, q2, q3⟩ := hV'
      have en := s78_n q3.1
      have hi12 : i < 12 := by omega
      have hw : w 1 0 = nI (nmen V) := by rw [gmen q1.1, (OkT_n q2.1).1, en]
      have start : ∀ F, FX3_endDay_104_L54 (F + 1) (nI i) w = (if V' (40 + i) = 2 then (if V' 0 - V' (64 + i) < V' 81 then FX3_endDay_104_L54 F (nI (i + 1)) w else ((FX3_note_104 5 (nI i) 0 (mupd w 101 i 0)).bind fun u9 => FX3_endDay_104_L54 F (nI (i + 1)) u9)) else FX3_endDay_104_L54 F (nI (i + 1)) w) := by
        intro F
        show FX3_endDay_104_b54 _ _ _ = _
        unfold FX3_endDay_104_b54 FX3_endDay_104_b128
        rw [if_neg (n12 hi12), hw, if_neg (nle hi (by omega)), rb hi12 (by omega), gwh_97 q1.1 hi12, rb hi12 (by omega), gsi_97 q1.1 hi12, gday_97 q1.1, gtea q1.1, wb hi12 (by omega), nI_1]
      obtain ⟨w1, w2⟩ := dBack1_w (tr := 0) (m := i) q2 hi12
      unfold dBack1 at w1 w2 ⊢
      by_cases c1 : V' (40 + i) = 2
      · by_cases c2 : V' 81 ≤ V' 0 - V' (64 + i)
        · rw [if_pos ⟨c1, c2⟩] at w1 w2 ⊢
          obtain ⟨u3, g3, hR3⟩ := c_note_104 (XR_u104 q1 q2.1 (j := 3) (by omega) hi12 0) (WO_home q2 hi12) 5 (nI i) 0
          refine ⟨u3, ⟨hR3, w1, lf_t q3 w2⟩, fun F => ?_⟩
          rw [start, if_pos c1, if_neg (by rw [Int32.not_lt]; exact c2)]
          show (FX3_note_104 5 (nI i) 0 (mupd w (97 + 1 + 3) i 0)).bind _ = _
          rw [g3, b_some]
        · rw [if_neg (fun h => c2 h.2)]
          exact ⟨w, ⟨q1, q2, q3⟩, fun F => by rw [start, if_pos c1, if_pos (by rw [← Int32.not_le]; exact c2)]⟩
      · rw [if_neg (fun h => c1 h.1)]
        exact ⟨w, ⟨q1, q2, q3⟩, fun F => by rw [start, if_neg c1]⟩
    · obtain ⟨q1, q2, q3⟩ := hV'
      have en := s78_n q3.1
      show FX3_endDay_104_b54 _ _ _ = _
      unfold FX3_endDay_104_b54
      rw [gmen q1.1, (OkT_n q2.1).1, en, two_ends _ _ (yle (by omega))]
  unfold FX3_endDay_104 FX3_endDay_104_b44 dEnds
  simp only [c_known_104 hX.1 hW.1, b_some, c_wOf hX.1, gkeep hX.1]
  have hX1 := XR_f104 hX hW.1 (k := 6) (q := 1) (by omega) 0
  obtain ⟨w1, -⟩ := dE1_w hW
  unfold dE1 at w1 ⊢
  by_cases c0 : sWt W (sKn W 0) < W 79
  · rw [if_pos (Or.inl c0)] at w1 ⊢
    rw [if_pos c0]
    exact tail _ _ hX1 w1
  · by_cases c1 : sWt W (sKn W 1) < W 79
    · rw [if_pos (Or.inr c1)] at w1 ⊢
      rw [if_neg c0, if_neg (by rw [Int32.not_le]; exact c1)]
      exact tail _ _ hX1 w1
    · have nn : ¬ (sWt W (sKn W 0) < W 79 ∨ sWt W (sKn W 1) < W 79) := fun h => h.elim c0 c1
      rw [if_neg nn] at w1 ⊢
      rw [if_neg c0, if_pos (by rw [← Int32.not_lt]; exact c1)]
      exact tail _ _ hX w1
theorem c_wages_104 {fa : Int32} {B : Wt} {u : Mem} {s : Wt × Int32} (hX : XR_104 fa s.2 B u s.1) (hW : WO s.1) : ∃ u1 u2 u3 u4 u5, FX3_callUp_104 0 u = some u1 ∧ FX3_callUp_104 1 u1 = some u2 ∧ FX3_goOn_104 u2 = some u3 ∧ FX3_fight_104 u3 = some u4 ∧ FX3_arrive_104 u4 = some u5 ∧ XR_104 fa (dWages fa 0 s).2 B u5 (dWages fa 0 s).1 := by
  obtain ⟨u1, g1, h1⟩ := c_callUp_104 hX hW (c := 0) (by omega)
  obtain ⟨w1, -⟩ := dCallUp_w (fa := fa) (tr := 0) (c := 0) hW
  obtain ⟨u2, g2, h2⟩ := c_callUp_104 h1 w1 (c := 1) (by omega)
  obtain ⟨w2, -⟩ := dCallUp_w (fa := fa) (tr := 0) (c := 1) w1
  obtain ⟨u3, g3, h3, w3, -⟩ := c_goOn_104 h2 w2
  obtain ⟨u4, g4, h4⟩ := c_fights_104 (s := (dMarches (dCallUp fa 0 1 (dCallUp fa 0 0 s.1)), s.2)) h3 w3
  obtain ⟨w4, -⟩ := dFights_ok (tr := 0) (s := (dMarches (dCallUp fa 0 1 (dCallUp fa 0 0 s.1)), s.2)) w3
  obtain ⟨u5, g5, h5⟩ := c_arrive_104 h4 w4
  unfold dWages
  dsimp only
  exact ⟨u1, u2, u3, u4, u5, g1, g2, g3, g4, g5, h5⟩
theorem c_tl_104 {fa md : Int32} {B : Wt} {u : Mem} {W : Wt} (hX : XR_104 fa md B u W) (hW : WO W) : ∃ u1, XR_104 fa md B u1 (dTells W) ∧ ∀ l, FX3_pass_104_b43 l u = FX3_pass_104_b60 l u1 := by
  unfold dTells
  by_cases c : W 0 - W 0 / 7 * 7 = 0
  · rw [if_pos c]
    obtain ⟨u1, g1, h1⟩ := c_tells_104 hX hW
    exact ⟨u1, h1, fun l => by unfold FX3_pass_104_b43; rw [gday_97 hX.1, rm7, if_pos c, g1, b_some]⟩
  · rw [if_neg c]
    exact ⟨u, hX, fun l => by unfold FX3_pass_104_b43; rw [gday_97 hX.1, rm7, if_neg c]⟩
theorem c_fd_32 {fa md : Int32} {B : Wt} {u : Mem} {W : Wt} (hX : XR_32 fa md B u W) (hW : WO W) : ∃ u1, XR_32 fa md B u1 (dFades 1 W) ∧ ∀ l, FX3_pass_32_b60 l u = FX3_pass_32_b71 l u1 := by
  obtain ⟨u1, g1, h1⟩ := c_fades_32 hX hW
  exact ⟨u1, h1, fun l => by unfold FX3_pass_32_b60; rw [hX.2.2.1, if_neg z1, g1, b_some]⟩
theorem c_fd_104 {fa md : Int32} {B : Wt} {u : Mem} {W : Wt} (hX : XR_104 fa md B u W) (hW : WO W) : ∃ u1, XR_104 fa md B u1 (dFades 0 W) ∧ ∀ l, FX3_pass_104_b60 l u = FX3_pass_104_b71 l u1 := by
  rw [dFades_0]
  exact ⟨u, hX, fun l => by unfold FX3_pass_104_b60; rw [hX.2.1, if_pos rfl]⟩
theorem c_nx_32 {fa md : Int32} {B : Wt} {u : Mem} {W : Wt} (hX : XR_32 fa md B u W) (hW : WO W) : ∃ u1, FX3_pass_32_b79 u = some u1 ∧ XR_32 fa md B u1 (dNext W) := by
  unfold FX3_pass_32_b79 dNext
  rw [b_some, gday_23 hX.1]
  exact ⟨_, rfl, XR_f32 hX hW.1 (k := 7) (q := 0) (by omega) (W 0 + 1)⟩
theorem c_day_32 {fa : Int32} {B : Wt} {u : Mem} {s : Wt × Int32} (hX : XR_32 fa s.2 B u s.1) (hW : WO s.1) : ∃ u', FX3_pass_32 u = some u' ∧ XR_32 fa (dDay fa 1 s).2 B u' (dDay fa 1 s).1 := by
  unfold FX3_pass_32 FX3_pass_32_b16 dDay
  rw [gwar_23 hX.1]
  by_cases c : s.1 1 = 1
  · rw [if_pos c, if_pos c, if_neg z1]
    dsimp only
    obtain ⟨u1, u2, u3, u4, u5, g1, g2, g3, g4, g5, h5⟩ := c_wages_32 hX hW
    obtain ⟨w5, -⟩ := dWages_w (fa := fa) (tr := 1) hW
    obtain ⟨u6, h6, e6⟩ := c_tl_32 h5 w5
    obtain ⟨w6, -⟩ := dTells_w w5
    obtain ⟨u7, h7, e7⟩ := c_fd_32 h6 w6
    obtain ⟨w7, -⟩ := dFades_w (tr := 1) w6
    obtain ⟨u8, g8, h8⟩ := c_ends_32 h7 w7
    obtain ⟨w8, -⟩ := dEnds_w (tr := 1) w7
    obtain ⟨u9, g9, h9⟩ := c_nx_32 h8 w8
    refine ⟨u9, ?_, h9⟩
    rw [g1, b_some, g2, b_some, g3, b_some, g4, b_some, g5, b_some, e6, e7]
    unfold FX3_pass_32_b71
    rw [if_neg z1, g8, b_some, g9]
  · rw [if_neg c, if_neg c, if_pos rfl]
    dsimp only
    obtain ⟨u6, h6, e6⟩ := c_tl_32 hX hW
    obtain ⟨w6, -⟩ := dTells_w hW
    obtain ⟨u7, h7, e7⟩ := c_fd_32 h6 w6
    obtain ⟨w7, -⟩ := dFades_w (tr := 1) w6
    obtain ⟨u9, g9, h9⟩ := c_nx_32 h7 w7
    refine ⟨u9, ?_, h9⟩
    rw [e6, e7]
    unfold FX3_pass_32_b71
    rw [if_pos rfl, g9]
theorem c_nx_104 {fa md : Int32} {B : Wt} {u : Mem} {W : Wt} (hX : XR_104 fa md B u W) (hW : WO W) : ∃ u1, FX3_pass_104_b79 u = some u1 ∧ XR_104 fa md B u1 (dNext W) := by
  unfold FX3_pass_104_b79 dNext
  rw [b_some, gday_97 hX.1]
  exact ⟨_, rfl, XR_f104 hX hW.1 (k := 7) (q := 0) (by omega) (W 0 + 1)⟩
theorem c_day_104 {fa : Int32} {B : Wt} {u : Mem} {s : Wt × Int32} (hX : XR_104 fa s.2 B u s.1) (hW : WO s.1) : ∃ u', FX3_pass_104 u = some u' ∧ XR_104 fa (dDay fa 0 s).2 B u' (dDay fa 0 s).1 := by
  unfold FX3_pass_104 FX3_pass_104_b16 dDay
  rw [gwar_97 hX.1]
  by_cases c : s.1 1 = 1
  · rw [if_pos c, if_pos c, if_neg z1]
    dsimp only
    obtain ⟨u1, u2, u3, u4, u5, g1, g2, g3, g4, g5, h5⟩ := c_wages_104 hX hW
    obtain ⟨w5, -⟩ := dWages_w (fa := fa) (tr := 0) hW
    obtain ⟨u6, h6, e6⟩ := c_tl_104 h5 w5
    obtain ⟨w6, -⟩ := dTells_w w5
    obtain ⟨u7, h7, e7⟩ := c_fd_104 h6 w6
    obtain ⟨w7, -⟩ := dFades_w (tr := 0) w6
    obtain ⟨u8, g8, h8⟩ := c_ends_104 h7 w7
    obtain ⟨w8, -⟩ := dEnds_w (tr := 0) w7
    obtain ⟨u9, g9, h9⟩ := c_nx_104 h8 w8
    refine ⟨u9, ?_, h9⟩
    rw [g1, b_some, g2, b_some, g3, b_some, g4, b_some, g5, b_some, e6, e7]
    unfold FX3_pass_104_b71
    rw [if_neg z1, g8, b_some, g9]
  · rw [if_neg c, if_neg c, if_pos rfl]
    dsimp only
    obtain ⟨u6, h6, e6⟩ := c_tl_104 hX hW
    obtain ⟨w6, -⟩ := dTells_w hW
    obtain ⟨u7, h7, e7⟩ := c_fd_104 h6 w6
    obtain ⟨w7, -⟩ := dFades_w (tr := 0) w6
    obtain ⟨u9, g9, h9⟩ := c_nx_104 h7 w7
    refine ⟨u9, ?_, h9⟩
    rw [e6, e7]
    unfold FX3_pass_104_b71
    rw [if_pos rfl, g9]
/-! the model's day -/
theorem MD_mk {M : Wt} {u : Mem} {V : Wt} {md : Int32} (h : MR (upd M 29 md) u V) : MD M u (V, md) := h
theorem MD_un {M : Wt} {u : Mem} {s : Wt × Int32} (h : MD M u s) : MR (upd M 29 s.2) u s.1 := h
theorem m_wages {M : Wt} {u : Mem} {s : Wt × Int32} (hM : MD M u s) (hW : WO s.1) : ∃ u', FX12_wages_146 u = some u' ∧ MD M u' (dWages (M 27) (M 28) s) := by
  obtain ⟨W, md⟩ := s
  have hM : MR (upd M 29 md) u W := hM
  have hW : WO W := hW
  have e27 : (upd M 29 md) 27 = M 27 := up_ne (by omega)
  have e28 : (upd M 29 md) 28 = M 28 := up_ne (by omega)
  have l1 := lp_w (fun F i u => FX12_wages_146_L2 F i u) 2 (fun u V => MR (upd M 29 md) u V ∧ WO V) (fun c V => if c < 2 then dCallUp (M 27) (M 28) c V else V) (fun u => FX12_wages_146_L37 FU 0 u) (fun i v V hi hV => ?_) (fun v V F hV => ?_) (F := FU) (u := u) (s := W) (by decide) ⟨hM, hW⟩
  · obtain ⟨u1, ⟨hM1, hW1⟩, e1⟩ := l1
    have hM1 : MR (upd M 29 md) u1 (dCallUp (M 27) (M 28) 1 (dCallUp (M 27) (M 28) 0 W)) := hM1
    have hW1 : WO (dCallUp (M 27) (M 28) 1 (dCallUp (M 27) (M 28) 0 W)) := hW1
    have l2 := lp_w (fun F i u => FX12_wages_146_L37 F i u) (nmen (dCallUp (M 27) (M 28) 1 (dCallUp (M 27) (M 28) 0 W))) (fun u V => MR (upd M 29 md) u V ∧ WO V ∧ lf (dCallUp (M 27) (M 28) 1 (dCallUp (M 27) (M 28) 0 W)) V) dMarch (fun u => FX12_wages_146_L61 FU 0 u) (fun i v V hi hV => ?_) (fun v V F hV => ?_) (F := FU) (u := u1) (s := dCallUp (M 27) (M 28) 1 (dCallUp (M 27) (M 28) 0 W)) (by have := (OkT_n hW1.1).2; show _ < 10000; omega) ⟨hM1, hW1, lf_r _⟩
    · obtain ⟨u2, ⟨hM2, hW2, -⟩, e2⟩ := l2
      have l3 := lp_w (fun F i u => FX12_wages_146_L61 F i u) 16 (fun u t => MD M u t ∧ WO t.1) (dFight (M 28)) (fun u => (FX12_isThrough_146 0 u).bind fun x2 => (if x2 = 0 then ((FX12_isThrough_146 1 u).bind fun x4 => (if x4 = 0 then (some u) else (FX12_wages_146_b94 u))) else (FX12_wages_146_b94 u))) (fun i v t hi hV => ?_) (fun v t F hV => ?_) (F := FU) (u := u2) (s := (dMarches (dCallUp (M 27) (M 28) 1 (dCallUp (M 27) (M 28) 0 W)), md)) (by decide) ⟨hM2, hW2⟩
      · obtain ⟨u3, ⟨hM3, hW3⟩, e3⟩ := l3
        rw [dFights_def] at hM3 hW3
        have thr : ∀ c, FX12_isThrough_146 c u3 = some (if dThr (dFights (M 28) (dMarches (dCallUp (M 27) (M 28) 1 (dCallUp (M 27) (M 28) 0 W)), md)).1 c = true then 1 else 0) := by
          intro c
          unfold FX12_isThrough_146 dThr
          rw [m_end, b_some, m_held hM3.1 hW3.1, b_some, b_some, m_held hM3.1 hW3.1, b_some]
          cases a : sHeld (dFights (M 28) (dMarches (dCallUp (M 27) (M 28) 1 (dCallUp (M 27) (M 28) 0 W)), md)).1 c (dEnd (1 - c)) <;> cases b : sHeld (dFights (M 28) (dMarches (dCallUp (M 27) (M 28) 1 (dCallUp (M 27) (M 28) 0 W)), md)).1 (1 - c) (dEnd (1 - c)) <;> rfl
        have whole : FX12_wages_146 u = ((FX12_isThrough_146 0 u3).bind fun x2 => (if x2 = 0 then ((FX12_isThrough_146 1 u3).bind fun x4 => (if x4 = 0 then (some u3) else (FX12_wages_146_b94 u3))) else (FX12_wages_146_b94 u3))) := e1.trans (e2.trans e3)
        rw [whole, thr, b_some, thr, b_some]
        unfold FX12_wages_146_b94 dWages dArrive
        rw [b_some]
        have hM4 : MD M (mupd u3 147 1 0) (upd (dFights (M 28) (dMarches (dCallUp (M 27) (M 28) 1 (dCallUp (M 27) (M 28) 0 W)), md)).1 1 0, (dFights (M 28) (dMarches (dCallUp (M 27) (M 28) 1 (dCallUp (M 27) (M 28) 0 W)), md)).2) := MD_mk (MR_u (MD_un hM3) 1 0)
        by_cases c0 : dThr (dFights (M 28) (dMarches (dCallUp (M 27) (M 28) 1 (dCallUp (M 27) (M 28) 0 W)), md)).1 0 = true
        · rw [if_pos c0, if_neg z1]
          refine ⟨_, rfl, ?_⟩
          show MD M _ (if _ then _ else _, _)
          rw [if_pos (Or.inl c0)]; exact hM4
        · by_cases c1 : dThr (dFights (M 28) (dMarches (dCallUp (M 27) (M 28) 1 (dCallUp (M 27) (M 28) 0 W)), md)).1 1 = true
          · rw [if_neg c0, if_pos rfl, if_pos c1, if_neg z1]
            refine ⟨_, rfl, ?_⟩
            show MD M _ (if _ then _ else _, _)
            rw [if_pos (Or.inr c1)]; exact hM4
          · rw [if_neg c0, if_pos rfl, if_neg c1, if_pos rfl]
            refine ⟨_, rfl, ?_⟩
            show MD M _ (if _ then _ else _, _)
            rw [if_neg (fun h => h.elim c0 c1)]; exact MD_mk (MD_un hM3)
      · obtain ⟨v', g, a⟩ := m_fight hV.1 hV.2 i
        obtain ⟨w1, -⟩ := dFight_w (tr := M 28) (x := i) hV.2
        refine ⟨v', ⟨a, w1⟩, fun F => ?_⟩
        show FX12_wages_146_b61 _ _ _ = _
        unfold FX12_wages_146_b61
        rw [if_neg (by rw [li_le (by decide) (by omega)]; show ¬ 16 ≤ i; omega), g, b_some, nI_1]
      · show FX12_wages_146_b61 _ _ _ = _
        unfold FX12_wages_146_b61
        rw [if_pos (by decide)]
    · obtain ⟨q1, q2, q3⟩ := hV
      have en := s78_n q3.1
      obtain ⟨v', g, a⟩ := m_marches q1 q2 (m := i) (by omega)
      obtain ⟨w1, w2⟩ := dMarch_w (m := i) q2 (by have := (OkT_n q2.1).2; omega)
      refine ⟨v', ⟨a, w1, lf_t q3 w2⟩, fun F => ?_⟩
      show FX12_wages_146_b37 _ _ _ = _
      unfold FX12_wages_146_b37
      rw [q1.1, (OkT_n q2.1).1, en, if_neg (nle hi (by have := (OkT_n q2.1).2; omega)), g, b_some, nI_1]
    · obtain ⟨q1, q2, q3⟩ := hV
      have en := s78_n q3.1
      show FX12_wages_146_b37 _ _ _ = _
      unfold FX12_wages_146_b37
      rw [q1.1, (OkT_n q2.1).1, en, if_pos (yle (by have := (OkT_n q2.1).2; omega))]
  · simp only [if_pos hi]
    have start : ∀ F, FX12_wages_146_L2 (F + 1) (nI i) v = (if V (82 + i) ≤ sIn V (nI i) then FX12_wages_146_L2 F (nI (i + 1)) v else ((FX12_calls_146 (nI i) v).bind fun u6 => FX12_wages_146_L2 F (nI (i + 1)) u6)) := by
      intro F
      show FX12_wages_146_b2 _ _ _ = _
      unfold FX12_wages_146_b2 FX12_wages_146_b29
      rw [if_neg (by rw [li_le (by decide) (by omega)]; show ¬ 2 ≤ i; omega), m_inF hV.1.1 hV.2.1, b_some, rl (by show 82 + i < _; omega) (by omega), hV.1.1, nI_1]
    obtain ⟨w1, -⟩ := dCallUp_w (fa := M 27) (tr := M 28) (c := i) hV.2
    unfold dCallUp at w1 ⊢
    by_cases c : sIn V (nI i) < V (82 + i)
    · rw [if_pos c] at w1 ⊢
      obtain ⟨v', g, a⟩ := m_calls hV.1 hV.2 (nI i)
      rw [e27, e28] at a
      exact ⟨v', ⟨a, w1⟩, fun F => by rw [start, if_neg (by rw [Int32.not_le]; exact c), g, b_some]⟩
    · rw [if_neg c]
      exact ⟨v, hV, fun F => by rw [start, if_pos (by rw [← Int32.not_lt]; exact c)]⟩
  · show FX12_wages_146_b2 _ _ _ = _
    unfold FX12_wages_146_b2
    rw [if_pos (by decide)]
theorem m_mid {M : Wt} {md : Int32} {v : Mem} {V : Wt} (hv : MR (upd M 29 md) v V) (hV : WO V) : ∃ u', MR (upd M 29 md) u' (dMid (M 28) V) ∧ ∀ l, FX12_aDay_146_b24 l v = (if l = 0 then (FX12_aDay_146_b40 u') else ((FX12_ends_146 u').bind fun u7 => FX12_aDay_146_b40 u7)) := by
  obtain ⟨u1, g1, h1⟩ := m_tells hv hV
  obtain ⟨w1, -⟩ := dTells_w hV
  obtain ⟨u2, g2, h2⟩ := m_fades h1 w1
  rw [up_ne (show 28 ≠ 29 by omega)] at h2
  exact ⟨u2, h2, fun l => by unfold FX12_aDay_146_b24; rw [g1, b_some, g2, b_some]⟩
theorem m_nx {M : Wt} {v : Mem} {V : Wt} (hv : MR M v V) : ∃ u', FX12_aDay_146_b40 v = some u' ∧ MR M u' (dNext V) := by
  unfold FX12_aDay_146_b40 dNext
  rw [b_some, hv.1]
  exact ⟨_, rfl, MR_u hv 0 (V 0 + 1)⟩
theorem m_day {M : Wt} {u : Mem} {s : Wt × Int32} (hM : MD M u s) (hW : WO s.1) : ∃ u', FX12_aDay_146 u = some u' ∧ MD M u' (dDay (M 27) (M 28) s) := by
  have hM0 := MD_un hM
  unfold FX12_aDay_146 FX12_aDay_146_b15 dDay
  rw [hM0.1]
  by_cases c : s.1 1 = 1
  · rw [if_pos c, if_pos c, if_neg z1]
    obtain ⟨u1, g1, h1⟩ := m_wages hM hW
    obtain ⟨w1, -⟩ := dWages_w (fa := M 27) (tr := M 28) hW
    obtain ⟨u2, h2, e2⟩ := m_mid (MD_un h1) w1
    obtain ⟨w2, -⟩ := dMid_w (tr := M 28) w1
    obtain ⟨u3, g3, h3⟩ := m_ends h2 w2
    rw [up_ne (show 28 ≠ 29 by omega)] at h3
    obtain ⟨u4, g4, h4⟩ := m_nx h3
    exact ⟨u4, by rw [g1, b_some, e2, if_neg z1, g3, b_some, g4], MD_mk h4⟩
  · rw [if_neg c, if_neg c, if_pos rfl]
    obtain ⟨u2, h2, e2⟩ := m_mid hM0 hW
    obtain ⟨u4, g4, h4⟩ := m_nx h2
    exact ⟨u4, by rw [e2, if_pos rfl, g4], MD_mk h4⟩

