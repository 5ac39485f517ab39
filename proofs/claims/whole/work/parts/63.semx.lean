/-! the model's thought -/
def st0 (W : Wt) (first : Int32) : Wt := if first = -1 then W else upd (upd W (40 + nt first) 1) (52 + nt first) (dEnd (W (90 + nt first)))
theorem st0_w {W : Wt} (hW : WO W) {first : Int32} (hf : first = -1 ∨ ∃ m, m < nmen W ∧ first = nI m) : WO (st0 W first) ∧ h78 W (st0 W first) := by
  obtain ⟨hn, hn12⟩ := OkT_n hW.1
  unfold st0
  rcases hf with e | ⟨m, hm, e⟩
  · rw [if_pos e]; exact ⟨hW, h_r W⟩
  · rw [if_neg (by rw [e]; exact nI_m1 (by omega)), e, nt_nI (by omega)]
    exact ⟨WO_u hW (s78_t (s78_u (by omega)) (s78_u (by omega))) (OkD_uce (OkD_uwh hW.2.1 (by omega) ⟨1, by omega, rfl⟩ (Or.inl hm)) (by omega) (dEnd_n _)), h_t (h_u (by omega)) (h_u (by omega))⟩
theorem m_lw1 {w : Mem} (first fa : Int32) : ∃ w', FX12_lastsWith_146 first fa w = (if first = (-1) then FX12_lastsWith_146_b51 w' else ((FX12_takesField_146 first w').bind fun u7 => FX12_lastsWith_146_b51 u7)) ∧ w' 147 = w 147 ∧ w' 146 = upd (upd (upd (w 146) 28 0) 27 fa) 29 0 ∧ (∀ k, k < 78 → w' 150 k = w 147 k) ∧ FrL [146, 150] w w' := by
  have hh := lp_r (S := Wt) (fun F i P => FX12_lastsWith_146_L2 F first fa i (mset w 150 P)) 78 (fun i P => ∀ k, k < i → P k = w 147 k) (fun o => ∃ w' : Mem, o = (if first = (-1) then FX12_lastsWith_146_b51 w' else ((FX12_takesField_146 first w').bind fun u7 => FX12_lastsWith_146_b51 u7)) ∧ w' 147 = w 147 ∧ w' 146 = upd (upd (upd (w 146) 28 0) 27 fa) 29 0 ∧ (∀ k, k < 78 → w' 150 k = w 147 k) ∧ FrL [146, 150] w w') (fun i P hi hI => ?_) (fun P hI F => ?_) FU 0 (w 150) (by omega) (by decide) (fun k hk => by omega)
  · rw [ms_self, nI_0] at hh; exact hh
  · refine Or.inl ⟨upd P i (w 147 i), fun k hk => ?_, fun F => ?_⟩
    · by_cases z : k = i
      · subst z; rw [up_eq]
      · rw [up_ne z]; exact hI k (by omega)
    · show FX12_lastsWith_146_b2 _ _ _ _ _ = _
      unfold FX12_lastsWith_146_b2
      rw [if_neg (by rw [li_le (by decide) (by omega)]; show ¬ 78 ≤ i; omega), rbs (by omega) (by omega) (by decide), wbs (by omega) (by omega), nI_1]
  · show ∃ w' : Mem, FX12_lastsWith_146_b2 _ _ _ _ _ = _ ∧ _
    unfold FX12_lastsWith_146_b2
    rw [if_pos (by decide), b_some, b_some, b_some]
    refine ⟨_, rfl, by rw [m_ne (by decide), m_ne (by decide), m_ne (by decide), ms_ne (by decide)], by rw [m_eq, m_eq, m_eq, ms_ne (by decide)], fun k hk => by rw [m_ne (by decide), m_ne (by decide), m_ne (by decide), ms_eq]; exact hI k hk, fun c hc => ?_⟩
    rw [m_ne (by intro e; subst e; simp at hc), m_ne (by intro e; subst e; simp at hc), m_ne (by intro e; subst e; simp at hc), ms_ne (by intro e; subst e; simp at hc)]
theorem m_lw2 {M : Wt} (hM28 : M 28 = 0) : ∀ (f d F : Nat) (w : Mem) (s : Wt × Int32), d + f = 99 → f < F → MD M w s → WO s.1 → ∃ w', FX12_lastsWith_146_L53 F (nI d) w = FX12_lastsWith_146_b79 (nI (d + du (M 27) f s)) w' ∧ MD M w' (ru (M 27) f s) ∧ FrL [146, 147, 155, 156] w w' := by
  intro f
  induction f with
  | zero =>
    intro d F w s hd hF hM hW
    obtain ⟨F, rfl⟩ : ∃ F', F = F' + 1 := ⟨F - 1, by omega⟩
    refine ⟨w, ?_, hM, fr_refl _ _⟩
    show FX12_lastsWith_146_b53 _ _ _ = FX12_lastsWith_146_b79 (nI (d + 0)) w
    unfold FX12_lastsWith_146_b53
    rw [Nat.add_zero, if_pos (show (99 : Int32) ≤ nI d by rw [li_le (by decide) (by omega)]; show 99 ≤ d; omega), ite_self]
  | succ f ih =>
    intro d F w s hd hF hM hW
    obtain ⟨F, rfl⟩ : ∃ F', F = F' + 1 := ⟨F - 1, by omega⟩
    show ∃ w', FX12_lastsWith_146_b53 _ _ _ = _ ∧ _
    unfold FX12_lastsWith_146_b53 ru du
    rw [(MD_un hM).1]
    by_cases c : s.1 1 = 1
    · rw [if_pos c, if_pos c, if_pos c, if_neg (show ¬ (99 : Int32) ≤ nI d by rw [li_le (by decide) (by omega)]; show ¬ 99 ≤ d; omega)]
      obtain ⟨w1, g1, x1⟩ := m_day hM hW
      rw [hM28] at x1
      obtain ⟨o1, -⟩ := dDay_w (fa := M 27) (tr := 0) hW
      obtain ⟨w2, g2, x2, fr⟩ := ih (d + 1) F w1 (dDay (M 27) 0 s) (by omega) (by omega) x1 o1
      refine ⟨w2, ?_, x2, ft (frX12_aDay_146 _ g1) fr⟩
      rw [g1, b_some, nI_1, g2, show d + (du (M 27) f (dDay (M 27) 0 s) + 1) = d + 1 + du (M 27) f (dDay (M 27) 0 s) by omega]
    · rw [if_neg c, if_neg c, if_neg c, Nat.add_zero]
      exact ⟨w, rfl, hM, fr_refl _ _⟩
/-- behind it: the sums, and all put back -/
theorem m_lw3 {w : Mem} {V : Wt} (hV : w 147 = V) (hW : WO V) (l3 t0 : Int32) : ∃ w', FX12_lastsWith_146_b93 l3 t0 w = FX12_lastsWith_146_L172 FU l3 t0 0 w' ∧ FrL [157] w w' ∧ w' 157 1 = w 146 29 ∧ w' 157 2 = sBr V 0 ∧ w' 157 3 = sBr V 1 := by
  obtain ⟨hn, hn12⟩ := OkT_n hW.1
  unfold FX12_lastsWith_146_b93
  rw [mb, mbs, mbs]
  have hh := lp_r (S := Wt) (fun F i P => FX12_lastsWith_146_L122 F l3 t0 i (mset w 157 P)) (nmen V) (fun i P => P 1 = w 146 29 ∧ P 2 = fo i (fun m s => s + if V (90 + m) = 0 then V (4 + m) else 0) 0 ∧ P 3 = fo i (fun m s => s + if V (90 + m) = 1 then V (4 + m) else 0) 0) (fun o => ∃ w' : Mem, o = FX12_lastsWith_146_L172 FU l3 t0 0 w' ∧ FrL [157] w w' ∧ w' 157 1 = w 146 29 ∧ w' 157 2 = sBr V 0 ∧ w' 157 3 = sBr V 1) (fun i P hi hI => ?_) (fun P hI F => ?_) FU 0 (upd (upd (upd (w 157) 1 (w 146 29)) 2 0) 3 0) (by omega) (by show _ < 10000; omega) ⟨by rw [up_ne (by omega), up_ne (by omega), up_eq], by rw [up_ne (by omega), up_eq]; rfl, by rw [up_eq]; rfl⟩
  · rw [nI_0] at hh; exact hh
  · obtain ⟨i1, i2, i3⟩ := hI
    have e90 : ∀ Q : Wt, (mset w 157 Q) 147 = V := fun Q => by rw [ms_ne (by decide)]; exact hV
    refine Or.inl ?_
    have start : ∀ F, FX12_lastsWith_146_L122 (F + 1) l3 t0 (nI i) (mset w 157 P) = ((rdA (mset w 157 P) 157 4 (2 + V (90 + i))).bind fun x3 => (wrA (mset w 157 P) 157 4 (2 + V (90 + i)) (x3 + V (4 + i))).bind fun u5 => FX12_lastsWith_146_L122 F l3 t0 (nI (i + 1)) u5) := by
      intro F
      show FX12_lastsWith_146_b122 _ _ _ _ _ = _
      unfold FX12_lastsWith_146_b122
      rw [e90, hn, if_neg (nle hi (by omega)), rl (by show 90 + i < _; omega) (by omega), rl2 (x := 0) (y := 0) (by show 4 + i < _; omega) (by omega), e90, nI_1]
      rfl
    rcases OkT_co hW.1 i (by omega) with c | c
    · refine ⟨upd P 2 (P 2 + V (4 + i)), ⟨by rw [up_ne (by omega)]; exact i1, by rw [up_eq, i2, fo_s, if_pos c], by rw [up_ne (by omega), i3, fo_s, if_neg (by rw [c]; decide), Int32.add_zero]⟩, fun F => ?_⟩
      rw [start, c, show (2 : Int32) + 0 = nI 2 by decide, rb (by omega) (by omega), ms_eq, wbs (by omega) (by omega)]
    · refine ⟨upd P 3 (P 3 + V (4 + i)), ⟨by rw [up_ne (by omega)]; exact i1, by rw [up_ne (by omega), i2, fo_s, if_neg (by rw [c]; decide), Int32.add_zero], by rw [up_eq, i3, fo_s, if_pos c]⟩, fun F => ?_⟩
      rw [start, c, show (2 : Int32) + 1 = nI 3 by decide, rb (by omega) (by omega), ms_eq, wbs (by omega) (by omega)]
  · obtain ⟨i1, i2, i3⟩ := hI
    refine ⟨mset w 157 P, ?_, fun c hc => ms_ne (by intro e; subst e; simp at hc), by rw [ms_eq]; exact i1, by rw [ms_eq]; exact i2, by rw [ms_eq]; exact i3⟩
    show FX12_lastsWith_146_b122 _ _ _ _ _ = _
    unfold FX12_lastsWith_146_b122
    rw [ms_ne (by decide), hV, hn, if_pos (yle (by omega))]
theorem m_lw4 {w : Mem} {W : Wt} (h1 : ∀ k, k < 78 → w 150 k = W k) (h2 : ∀ k, 78 ≤ k → w 147 k = W k) (l3 t0 : Int32) : ∃ w', FX12_lastsWith_146_L172 FU l3 t0 0 w = some (if t0 = 0 then 1000000 else l3, w') ∧ w' 147 = W ∧ w' 146 = upd (w 146) 27 0 ∧ FrL [146, 147] w w' := by
  have hh := lp_r (S := Wt) (fun F i P => FX12_lastsWith_146_L172 F l3 t0 i (mset w 147 P)) 78 (fun i P => (∀ k, k < i → P k = W k) ∧ ∀ k, 78 ≤ k → P k = W k) (fun o => ∃ w' : Mem, o = some (if t0 = 0 then 1000000 else l3, w') ∧ w' 147 = W ∧ w' 146 = upd (w 146) 27 0 ∧ FrL [146, 147] w w') (fun i P hi hI => ?_) (fun P hI F => ?_) FU 0 (w 147) (by omega) (by decide) ⟨fun k hk => by omega, h2⟩
  · rw [ms_self, nI_0] at hh; exact hh
  · refine Or.inl ⟨upd P i (W i), ⟨fun k hk => ?_, fun k hk => by rw [up_ne (by omega)]; exact hI.2 k hk⟩, fun F => ?_⟩
    · by_cases z : k = i
      · subst z; rw [up_eq]
      · rw [up_ne z]; exact hI.1 k (by omega)
    · show FX12_lastsWith_146_b172 _ _ _ _ _ = _
      unfold FX12_lastsWith_146_b172
      rw [if_neg (by rw [li_le (by decide) (by omega)]; show ¬ 78 ≤ i; omega), rbs (by omega) (by omega) (by decide), h1 i hi, wbs (by omega) (by omega), nI_1]
  · show ∃ w' : Mem, FX12_lastsWith_146_b172 _ _ _ _ _ = _ ∧ _
    unfold FX12_lastsWith_146_b172
    rw [if_pos (by decide), b_some]
    have eW : P = W := by
      funext k
      by_cases z : k < 78
      · exact hI.1 k z
      · exact hI.2 k (by omega)
    refine ⟨mupd (mset w 147 P) 146 27 0, ?_, by rw [m_ne (by decide), ms_eq]; exact eW, by rw [m_eq, ms_ne (by decide)], fun c hc => by rw [m_ne (by intro e; subst e; simp at hc), ms_ne (by intro e; subst e; simp at hc)]⟩
    split <;> rfl
def lasts (fa : Int32) (s : Wt × Int32) : Int32 := if (ru fa 99 s).1 1 = 0 then nI (du fa 99 s) else 1000000
theorem m_lasts {v w : Mem} (h : SP v w) {first : Int32} (hf : first = -1 ∨ ∃ m, m < nmen (w 147) ∧ first = nI m) (fa : Int32) : ∃ w', FX12_lastsWith_146 first fa w = some (lasts fa (st0 (w 147) first, 0), w') ∧ SP v w' ∧ w' 147 = w 147 ∧ w' 157 1 = (ru fa 99 (st0 (w 147) first, 0)).2 ∧ w' 157 2 = sBr (ru fa 99 (st0 (w 147) first, 0)).1 0 ∧ w' 157 3 = sBr (ru fa 99 (st0 (w 147) first, 0)).1 1 := by
  have a := h.1
  obtain ⟨hn, hn12⟩ := OkT_n a.1
  obtain ⟨w1, g1, e7, e6, e50, f1⟩ := m_lw1 (w := w) first fa
  obtain ⟨o2, hh2⟩ := st0_w a hf
  have mid : ∃ w2, FX12_lastsWith_146 first fa w = FX12_lastsWith_146_b51 w2 ∧ w2 147 = st0 (w 147) first ∧ w2 146 = w1 146 ∧ FrL [147] w1 w2 := by
    rw [g1]
    unfold st0
    rcases hf with e | ⟨m, hm, e⟩
    · rw [if_pos e, if_pos e]; exact ⟨w1, rfl, e7, rfl, fr_refl _ _⟩
    · rw [if_neg (by rw [e]; exact nI_m1 (by omega)), if_neg (by rw [e]; exact nI_m1 (by omega)), e, nt_nI (by omega)]
      obtain ⟨w2, g2, h2⟩ := m_take (M := w1 146) ⟨e7, rfl⟩ (m := m) (by omega)
      exact ⟨w2, by rw [g2, b_some], h2.1, h2.2, frX12_takesField_146 _ _ g2⟩
  obtain ⟨w2, g2, e27, e26, f2⟩ := mid
  have M28 : (upd (upd (upd (w 146) 28 0) 27 fa) 29 0) 28 = 0 := by rw [up_ne (by omega), up_ne (by omega), up_eq]
  have M27 : (upd (upd (upd (w 146) 28 0) 27 fa) 29 0) 27 = fa := by rw [up_ne (by omega), up_eq]
  have hM : MD (upd (upd (upd (w 146) 28 0) 27 fa) 29 0) w2 (st0 (w 147) first, 0) := MD_mk ⟨e27, by rw [e26, e6, upd_self (up_eq _ _ _)]⟩
  obtain ⟨w3, g3, x3, f3⟩ := m_lw2 M28 99 0 FU w2 _ (by omega) (by decide) hM o2
  rw [M27, Nat.zero_add] at g3
  rw [M27] at x3
  obtain ⟨oV, hV⟩ := ru_w (fa := fa) 99 (st0 (w 147) first, 0) o2
  have x3 := MD_un x3
  have m29 : w3 146 29 = (ru fa 99 (st0 (w 147) first, 0)).2 := by rw [x3.2, up_eq]
  have tail : ∀ t0 : Int32, ∃ w', FX12_lastsWith_146_b93 (nI (du fa 99 (st0 (w 147) first, 0))) t0 w3 = some (if t0 = 0 then 1000000 else nI (du fa 99 (st0 (w 147) first, 0)), w') ∧ SP v w' ∧ w' 147 = w 147 ∧ w' 157 1 = (ru fa 99 (st0 (w 147) first, 0)).2 ∧ w' 157 2 = sBr (ru fa 99 (st0 (w 147) first, 0)).1 0 ∧ w' 157 3 = sBr (ru fa 99 (st0 (w 147) first, 0)).1 1 := by
    intro t0
    obtain ⟨w4, g4, f4, k1, k2, k3⟩ := m_lw3 x3.1 oV (nI (du fa 99 (st0 (w 147) first, 0))) t0
    obtain ⟨w5, g5, l7, l6, f5⟩ := m_lw4 (w := w4) (W := w 147) (fun k hk => by rw [f4 150 (by decide), f3 150 (by decide), f2 150 (by decide)]; exact e50 k hk) (fun k hk => by rw [f4 147 (by decide), x3.1, hV k hk]; exact hh2 k hk) (nI (du fa 99 (st0 (w 147) first, 0))) t0
    refine ⟨w5, by rw [g4, g5], SP_m l7 ?_ ?_ ?_ (fun k hk => ?_) h, l7, by rw [f5 157 (by decide), k1, m29], by rw [f5 157 (by decide), k2], by rw [f5 157 (by decide), k3]⟩
    · rw [f5 148 (by decide), f4 148 (by decide), f3 148 (by decide), f2 148 (by decide), f1 148 (by decide)]
    · rw [f5 149 (by decide), f4 149 (by decide), f3 149 (by decide), f2 149 (by decide), f1 149 (by decide)]
    · rw [f5 154 (by decide), f4 154 (by decide), f3 154 (by decide), f2 154 (by decide), f1 154 (by decide)]
    · rw [l6, up_ne (by omega), f4 146 (by decide), x3.2, up_ne (by omega), up_ne (by omega), up_ne (by omega), up_ne (by omega)]
  rw [g2]
  unfold FX12_lastsWith_146_b51 lasts
  rw [nI_0] at g3
  rw [g3]
  unfold FX12_lastsWith_146_b79
  rw [x3.1]
  by_cases c : (ru fa 99 (st0 (w 147) first, 0)).1 1 = 0
  · rw [if_pos c, if_pos c]
    have := tail 1
    rw [if_neg z1] at this
    exact this
  · rw [if_neg c, if_neg c]
    have := tail 0
    rw [if_pos rfl] at this
    exact this
theorem lasts_n (fa : Int32) (s : Wt × Int32) : lasts fa s = 1000000 ∨ ∃ j, j ≤ 99 ∧ lasts fa s = nI j := by
  unfold lasts; split
  · exact Or.inr ⟨_, du_le fa 99 s, rfl⟩
  · exact Or.inl rfl
theorem A_lasts (p : Int32) : A2 (FX11_lasts_0 p) (FX12_lasts_146 p) := by
  intro v w h
  obtain ⟨a, b, c, -⟩ := id h
  unfold FX11_lasts_0 FX12_lasts_146
  rw [m_in, b_some]
  by_cases q : 0 ≤ p ∧ p ≤ 3
  · rw [if_neg (by rw [Int32.not_lt]; exact q.1), if_pos q.2, if_pos q, if_neg z1]
    obtain ⟨w1, g1, s1, _, k1, k2, k3⟩ := m_lasts h (Or.inl rfl) 0
    have e0 : st0 (w 147) (-1) = w 147 := if_pos rfl
    rw [e0] at g1 k1 k2 k3
    obtain ⟨v1, i1, x1, ag1, -⟩ := c_imag b c 0
    obtain ⟨v2, i2, x2, ag2, -⟩ := c_until (M := 99) (by omega) 99 0 FU v1 (w 147, 0) (by omega) (by decide) x1 a
    rw [Nat.zero_add, nI_0] at i2
    have hs : SP v2 w1 := SP_ag s1 (Ag_t ag1 ag2) x2.2.1
    obtain ⟨oV, -⟩ := ru_w (fa := 0) 99 (w 147, 0) a
    unfold FX2_lasting_96
    rw [i1, b_some, show FX2_until_96 99 v1 = some (if (ru 0 99 (w 147, 0)).1 1 = 0 then nI (du 0 99 (w 147, 0)) else -1, v2) from i2, b2_some, g1, b2_some]
    rw [show (3 : Int32) = nI 3 by decide, in_n (by decide)] at q
    obtain ⟨j, hj, rfl⟩ := q
    rcases (by omega : j = 0 ∨ j = 1 ∨ j = 2 ∨ j = 3) with rfl | rfl | rfl | rfl
    · rw [if_pos (show nI 0 = 0 from nI_0), if_pos (show nI 0 ≤ 0 by decide), b2_some]
      unfold lasts
      by_cases z : (ru 0 99 (w 147, 0)).1 1 = 0
      · rw [if_pos z, if_pos z, if_neg]
        · exact ⟨_, v2, w1, rfl, rfl, hs⟩
        · have := du_le 0 99 (w 147, 0)
          rw [show (1000000 : Int32) = nI 1000000 by decide, nn_eq (by omega) (by omega)]; omega
      · rw [if_neg z, if_neg z, if_pos rfl]
        exact ⟨_, v2, w1, rfl, rfl, hs⟩
    · rw [if_neg (show ¬ nI 1 = 0 by decide), if_pos (show nI 1 = 1 by decide), if_neg (show ¬ nI 1 ≤ 0 by decide), b2_some, rb (by omega) (by omega), k1, x2.2.2.2.1]
      exact ⟨_, v2, w1, rfl, rfl, hs⟩
    · rw [if_neg (show ¬ nI 2 = 0 by decide), if_neg (show ¬ nI 2 = 1 by decide), if_neg (show ¬ nI 2 ≤ 0 by decide), show nI 2 - 2 = 0 by decide, c_brOf_104 x2.1 oV.1, b_some, b2_some, rb (by omega) (by omega), k2]
      exact ⟨_, v2, w1, rfl, rfl, hs⟩
    · rw [if_neg (show ¬ nI 3 = 0 by decide), if_neg (show ¬ nI 3 = 1 by decide), if_neg (show ¬ nI 3 ≤ 0 by decide), show nI 3 - 2 = 1 by decide, c_brOf_104 x2.1 oV.1, b_some, b2_some, rb (by omega) (by omega), k3]
      exact ⟨_, v2, w1, rfl, rfl, hs⟩
  · rw [if_neg q, if_pos rfl]
    refine ⟨-1, v, w, ?_, rfl, h⟩
    rcases not_in q with c1 | ⟨c1, c2⟩
    · rw [if_pos c1]
    · rw [if_neg c1, if_neg c2]
