/-! fading; the day's end; a day -/
def lbF (z : Int32) : Nat → Nat → Nat
  | 0, k => k
  | f + 1, k => if tb z k = true then k else lbF z f (k + 1)
def lbit (z : Int32) : Nat := lbF z 7 0
def drw (s : Int32) : Int32 := s * 1664525 + 1013904223
def sh8 (x : Int32) : Int32 := ((x : Int32).toUInt32 >>> ((8 : Int32).toUInt32 &&& Int32.toUInt32 31)).toInt32
def dv1000 (x : Int32) : Int32 := sh8 x - sh8 x / 1000 * 1000
def unb (z : Int32) : Int32 := z &&& (((1 : Int32) <<< (nI (lbit z) &&& 31)) ^^^ (-1))
def dFade1 (tr : Int32) (m : Nat) (W : Wt) : Wt := if tr = 0 ∨ W (16 + m) = 0 then W else if dv1000 (drw (W 2)) < dAsk (upd W 2 (drw (W 2))) 3 m then dNote tr 3 (nI m) (nI (lbit (W (16 + m)))) (upd (upd W 2 (drw (W 2))) (16 + m) (unb (W (16 + m)))) else upd W 2 (drw (W 2))
def dFades (tr : Int32) (W : Wt) : Wt := fo (nmen W) (dFade1 tr) W
theorem WO_dr {W : Wt} (hW : WO W) (x : Int32) : WO (upd W 2 x) := WO_u hW (s78_u (by omega)) (OkD_ufr hW.2.1 (by omega))
theorem dFade1_w {tr : Int32} {m : Nat} {W : Wt} (hW : WO W) (hm : m < 12) : WO (dFade1 tr m W) ∧ lf W (dFade1 tr m W) := by
  unfold dFade1
  split
  · exact ⟨hW, lf_r W⟩
  · have h1 := WO_dr hW (drw (W 2))
    split
    · obtain ⟨j, hj, e⟩ := OkD_kn hW.2.1 m hm
      have h2 : WO (upd (upd W 2 (drw (W 2))) (16 + m) (unb (W (16 + m)))) := WO_u h1 (s78_u (by omega)) (OkD_ukn h1.2.1 hm (and_n hj (by omega) e))
      exact ⟨WO_note h2, lf_t (lf_t (lf_u (by omega)) (lf_u (by omega))) (lf_note h2.2.1)⟩
    · exact ⟨h1, lf_u (by omega)⟩
theorem lb_le (z : Int32) : ∀ f k, lbF z f k ≤ f + k
  | 0, k => by unfold lbF; omega
  | f + 1, k => by
    unfold lbF
    split
    · omega
    · have := lb_le z f (k + 1); omega
theorem lbit_8 (z : Int32) : lbit z ≤ 7 := lb_le z 7 0
theorem c_least (z : Int32) : FX3_leastOf z = some (nI (lbit z)) := by
  have h : ∀ f k F, f + k = 7 → f < F → FX3_leastOf_L2 F z (nI k) = some (nI (lbF z f k)) := by
    intro f
    induction f with
    | zero =>
      intro k F hk hF
      obtain ⟨F, rfl⟩ : ∃ F', F = F' + 1 := ⟨F - 1, by omega⟩
      show FX3_leastOf_b2 _ _ _ = _
      unfold FX3_leastOf_b2 FX3_leastOf_b22
      rw [if_pos (by rw [li_le (by decide) (by omega)]; show 7 ≤ k; omega)]
      rfl
    | succ f ih =>
      intro k F hk hF
      obtain ⟨F, rfl⟩ : ∃ F', F = F' + 1 := ⟨F - 1, by omega⟩
      show FX3_leastOf_b2 _ _ _ = _
      unfold FX3_leastOf_b2 FX3_leastOf_b22 lbF
      rw [if_neg (by rw [li_le (by decide) (by omega)]; show ¬ 7 ≤ k; omega), holds_b _ (by omega), b_some]
      by_cases c : tb z k = true
      · rw [if_pos c, if_neg z1, if_pos c]
      · rw [if_neg c, if_pos rfl, if_neg c, nI_1]
        exact ih (k + 1) F (by omega) (by omega)
  have h2 := h 7 0 FU (by omega) (by decide)
  rw [nI_0] at h2
  exact h2
theorem top_bit {z : Int32} {j : Nat} (hj : j < 256) (e : z = nI j) (hz : z ≠ 0) (h : ∀ i, i < 7 → ¬ tb z i = true) : tb z 7 = true := by
  by_cases c : tb z 7 = true
  · exact c
  · exfalso
    apply hz
    apply tb_ext
    intro k hk
    rw [tb_0]
    by_cases q : k < 7
    · have := h k q; cases d : tb z k <;> simp_all
    · by_cases q2 : k = 7
      · subst q2; cases d : tb z 7 <;> simp_all
      · rw [e, tb_nI j hk]
        apply Nat.testBit_lt_two_pow
        have : 2 ^ 8 ≤ 2 ^ k := Nat.pow_le_pow_right (by omega) (by omega)
        omega
theorem m_lb {u : Mem} {W : Wt} (hu : u 147 = W) (hD : OkD W) {m : Nat} (hm : m < 12) (hz : W (16 + m) ≠ 0) (q : Int32 → Mem → Option Mem) : FX12_fades_146_L52 q FU (nI m) 0 u = ((wrA u 147 1786 (16 + nI m) (unb (W (16 + m)))).bind fun u4 => (FX12_notes_146 3 (nI m) (nI (lbit (W (16 + m)))) u4).bind fun u6 => FX12_fades_146_b98 q (nI m) u6) := by
  obtain ⟨j, hj, e⟩ := OkD_kn hD m hm
  have h : ∀ f k F, f + k = 7 → f < F → lbF (W (16 + m)) f k = lbit (W (16 + m)) → (∀ i, i < k → ¬ tb (W (16 + m)) i = true) → FX12_fades_146_L52 q F (nI m) (nI k) u = ((wrA u 147 1786 (16 + nI m) (unb (W (16 + m)))).bind fun u4 => (FX12_notes_146 3 (nI m) (nI (lbit (W (16 + m)))) u4).bind fun u6 => FX12_fades_146_b98 q (nI m) u6) := by
    intro f
    induction f with
    | zero =>
      intro k F hk hF hl hb
      obtain ⟨F, rfl⟩ : ∃ F', F = F' + 1 := ⟨F - 1, by omega⟩
      have k7 : k = 7 := by omega
      subst k7
      have ht := top_bit hj e hz hb
      have hl7 : 7 = lbit (W (16 + m)) := hl
      show FX12_fades_146_b52 _ _ _ _ _ = _
      unfold FX12_fades_146_b52
      rw [rl (by show 16 + m < _; omega) (by omega), hu]
      show (if ((W (16 + m) >>> (nI 7 &&& 31)) &&& 1) = 0 then _ else _) = _
      rw [if_neg (by rw [bit_0 _ (by omega)]; exact fun h => h ht), rl (by show 16 + m < _; omega) (by omega), hu]
      show ((wrA u 147 1786 (16 + nI m) (W (16 + m) &&& (((1 : Int32) <<< (nI 7 &&& 31)) ^^^ (-1)))).bind _) = _
      rw [show W (16 + m) &&& (((1 : Int32) <<< (nI 7 &&& 31)) ^^^ (-1)) = unb (W (16 + m)) by unfold unb; rw [← hl7], ← hl7]
    | succ f ih =>
      intro k F hk hF hl hb
      obtain ⟨F, rfl⟩ : ∃ F', F = F' + 1 := ⟨F - 1, by omega⟩
      show FX12_fades_146_b52 _ _ _ _ _ = _
      unfold FX12_fades_146_b52
      rw [rl (by show 16 + m < _; omega) (by omega), hu]
      show (if ((W (16 + m) >>> (nI k &&& 31)) &&& 1) = 0 then _ else _) = _
      unfold lbF at hl
      by_cases c : tb (W (16 + m)) k = true
      · rw [if_pos c] at hl
        rw [if_neg (by rw [bit_0 _ (by omega)]; exact fun h => h c), rl (by show 16 + m < _; omega) (by omega), hu]
        show ((wrA u 147 1786 (16 + nI m) (W (16 + m) &&& (((1 : Int32) <<< (nI k &&& 31)) ^^^ (-1)))).bind _) = _
        rw [show W (16 + m) &&& (((1 : Int32) <<< (nI k &&& 31)) ^^^ (-1)) = unb (W (16 + m)) by unfold unb; rw [← hl], hl]
      · rw [if_neg c] at hl
        rw [if_pos (by rw [bit_0 _ (by omega)]; exact c), nI_1]
        exact ih (k + 1) F (by omega) (by omega) hl (fun i hi => by
          by_cases q : i = k
          · rw [q]; exact c
          · exact hb i (by omega))
  have h2 := h 7 0 FU (by omega) (by decide) rfl (fun i hi => by omega)
  rw [nI_0] at h2
  exact h2
theorem m_fade1 {M : Wt} {u : Mem} {W : Wt} (hM : MR M u W) (hW : WO W) {m : Nat} (hm : m < nmen W) : ∃ u', MR M u' (dFade1 (M 28) m W) ∧ ∀ F, FX12_fades_146_L2 (F + 1) (nI m) u = FX12_fades_146_L2 F (nI (m + 1)) u' := by
  obtain ⟨hn, hn12⟩ := OkT_n hW.1
  have hm12 : m < 12 := by omega
  have hn' : u 147 78 = nI (nmen W) := by rw [hM.1]; exact hn
  have start : ∀ F, FX12_fades_146_L2 (F + 1) (nI m) u = (if M 28 = 0 then FX12_fades_146_L2 F (nI (m + 1)) u else (if W (16 + m) = 0 then FX12_fades_146_L2 F (nI (m + 1)) u else (bnd2 (FX12_draw_146 1000 u) fun x5 u6 => bnd2 (FX12_fadeOf_146 (nI m) u6) fun x7 u8 => (if x5 < x7 then (FX12_fades_146_L52 (FX12_fades_146_L2 F) FU (nI m) 0 u8) else FX12_fades_146_L2 F (nI (m + 1)) u8)))) := by
    intro F
    show FX12_fades_146_b2 _ _ _ = _
    unfold FX12_fades_146_b2 FX12_fades_146_b98
    rw [hn', if_neg (nle hm (by omega)), rl (by show 16 + m < _; omega) (by omega), hM.1, hM.2, nI_1]
  unfold dFade1
  by_cases c0 : M 28 = 0
  · rw [if_pos (Or.inl c0)]
    exact ⟨u, hM, fun F => by rw [start, if_pos c0]⟩
  · by_cases c1 : W (16 + m) = 0
    · rw [if_pos (Or.inr c1)]
      exact ⟨u, hM, fun F => by rw [start, if_neg c0, if_pos c1]⟩
    · rw [if_neg (fun h => h.elim c0 c1)]
      have hd : FX12_draw_146 1000 u = some (dv1000 (drw (W 2)), mupd u 147 2 (drw (W 2))) := by
        unfold FX12_draw_146
        rw [b_some, rm1000, m_eq, up_eq, hM.1, show 1664525 * W 2 + 1013904223 = drw (W 2) by unfold drw; rw [Int32.mul_comm]]
        rfl
      have hM1 := MR_u hM 2 (drw (W 2))
      have hW1 := WO_dr hW (drw (W 2))
      obtain ⟨u2, g2⟩ := m_fade hM1.1 hW1 hm12
      have hM2 := MR_s hM1 (frX12_fadeOf_146 _ _ g2)
      by_cases c2 : dv1000 (drw (W 2)) < dAsk (upd W 2 (drw (W 2))) 3 m
      · rw [if_pos c2]
        have ek : (upd W 2 (drw (W 2))) (16 + m) = W (16 + m) := up_ne (by omega)
        obtain ⟨j, hj, e⟩ := OkD_kn hW.2.1 m hm12
        have hM3 := MR_u hM2 (16 + m) (unb (W (16 + m)))
        have hW3 : WO (upd (upd W 2 (drw (W 2))) (16 + m) (unb (W (16 + m)))) := WO_u hW1 (s78_u (by omega)) (OkD_ukn hW1.2.1 hm12 (and_n hj (by omega) e))
        obtain ⟨u4, g4, hM4⟩ := m_note hM3 hW3 3 (nI m) (nI (lbit (W (16 + m))))
        refine ⟨u4, hM4, fun F => ?_⟩
        rw [start, if_neg c0, if_neg c1, hd, b2_some, g2, b2_some, if_pos c2, m_lb hM2.1 hW1.2.1 hm12 (by rw [ek]; exact c1), ek, wl (by show 16 + m < _; omega) (by omega)]
        show (FX12_notes_146 3 (nI m) (nI (lbit (W (16 + m)))) (mupd u2 147 (16 + m) (unb (W (16 + m))))).bind _ = _
        rw [g4, b_some]
        unfold FX12_fades_146_b98
        rw [nI_1]
      · rw [if_neg c2]
        exact ⟨u2, hM2, fun F => by rw [start, if_neg c0, if_neg c1, hd, b2_some, g2, b2_some, if_neg c2]⟩
theorem m_fades {M : Wt} {u : Mem} {W : Wt} (hM : MR M u W) (hW : WO W) : ∃ u', FX12_fades_146 u = some u' ∧ MR M u' (dFades (M 28) W) := by
  obtain ⟨hn, hn12⟩ := OkT_n hW.1
  have hh := lp_w (fun F i u => FX12_fades_146_L2 F i u) (nmen W) (fun u V => MR M u V ∧ WO V ∧ lf W V) (dFade1 (M 28)) (fun u => some u) (fun i v V hi hV => ?_) (fun v V F hV => ?_) (F := FU) (u := u) (s := W) (by show _ < 10000; omega) ⟨hM, hW, lf_r W⟩
  · obtain ⟨u', ⟨hR, -⟩, e⟩ := hh
    exact ⟨u', e, hR⟩
  · obtain ⟨h1, h2, h3⟩ := hV
    have en := s78_n h3.1
    obtain ⟨v', a, b⟩ := m_fade1 h1 h2 (m := i) (by omega)
    obtain ⟨w1, w2⟩ := dFade1_w (tr := M 28) (m := i) h2 (by omega)
    exact ⟨v', ⟨a, w1, lf_t h3 w2⟩, b⟩
  · obtain ⟨h1, h2, h3⟩ := hV
    have en := s78_n h3.1
    show FX12_fades_146_b2 _ _ _ = _
    unfold FX12_fades_146_b2
    rw [h1.1, (OkT_n h2.1).1, en, if_pos (yle (by omega))]
theorem dFades_w {tr : Int32} {W : Wt} (hW : WO W) : WO (dFades tr W) ∧ lf W (dFades tr W) := fo_lf (fun m W => dFade1_w) hW _ (OkT_n hW.1).2
theorem dFades_0 (W : Wt) : dFades 0 W = W := by
  unfold dFades
  have : ∀ n, fo n (dFade1 0) W = W := by
    intro n
    induction n with
    | zero => rfl
    | succ n ih => rw [fo_s, ih]; unfold dFade1; rw [if_pos (Or.inl rfl)]
  exact this _
theorem c_fade1_32 {fa md : Int32} {B : Wt} {u : Mem} {W : Wt} (hX : XR_32 fa md B u W) (hW : WO W) {m : Nat} (hm : m < nmen W) : ∃ u', XR_32 fa md B u' (dFade1 1 m W) ∧ ∀ F, FX3_fade_32_L2 (F + 1) (nI m) u = FX3_fade_32_L2 F (nI (m + 1)) u' := by
  obtain ⟨hn, hn12⟩ := OkT_n hW.1
  have hm12 : m < 12 := by omega
  have hn' : u 1 0 = nI (nmen W) := (gmen hX.1).trans hn
  have hd : FX0_draw_23 1000 u = some (dv1000 (drw (W 2)), mupd u 23 8 (drw (W 2))) := by
    unfold FX0_draw_23
    rw [b_some, if_neg (by decide), rm1000, m_eq, up_eq, gdr_23 hX.1]
    rfl
  have hX1 := XR_f32 hX hW.1 (k := 8) (q := 2) (by omega) (drw (W 2))
  have hW1 := WO_dr hW (drw (W 2))
  obtain ⟨u2, g2⟩ := c_asked_32 hX1.1 hW1 (m := m) (by rw [s78_n (s78_u (by omega))]; exact hm) (w := 3) (by omega)
  have hX2 := XR_s32 hX1 (frX3_asked_32 _ _ _ g2)
  have ek : (upd W 2 (drw (W 2))) (16 + m) = W (16 + m) := up_ne (by omega)
  have start : ∀ F, FX3_fade_32_L2 (F + 1) (nI m) u = (if W (16 + m) = 0 then FX3_fade_32_L2 F (nI (m + 1)) u else (if dAsk (upd W 2 (drw (W 2))) 3 m ≤ dv1000 (drw (W 2)) then FX3_fade_32_L2 F (nI (m + 1)) u2 else ((FX3_note_32 3 (nI m) (nI (lbit (W (16 + m)))) (mupd u2 25 m (unb (W (16 + m))))).bind fun u15 => FX3_fade_32_L2 F (nI (m + 1)) u15))) := by
    intro F
    show FX3_fade_32_b2 _ _ _ = _
    unfold FX3_fade_32_b2 FX3_fade_32_b87
    rw [if_neg (n12 hm12), hn', if_neg (nle hm (by omega)), rb hm12 (by omega), gkn_23 hX.1 hm12, hd, b2_some, show (3 : Int32) = nI 3 by decide, g2, b2_some, rb hm12 (by omega), gkn_23 hX2.1 hm12, ek, c_least, b_some, rb hm12 (by omega), gkn_23 hX2.1 hm12, ek, wb hm12 (by omega), nI_1]
    rfl
  unfold dFade1
  by_cases c1 : W (16 + m) = 0
  · rw [if_pos (Or.inr c1)]
    exact ⟨u, hX, fun F => by rw [start, if_pos c1]⟩
  · rw [if_neg (fun h => h.elim z1 c1)]
    by_cases c2 : dv1000 (drw (W 2)) < dAsk (upd W 2 (drw (W 2))) 3 m
    · rw [if_pos c2]
      obtain ⟨j, hj, e⟩ := OkD_kn hW.2.1 m hm12
      have hX3 := XR_u32 hX2 hW1.1 (j := 1) (by omega) hm12 (unb (W (16 + m)))
      have hW3 : WO (upd (upd W 2 (drw (W 2))) (16 + m) (unb (W (16 + m)))) := WO_u hW1 (s78_u (by omega)) (OkD_ukn hW1.2.1 hm12 (and_n hj (by omega) e))
      obtain ⟨u4, g4, hX4⟩ := c_note_32 hX3 hW3 3 (nI m) (nI (lbit (W (16 + m))))
      refine ⟨u4, hX4, fun F => ?_⟩
      rw [start, if_neg c1, if_neg (by rw [Int32.not_le]; exact c2)]
      show (FX3_note_32 3 (nI m) (nI (lbit (W (16 + m)))) (mupd u2 (23 + 1 + 1) m (unb (W (16 + m))))).bind _ = _
      rw [g4, b_some]
    · rw [if_neg c2]
      exact ⟨u2, hX2, fun F => by rw [start, if_neg c1, if_pos (by rw [← Int32.not_lt]; exact c2)]⟩
theorem c_fades_32 {fa md : Int32} {B : Wt} {u : Mem} {W : Wt} (hX : XR_32 fa md B u W) (hW : WO W) : ∃ u', FX3_fade_32 u = some u' ∧ XR_32 fa md B u' (dFades 1 W) := by
  obtain ⟨hn, hn12⟩ := OkT_n hW.1
  have hh := lp_w (fun F i u => FX3_fade_32_L2 F i u) (nmen W) (fun u V => XR_32 fa md B u V ∧ WO V ∧ lf W V) (dFade1 1) (fun u => some u) (fun i v V hi hV => ?_) (fun v V F hV => ?_) (F := FU) (u := u) (s := W) (by show _ < 10000; omega) ⟨hX, hW, lf_r W⟩
  · obtain ⟨u', ⟨hR, -⟩, e⟩ := hh
    exact ⟨u', e, hR⟩
  · obtain ⟨h1, h2, h3⟩ := hV
    have en := s78_n h3.1
    obtain ⟨v', a, b⟩ := c_fade1_32 h1 h2 (m := i) (by omega)
    obtain ⟨w1, w2⟩ := dFade1_w (tr := 1) (m := i) h2 (by omega)
    exact ⟨v', ⟨a, w1, lf_t h3 w2⟩, b⟩
  · obtain ⟨h1, h2, h3⟩ := hV
    have en := s78_n h3.1
    show FX3_fade_32_b2 _ _ _ = _
    unfold FX3_fade_32_b2
    rw [gmen h1.1, (OkT_n h2.1).1, en, two_ends _ _ (yle (by omega))]
/-! the end of a day of war -/
def dE1 (W : Wt) : Wt := if sWt W (sKn W 0) < W 79 ∨ sWt W (sKn W 1) < W 79 then upd W 1 0 else W
def dBack1 (tr : Int32) (m : Nat) (W : Wt) : Wt := if W (40 + m) = 2 ∧ W 81 ≤ W 0 - W (64 + m) then dNote tr 5 (nI m) 0 (upd W (40 + m) 0) else W
def dBack (tr : Int32) (W : Wt) : Wt := fo (nmen W) (dBack1 tr) W
def dHome (W : Wt) : Wt := fo (nmen W) (fun m V => upd V (40 + m) 0) W
def dEnds (tr : Int32) (W : Wt) : Wt := if dBack tr (dE1 W) 1 = 1 then dBack tr (dE1 W) else dNote tr 4 (-1) 0 (dHome (dBack tr (dE1 W)))
theorem dE1_w {W : Wt} (hW : WO W) : WO (dE1 W) ∧ lf W (dE1 W) := by
  unfold dE1
  split
  · exact ⟨WO_u hW (s78_u (by omega)) (OkD_uwar hW.2.1), lf_u (by omega)⟩
  · exact ⟨hW, lf_r W⟩
theorem WO_home {W : Wt} (hW : WO W) {m : Nat} (hm : m < 12) : WO (upd W (40 + m) 0) := WO_u hW (s78_u (by omega)) (OkD_uwh hW.2.1 hm ⟨0, by omega, rfl⟩ (Or.inr rfl))
theorem dBack1_w {tr : Int32} {m : Nat} {W : Wt} (hW : WO W) (hm : m < 12) : WO (dBack1 tr m W) ∧ lf W (dBack1 tr m W) := by
  unfold dBack1
  split
  · have h1 := WO_home hW hm
    exact ⟨WO_note h1, lf_t (lf_u (by omega)) (lf_note h1.2.1)⟩
  · exact ⟨hW, lf_r W⟩
theorem dBack_w {tr : Int32} {W : Wt} (hW : WO W) : WO (dBack tr W) ∧ lf W (dBack tr W) := fo_lf (fun m W => dBack1_w) hW _ (OkT_n hW.1).2
theorem dHome_w {W : Wt} (hW : WO W) : WO (dHome W) ∧ lf W (dHome W) := fo_lf (fun m W h hm => ⟨WO_home h hm, lf_u (by omega)⟩) hW _ (OkT_n hW.1).2
theorem dEnds_w {tr : Int32} {W : Wt} (hW : WO W) : WO (dEnds tr W) ∧ lf W (dEnds tr W) := by
  obtain ⟨a1, b1⟩ := dE1_w hW
  obtain ⟨a2, b2⟩ := dBack_w (tr := tr) a1
  unfold dEnds
  split
  · exact ⟨a2, lf_t b1 b2⟩
  · obtain ⟨a3, b3⟩ := dHome_w a2
    exact ⟨WO_note a3, lf_t (lf_t b1 b2) (lf_t b3 (lf_note a3.2.1))⟩
theorem m_forg {u : Mem} {W : Wt} (hu : u 147 = W) (hT : OkT W) (c : Int32) : FX12_isForgotten_146 c u = some (if sWt W (sKn W c) < W 79 then 1 else 0) := by
  unfold FX12_isForgotten_146
  rw [m_known hu hT, b_some, m_wt hu hT, b_some, hu]
  by_cases q : sWt W (sKn W c) < W 79
  · rw [if_pos q, if_neg (by rw [Int32.not_le]; exact q)]
  · rw [if_neg q, if_pos (by rw [← Int32.not_lt]; exact q)]
theorem m_back1 {M : Wt} {u : Mem} {W : Wt} (hM : MR M u W) (hW : WO W) {m : Nat} (hm : m < 12) : ∃ u', FX12_comesBack_146 (nI m) u = some u' ∧ MR M u' (dBack1 (M 28) m W) := by
  unfold FX12_comesBack_146 dBack1
  rw [rl (by show 40 + m < _; omega) (by omega), rl (by show 64 + m < _; omega) (by omega), wl (by show 40 + m < _; omega) (by omega), hM.1]
  show ∃ u', (if W (40 + m) = 2 then (if W 81 ≤ W 0 - W (64 + m) then ((FX12_notes_146 5 (nI m) 0 (mupd u 147 (40 + m) 0)).bind fun u7 => some u7) else some u) else some u) = some u' ∧ _
  by_cases c1 : W (40 + m) = 2
  · by_cases c2 : W 81 ≤ W 0 - W (64 + m)
    · rw [if_pos c1, if_pos c2, if_pos ⟨c1, c2⟩]
      obtain ⟨u2, g2, h2⟩ := m_note (MR_u hM (40 + m) 0) (WO_home hW hm) 5 (nI m) 0
      exact ⟨u2, by rw [g2]; rfl, h2⟩
    · rw [if_pos c1, if_neg c2, if_neg (fun h => c2 h.2)]; exact ⟨u, rfl, hM⟩
  · rw [if_neg c1, if_neg (fun h => c1 h.1)]; exact ⟨u, rfl, hM⟩
theorem m_ends {M : Wt} {u : Mem} {W : Wt} (hM : MR M u W) (hW : WO W) : ∃ u', FX12_ends_146 u = some u' ∧ MR M u' (dEnds (M 28) W) := by
  have tail : ∀ v V, MR M v V → WO V → ∃ u', FX12_ends_146_b23 v = some u' ∧ MR M u' (if dBack (M 28) V 1 = 1 then dBack (M 28) V else dNote (M 28) 4 (-1) 0 (dHome (dBack (M 28) V))) := by
    intro v V hv hV
    obtain ⟨hn, hn12⟩ := OkT_n hV.1
    have hh := lp_w (fun F i u => FX12_ends_146_L25 F i u) (nmen V) (fun u V' => MR M u V' ∧ WO V' ∧ lf V V') (dBack1 (M 28)) (fun u => if u 147 1 = 1 then some u else FX12_ends_146_L60 FU 0 u) (fun i w V' hi hV' => ?_) (fun w V' F hV' => ?_) (F := FU) (u := v) (s := V) (by show _ < 10000; omega) ⟨hv, hV, lf_r V⟩
    · obtain ⟨u', ⟨hR, hW', hl⟩, e⟩ := hh
      unfold FX12_ends_146_b23
      rw [e, hR.1]
      show ∃ u'', (if dBack (M 28) V 1 = 1 then some u' else FX12_ends_146_L60 FU 0 u') = _ ∧ _
      by_cases c : dBack (M 28) V 1 = 1
      · rw [if_pos c, if_pos c]; exact ⟨u', rfl, hR⟩
      · rw [if_neg c, if_neg c]
        have hR : MR M u' (dBack (M 28) V) := hR
        have hW' : WO (dBack (M 28) V) := hW'
        obtain ⟨hn2, hn212⟩ := OkT_n hW'.1
        have h3 := lp_w (fun F i u => FX12_ends_146_L60 F i u) (nmen (dBack (M 28) V)) (fun u V' => MR M u V' ∧ WO V' ∧ lf (dBack (M 28) V) V') (fun m V' => upd V' (40 + m) 0) (fun u => (FX12_notes_146 4 (-1) 0 u).bind fun u3 => some u3) (fun i w V' hi hV' => ?_) (fun w V' F hV' => ?_) (F := FU) (u := u') (s := dBack (M 28) V) (by show _ < 10000; omega) ⟨hR, hW', lf_r _⟩
        · obtain ⟨u2, ⟨hR2, hW2, -⟩, e2⟩ := h3
          rw [e2]
          obtain ⟨u3, g3, hR3⟩ := m_note hR2 hW2 4 (-1) 0
          exact ⟨u3, by rw [g3]; rfl, hR3⟩
        · obtain ⟨q1, q2, q3⟩ := hV'
          have en := s78_n q3.1
          refine ⟨_, ⟨MR_u q1 (40 + i) 0, WO_home q2 (by omega), lf_t q3 (lf_u (by omega))⟩, fun F => ?_⟩
          show FX12_ends_146_b60 _ _ _ = _
          unfold FX12_ends_146_b60
          rw [q1.1, (OkT_n q2.1).1, en, if_neg (nle hi (by omega)), wl (by show 40 + i < _; omega) (by omega), nI_1]
        · obtain ⟨q1, q2, q3⟩ := hV'
          have en := s78_n q3.1
          show FX12_ends_146_b60 _ _ _ = _
          unfold FX12_ends_146_b60
          rw [q1.1, (OkT_n q2.1).1, en, if_pos (yle (by omega))]
    · obtain ⟨q1, q2, q3⟩ := hV'
      have en := s78_n q3.1
      obtain ⟨w', g, a⟩ := m_back1 q1 q2 (m := i) (by omega)
      obtain ⟨w1, w2⟩ := dBack1_w (tr := M 28) (m := i) q2 (by omega)
      refine ⟨w', ⟨a, w1, lf_t q3 w2⟩, fun F => ?_⟩
      show FX12_ends_146_b25 _ _ _ = _
      unfold FX12_ends_146_b25
      rw [q1.1, (OkT_n q2.1).1, en, if_neg (nle hi (by omega)), g, b_some, nI_1]
    · obtain ⟨q1, q2, q3⟩ := hV'
      have en := s78_n q3.1
      show FX12_ends_146_b25 _ _ _ = _
      unfold FX12_ends_146_b25
      rw [q1.1, (OkT_n q2.1).1, en, if_pos (yle (by omega))]
  unfold FX12_ends_146 FX12_ends_146_b16 dEnds
  rw [m_forg hM.1 hW.1, b_some, m_forg hM.1 hW.1, b_some, b_some]
  obtain ⟨w1, -⟩ := dE1_w hW
  unfold dE1 at w1 ⊢
  by_cases c0 : sWt W (sKn W 0) < W 79
  · rw [if_pos (Or.inl c0)] at w1 ⊢
    rw [if_pos c0, if_neg z1]
    exact tail _ _ (MR_u hM 1 0) w1
  · by_cases c1 : sWt W (sKn W 1) < W 79
    · rw [if_pos (Or.inr c1)] at w1 ⊢
      rw [if_neg c0, if_pos rfl, if_pos c1, if_neg z1]
      exact tail _ _ (MR_u hM 1 0) w1
    · have nn : ¬ (sWt W (sKn W 0) < W 79 ∨ sWt W (sKn W 1) < W 79) := fun h => h.elim c0 c1
      rw [if_neg nn] at w1 ⊢
      rw [if_neg c0, if_pos rfl, if_neg c1, if_pos rfl]
      exact tail _ _ hM w1

