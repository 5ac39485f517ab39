/-! who is called -/
theorem XR_fa32 {fa md : Int32} {B : Wt} {u : Mem} {W : Wt} (h : XR_32 fa md B u W) : u 32 5 = fa := h.2.2.2
theorem XR_fa104 {fa md : Int32} {B : Wt} {u : Mem} {W : Wt} (h : XR_104 fa md B u W) : u 104 5 = fa := h.2.2.1
def dEnd (c : Int32) : Int32 := if c = 0 then 0 else 15
theorem c_end (c : Int32) : FX11_endOf c = some (dEnd c) := by
  unfold FX11_endOf dEnd; split <;> rfl
theorem m_end (c : Int32) : FX12_endOf c = some (dEnd c) := by
  unfold FX12_endOf dEnd; split <;> rfl
theorem dEnd_n (c : Int32) : ∃ j, j < 16 ∧ dEnd c = nI j := by
  unfold dEnd
  split
  · exact ⟨0, by omega, rfl⟩
  · exact ⟨15, by omega, rfl⟩
theorem dCall_n (fa : Int32) (W : Wt) (m : Nat) : ∃ j, j ≤ 120 ∧ dCall fa W m = nI j := by
  unfold dCall
  split
  · exact dAsk_n W (w := 0) (by omega) m
  · exact ⟨0, by omega, rfl⟩
def better (fa : Int32) (W : Wt) (i : Nat) (b : Int32) : Prop := b = -1 ∨ dCall fa W (nt b) < dCall fa W i ∨ (dCall fa W i = dCall fa W (nt b) ∧ W (102 + nt b) < W (102 + i))
def isBetter (fa : Int32) (W : Wt) (i : Nat) (b : Int32) : Bool := decide (b = -1 ∨ dCall fa W (nt b) < dCall fa W i ∨ (dCall fa W i = dCall fa W (nt b) ∧ W (102 + nt b) < W (102 + i)))
theorem isB {fa : Int32} {W : Wt} {i : Nat} {b : Int32} : (isBetter fa W i b = true) = better fa W i b := by unfold isBetter better; rw [decide_eq_true_eq]
def bst (fa : Int32) (W : Wt) (c : Int32) : Nat → Int32
  | 0 => -1
  | i + 1 => if W (90 + i) = c ∧ W (40 + i) = 0 ∧ 0 < dCall fa W i ∧ isBetter fa W i (bst fa W c i) = true then nI i else bst fa W c i
theorem bst_ok (fa : Int32) (W : Wt) (c : Int32) : ∀ i, bst fa W c i = -1 ∨ ∃ k, k < i ∧ bst fa W c i = nI k ∧ W (90 + k) = c ∧ W (40 + k) = 0 ∧ 0 < dCall fa W k := by
  intro i
  induction i with
  | zero => exact Or.inl rfl
  | succ i ih =>
    unfold bst
    by_cases h : W (90 + i) = c ∧ W (40 + i) = 0 ∧ 0 < dCall fa W i ∧ isBetter fa W i (bst fa W c i) = true
    · rw [if_pos h]; exact Or.inr ⟨i, by omega, rfl, h.1, h.2.1, h.2.2.1⟩
    · rw [if_neg h]
      rcases ih with e | ⟨k, hk, r⟩
      · exact Or.inl e
      · exact Or.inr ⟨k, by omega, r⟩
def dCalls (fa tr c : Int32) (W : Wt) : Wt := if bst fa W c (nmen W) = -1 then W else dNote tr 0 (bst fa W c (nmen W)) (dEnd c) (upd (upd W (40 + nt (bst fa W c (nmen W))) 1) (52 + nt (bst fa W c (nmen W))) (dEnd c))
theorem nI_subI {a b : Nat} (ha : a < 1000000) (hb : b < 1000000) : (nI a - nI b).toInt = (a : Int) - (b : Int) := by
  rw [Int32.toInt_sub, nI_toInt (by omega), nI_toInt (by omega)]
  apply Int.bmod_eq_of_le <;> omega
theorem sub_pos {a b : Nat} (ha : a < 1000000) (hb : b < 1000000) : (0 < nI a - nI b) = (b < a) := by
  rw [Int32.lt_iff_toInt_lt, nI_subI ha hb]
  have h2 : (0 : Int32).toInt = 0 := by decide
  rw [h2]; apply propext; omega
theorem sub_zero {a b : Nat} (ha : a < 1000000) (hb : b < 1000000) : (nI a - nI b = 0) = (a = b) := by
  apply propext
  constructor
  · intro h
    have h1 := nI_subI ha hb
    rw [h] at h1
    have h2 : (0 : Int32).toInt = 0 := by decide
    omega
  · intro h; rw [h, Int32.sub_self]
theorem m_first {M : Wt} {u : Mem} {W : Wt} (hM : MR M u W) (hW : WO W) {i : Nat} (hi : i < 12) {b : Int32} (hb : b = -1 ∨ ∃ k, k < 12 ∧ b = nI k) : ∃ u', FX12_isCalledFirst_146 (nI i) b u = some (if isBetter (M 27) W i b = true then 1 else 0, u') ∧ MR M u' W := by
  unfold FX12_isCalledFirst_146
  rcases hb with rfl | ⟨k, hk, rfl⟩
  · rw [if_pos rfl, if_pos (by rw [isB]; exact Or.inl rfl)]
    exact ⟨u, rfl, hM⟩
  · rw [if_neg (nI_m1 (by omega))]
    obtain ⟨u1, h1⟩ := m_call hM.1 hW hi
    have hM1 := MR_s hM (frX12_callOf_146 _ _ h1)
    obtain ⟨u2, h2⟩ := m_call hM1.1 hW hk
    have hM2 := MR_s hM1 (frX12_callOf_146 _ _ h2)
    rw [h1, b2_some, h2, b2_some, hM.2, hM1.2]
    obtain ⟨x, hx, ex⟩ := dCall_n (M 27) W i
    obtain ⟨y, hy, ey⟩ := dCall_n (M 27) W k
    have nk : nt (nI k) = k := nt_nI (by omega)
    refine ⟨u2, ?_, hM2⟩
    have p1 := sub_pos (a := x) (b := y) (by omega) (by omega)
    have p2 := sub_zero (a := x) (b := y) (by omega) (by omega)
    simp only [ex, ey, p1, p2]
    by_cases c : y < x
    · rw [if_pos c, if_pos (by rw [isB]; unfold better; rw [nk, ex, ey, nn_lt (by omega) (by omega)]; exact Or.inr (Or.inl c))]
    · rw [if_neg c]
      by_cases c2 : x = y
      · rw [if_pos c2, rl (by show 102 + i < _; omega) (by omega), rl (by show 102 + k < _; omega) (by omega), hM2.1]
        show (if W (102 + i) ≤ W (102 + k) then _ else _) = _
        by_cases c3 : W (102 + k) < W (102 + i)
        · rw [if_neg (by rw [Int32.not_le]; exact c3), if_pos (by rw [isB]; unfold better; rw [nk, ex, ey, c2]; exact Or.inr (Or.inr ⟨rfl, c3⟩))]
        · rw [if_pos (by rw [← Int32.not_lt]; exact c3), if_neg]
          rw [isB]; unfold better; rw [nk, ex, ey, nn_lt (by omega) (by omega)]
          rintro (h | h | ⟨-, h⟩)
          · exact nI_m1 (by omega) h
          · exact c h
          · exact c3 h
      · rw [if_neg c2, if_neg]
        rw [isB]; unfold better; rw [nk, ex, ey, nn_lt (by omega) (by omega), nn_eq (by omega) (by omega)]
        rintro (h | h | ⟨h, -⟩)
        · exact nI_m1 (by omega) h
        · exact c h
        · exact c2 h
theorem m_take {M : Wt} {u : Mem} {W : Wt} (hM : MR M u W) {m : Nat} (hm : m < 12) : ∃ u', FX12_takesField_146 (nI m) u = some u' ∧ MR M u' (upd (upd W (40 + m) 1) (52 + m) (dEnd (W (90 + m)))) := by
  unfold FX12_takesField_146
  rw [wl (by show 40 + m < _; omega) (by omega)]
  have h1 := MR_u hM (40 + m) 1
  rw [rl (by show 90 + m < _; omega) (by omega), m_end, b_some, wl (by show 52 + m < _; omega) (by omega)]
  refine ⟨_, rfl, ?_⟩
  have h2 := MR_u h1 (52 + m) (dEnd (W (90 + m)))
  have e : (mupd u 147 ((OfNat.ofNat 40 : Nat) + m) 1) 147 ((OfNat.ofNat 90 : Nat) + m) = W (90 + m) := by
    show (mupd u 147 (40 + m) 1) 147 (90 + m) = _
    rw [h1.1, up_ne (by omega)]
  rw [e]
  exact h2
theorem m_calls {M : Wt} {u : Mem} {W : Wt} (hM : MR M u W) (hW : WO W) (c : Int32) : ∃ u', FX12_calls_146 c u = some u' ∧ MR M u' (dCalls (M 27) (M 28) c W) := by
  obtain ⟨hn, hn12⟩ := OkT_n hW.1
  have h := lp_r (S := Int32 × Mem) (fun F i s => FX12_calls_146_L4 F c s.1 i s.2) (nmen W) (fun i s => s.1 = bst (M 27) W c i ∧ MR M s.2 W) (fun o => ∃ u', o = some u' ∧ MR M u' (dCalls (M 27) (M 28) c W)) (fun i s hi hI => ?_) (fun s hI F => ?_) FU 0 (-1, u) (by omega) (by show _ < 10000; omega) ⟨rfl, hM⟩
  · rw [nI_0] at h; exact h
  · refine Or.inl ?_
    obtain ⟨b, v⟩ := s
    obtain ⟨hb, hv⟩ := hI
    have hb : b = bst (M 27) W c i := hb
    have hv : MR M v W := hv
    have hn' : v 147 78 = nI (nmen W) := by rw [hv.1]; exact hn
    have start : ∀ F, FX12_calls_146_L4 (F + 1) c b (nI i) v = FX12_calls_146_b4 (FX12_calls_146_L4 F) c b (nI i) v := fun F => rfl
    by_cases c1 : W (90 + i) = c ∧ W (40 + i) = 0
    · obtain ⟨u1, h1⟩ := m_call hv.1 hW (show i < 12 by omega)
      have hM1 := MR_s hv (frX12_callOf_146 _ _ h1)
      rw [hv.2] at h1
      by_cases c2 : 0 < dCall (M 27) W i
      · have hbk : b = -1 ∨ ∃ k, k < 12 ∧ b = nI k := by
          rcases bst_ok (M 27) W c i with e | ⟨k, hk, e, -⟩
          · exact Or.inl (hb.trans e)
          · exact Or.inr ⟨k, by omega, hb.trans e⟩
        obtain ⟨u2, h2, hM2⟩ := m_first hM1 hW (show i < 12 by omega) hbk
        by_cases c3 : isBetter (M 27) W i b = true
        · refine ⟨(nI i, u2), ⟨?_, hM2⟩, fun F => ?_⟩
          · show nI i = bst (M 27) W c (i + 1)
            unfold bst
            rw [← hb, if_pos ⟨c1.1, c1.2, c2, c3⟩]
          · show FX12_calls_146_L4 (F + 1) c b (nI i) v = FX12_calls_146_L4 F c (nI i) (nI (i + 1)) u2
            rw [start]
            unfold FX12_calls_146_b4 FX12_calls_146_b44
            rw [hn', if_neg (nle hi (by omega)), m_isOf hv.1 (by omega), b_some, if_pos c1, if_neg z1, h1, b2_some, if_neg (by rw [Int32.not_le]; exact c2), h2, b2_some, if_pos c3, if_neg z1, nI_1]
        · refine ⟨(b, u2), ⟨?_, hM2⟩, fun F => ?_⟩
          · show b = bst (M 27) W c (i + 1)
            unfold bst
            rw [← hb, if_neg (fun h => c3 h.2.2.2)]
          · show FX12_calls_146_L4 (F + 1) c b (nI i) v = FX12_calls_146_L4 F c b (nI (i + 1)) u2
            rw [start]
            unfold FX12_calls_146_b4 FX12_calls_146_b44
            rw [hn', if_neg (nle hi (by omega)), m_isOf hv.1 (by omega), b_some, if_pos c1, if_neg z1, h1, b2_some, if_neg (by rw [Int32.not_le]; exact c2), h2, b2_some, if_neg c3, if_pos rfl, nI_1]
      · refine ⟨(b, u1), ⟨?_, hM1⟩, fun F => ?_⟩
        · show b = bst (M 27) W c (i + 1)
          unfold bst
          rw [← hb, if_neg (fun h => c2 h.2.2.1)]
        · show FX12_calls_146_L4 (F + 1) c b (nI i) v = FX12_calls_146_L4 F c b (nI (i + 1)) u1
          rw [start]
          unfold FX12_calls_146_b4 FX12_calls_146_b44
          rw [hn', if_neg (nle hi (by omega)), m_isOf hv.1 (by omega), b_some, if_pos c1, if_neg z1, h1, b2_some, if_pos (by rw [← Int32.not_lt]; exact c2), nI_1]
    · refine ⟨(b, v), ⟨?_, hv⟩, fun F => ?_⟩
      · show b = bst (M 27) W c (i + 1)
        unfold bst
        rw [← hb, if_neg (fun h => c1 ⟨h.1, h.2.1⟩)]
      · show FX12_calls_146_L4 (F + 1) c b (nI i) v = FX12_calls_146_L4 F c b (nI (i + 1)) v
        rw [start]
        unfold FX12_calls_146_b4 FX12_calls_146_b44
        rw [hn', if_neg (nle hi (by omega)), m_isOf hv.1 (by omega), b_some, if_neg c1, if_pos rfl, nI_1]
  · obtain ⟨b, v⟩ := s
    obtain ⟨hb, hv⟩ := hI
    have hb : b = bst (M 27) W c (nmen W) := hb
    have hv : MR M v W := hv
    have hn' : v 147 78 = nI (nmen W) := by rw [hv.1]; exact hn
    show ∃ u', FX12_calls_146_b4 (FX12_calls_146_L4 F) c b (nI (nmen W)) v = some u' ∧ _
    unfold FX12_calls_146_b4 dCalls
    rw [hn', if_pos (yle (by omega)), ← hb]
    by_cases c0 : b = -1
    · rw [if_pos c0, if_pos c0]; exact ⟨v, rfl, hv⟩
    · rw [if_neg c0, if_neg c0]
      rcases bst_ok (M 27) W c (nmen W) with e | ⟨k, hk, e, ec, -⟩
      · exact absurd (hb.trans e) c0
      · have eb : b = nI k := hb.trans e
        obtain ⟨u1, h1, hM1⟩ := m_take hv (m := k) (by omega)
        rw [ec] at hM1
        have hW1 : WO (upd (upd W (40 + k) 1) (52 + k) (dEnd c)) := WO_u hW (s78_t (s78_u (by omega)) (s78_u (by omega))) (OkD_uce (OkD_uwh hW.2.1 (by omega) ⟨1, by omega, rfl⟩ (Or.inl hk)) (by omega) (dEnd_n c))
        obtain ⟨u2, h2, hM2⟩ := m_note hM1 hW1 0 (nI k) (dEnd c)
        refine ⟨u2, ?_, by rw [eb, nt_nI (by omega)]; exact hM2⟩
        rw [eb, h1, b_some, rl (by show 52 + k < _; omega) (by omega), hM1.1]
        show (FX12_notes_146 0 (nI k) (upd (upd W (40 + k) 1) (52 + k) (dEnd c) (52 + k)) u1).bind _ = _
        rw [up_eq, h2]
        rfl
theorem c_calls_32 {fa md : Int32} {B : Wt} {u : Mem} {W : Wt} (hX : XR_32 fa md B u W) (hW : WO W) (c : Int32) : ∃ u', FX3_callUp_32_L32 FU c (-1) 0 0 u = some u' ∧ XR_32 fa md B u' (dCalls fa 1 c W) := by
  obtain ⟨hn, hn12⟩ := OkT_n hW.1
  have h := lp_r (S := (Int32 × Int32) × Mem) (fun F i s => FX3_callUp_32_L32 F c s.1.1 s.1.2 i s.2) (nmen W) (fun i s => s.1.1 = bst fa W c i ∧ s.1.2 = (if bst fa W c i = -1 then 0 else dCall fa W (nt (bst fa W c i))) ∧ XR_32 fa md B s.2 W) (fun o => ∃ u', o = some u' ∧ XR_32 fa md B u' (dCalls fa 1 c W)) (fun i s hi hI => ?_) (fun s hI F => ?_) FU 0 ((-1, 0), u) (by omega) (by show _ < 10000; omega) ⟨rfl, rfl, hX⟩
  · rw [nI_0] at h; exact h
  · refine Or.inl ?_
    obtain ⟨⟨b, q⟩, v⟩ := s
    obtain ⟨hb, hq, hv⟩ := hI
    have hb : b = bst fa W c i := hb
    have hq : q = (if bst fa W c i = -1 then 0 else dCall fa W (nt (bst fa W c i))) := hq
    have hv : XR_32 fa md B v W := hv
    have hi12 : i < 12 := by omega
    have hn' : v 1 0 = nI (nmen W) := (gmen hv.1).trans hn
    have start : ∀ F, FX3_callUp_32_L32 (F + 1) c b q (nI i) v = FX3_callUp_32_b32 (FX3_callUp_32_L32 F) c b q (nI i) v := fun F => rfl
    have skip : ∀ v', XR_32 fa md B v' W → ¬ (W (90 + i) = c ∧ W (40 + i) = 0 ∧ 0 < dCall fa W i ∧ isBetter fa W i b = true) → (∀ F, FX3_callUp_32_b32 (FX3_callUp_32_L32 F) c b q (nI i) v = FX3_callUp_32_L32 F c b q (nI (i + 1)) v') → ∃ s' : (Int32 × Int32) × Mem, (s'.1.1 = bst fa W c (i + 1) ∧ s'.1.2 = (if bst fa W c (i + 1) = -1 then 0 else dCall fa W (nt (bst fa W c (i + 1)))) ∧ XR_32 fa md B s'.2 W) ∧ ∀ F, FX3_callUp_32_L32 (F + 1) c b q (nI i) v = FX3_callUp_32_L32 F c s'.1.1 s'.1.2 (nI (i + 1)) s'.2 := by
      intro v' hv' hneg he
      have e1 : bst fa W c (i + 1) = bst fa W c i := by
        rw [hb] at hneg
        show (if _ then _ else _) = _
        rw [if_neg hneg]
      exact ⟨((b, q), v'), ⟨hb.trans e1.symm, by rw [e1]; exact hq, hv'⟩, fun F => (start F).trans (he F)⟩
    by_cases c1 : W (90 + i) = c
    · by_cases c2 : W (40 + i) = 0
      · by_cases c3 : fa ≤ W (102 + i)
        · obtain ⟨u1, h1⟩ := c_asked_32 hv.1 hW hi (w := 0) (by omega)
          have hv1 := XR_s32 hv (frX3_asked_32 _ _ _ h1)
          have ed : dAsk W 0 i = dCall fa W i := by unfold dCall; rw [if_pos c3]
          rw [ed, nI_0] at h1
          obtain ⟨x, hx, ex⟩ := dCall_n fa W i
          have common : ∀ F, FX3_callUp_32_b32 (FX3_callUp_32_L32 F) c b q (nI i) v = (if b = (-1) then (FX3_callUp_32_b139 (FX3_callUp_32_L32 F) c b q (nI i) (dCall fa W i) 0 u1) else ((rdA u1 3 12 (nI i)).bind fun x12 => (rdA u1 3 12 b).bind fun x13 => (if x12 ≤ x13 then (FX3_callUp_32_b139 (FX3_callUp_32_L32 F) c b q (nI i) (dCall fa W i) 0 u1) else (FX3_callUp_32_b139 (FX3_callUp_32_L32 F) c b q (nI i) (dCall fa W i) 1 u1)))) := by
            intro F
            unfold FX3_callUp_32_b32
            rw [if_neg (n12 hi12), hn', if_neg (nle hi (by omega)), rb hi12 (by omega), gco hv.1 hi12, if_pos c1, rb hi12 (by omega), gwh_23 hv.1 hi12, if_pos c2, rb hi12 (by omega), gag hv.1 hi12, XR_fa32 hv, if_pos c3, h1, b2_some]
          have take : isBetter fa W i b = true → 0 < dCall fa W i → (∀ F, FX3_callUp_32_b32 (FX3_callUp_32_L32 F) c b q (nI i) v = FX3_callUp_32_L32 F c (nI i) (dCall fa W i) (nI (i + 1)) u1) → ∃ s' : (Int32 × Int32) × Mem, (s'.1.1 = bst fa W c (i + 1) ∧ s'.1.2 = (if bst fa W c (i + 1) = -1 then 0 else dCall fa W (nt (bst fa W c (i + 1)))) ∧ XR_32 fa md B s'.2 W) ∧ ∀ F, FX3_callUp_32_L32 (F + 1) c b q (nI i) v = FX3_callUp_32_L32 F c s'.1.1 s'.1.2 (nI (i + 1)) s'.2 := by
            intro hbt hpos he
            have e1 : bst fa W c (i + 1) = nI i := by
              rw [hb] at hbt
              show (if _ then _ else _) = _
              rw [if_pos ⟨c1, c2, hpos, hbt⟩]
            exact ⟨((nI i, dCall fa W i), u1), ⟨e1.symm, by rw [e1, if_neg (nI_m1 (by omega)), nt_nI (by omega)], hv1⟩, fun F => (start F).trans (he F)⟩
          rcases bst_ok fa W c i with e | ⟨k, hk, e, ek1, ek2, ek3⟩
          · have eb : b = -1 := hb.trans e
            have eq : q = 0 := by rw [hq, if_pos e]
            by_cases c4 : 0 < dCall fa W i
            · refine take (by rw [isB]; exact Or.inl eb) c4 (fun F => ?_)
              rw [common, if_pos eb]
              unfold FX3_callUp_32_b139 FX3_callUp_32_b163 FX3_callUp_32_b169
              rw [eq, if_pos c4, nI_1]
            · refine skip u1 hv1 (fun h => c4 h.2.2.1) (fun F => ?_)
              rw [common, if_pos eb]
              unfold FX3_callUp_32_b139 FX3_callUp_32_b169
              rw [eq, if_neg c4, if_pos eb, nI_1]
          · have eb : b = nI k := hb.trans e
            have nb : ¬ b = -1 := by rw [eb]; exact nI_m1 (by omega)
            have nk : nt b = k := by rw [eb]; exact nt_nI (by omega)
            have eq : q = dCall fa W k := by rw [hq, if_neg (by rw [e]; exact nI_m1 (by omega)), e, nt_nI (by omega)]
            obtain ⟨y, hy, ey⟩ := dCall_n fa W k
            have k12 : k < 12 := by omega
            by_cases c4 : q < dCall fa W i
            · have hpos : 0 < dCall fa W i := by
                rw [eq] at c4
                exact Int32.lt_trans ek3 c4
              refine take (by rw [isB]; unfold better; rw [nk, ← eq]; exact Or.inr (Or.inl c4)) hpos (fun F => ?_)
              rw [common, if_neg nb, rb hi12 (by omega), eb, rb k12 (by omega)]
              unfold FX3_callUp_32_b139 FX3_callUp_32_b163 FX3_callUp_32_b169
              rw [if_pos c4, if_pos c4, nI_1]
              split <;> rfl
            · by_cases c5 : dCall fa W i = q
              · by_cases c6 : W (102 + k) < W (102 + i)
                · have hpos : 0 < dCall fa W i := by rw [c5, eq]; exact ek3
                  refine take (by rw [isB]; unfold better; rw [nk, ← eq]; exact Or.inr (Or.inr ⟨c5, c6⟩)) hpos (fun F => ?_)
                  rw [common, if_neg nb, rb hi12 (by omega), eb, rb k12 (by omega), gag hv1.1 hi12, gag hv1.1 k12, if_neg (by rw [Int32.not_le]; exact c6)]
                  unfold FX3_callUp_32_b139 FX3_callUp_32_b163 FX3_callUp_32_b169
                  rw [if_neg c4, if_neg (by rw [← eb]; exact nb), if_pos c5, if_neg z1, nI_1]
                · refine skip u1 hv1 ?_ (fun F => ?_)
                  · rintro ⟨-, -, -, h⟩
                    rw [isB] at h; unfold better at h; rw [nk, ← eq] at h
                    rcases h with h | h | ⟨-, h⟩
                    · exact nb h
                    · exact c4 h
                    · exact c6 h
                  · rw [common, if_neg nb, rb hi12 (by omega), eb, rb k12 (by omega), gag hv1.1 hi12, gag hv1.1 k12, if_pos (by rw [← Int32.not_lt]; exact c6)]
                    unfold FX3_callUp_32_b139 FX3_callUp_32_b169
                    rw [if_neg c4, if_neg (by rw [← eb]; exact nb), if_pos c5, if_pos rfl, nI_1]
              · refine skip u1 hv1 ?_ (fun F => ?_)
                · rintro ⟨-, -, -, h⟩
                  rw [isB] at h; unfold better at h; rw [nk, ← eq] at h
                  rcases h with h | h | ⟨h, -⟩
                  · exact nb h
                  · exact c4 h
                  · exact c5 h
                · rw [common, if_neg nb, rb hi12 (by omega), eb, rb k12 (by omega)]
                  unfold FX3_callUp_32_b139 FX3_callUp_32_b169
                  simp only [if_neg c4, if_neg (show ¬ nI k = -1 from nI_m1 (by omega)), if_neg c5, ite_self, nI_1]
        · refine skip v hv (fun h => ?_) (fun F => ?_)
          · have := h.2.2.1
            unfold dCall at this
            rw [if_neg c3] at this
            exact absurd this (by decide)
          · unfold FX3_callUp_32_b32 FX3_callUp_32_b169
            rw [if_neg (n12 hi12), hn', if_neg (nle hi (by omega)), rb hi12 (by omega), gco hv.1 hi12, if_pos c1, rb hi12 (by omega), gwh_23 hv.1 hi12, if_pos c2, rb hi12 (by omega), gag hv.1 hi12, XR_fa32 hv, if_neg c3, nI_1]
      · refine skip v hv (fun h => c2 h.2.1) (fun F => ?_)
        unfold FX3_callUp_32_b32 FX3_callUp_32_b169
        rw [if_neg (n12 hi12), hn', if_neg (nle hi (by omega)), rb hi12 (by omega), gco hv.1 hi12, if_pos c1, rb hi12 (by omega), gwh_23 hv.1 hi12, if_neg c2, nI_1]
    · refine skip v hv (fun h => c1 h.1) (fun F => ?_)
      unfold FX3_callUp_32_b32 FX3_callUp_32_b169
      rw [if_neg (n12 hi12), hn', if_neg (nle hi (by omega)), rb hi12 (by omega), gco hv.1 hi12, if_neg c1, nI_1]
  · obtain ⟨⟨b, q⟩, v⟩ := s
    obtain ⟨hb, hq, hv⟩ := hI
    have hb : b = bst fa W c (nmen W) := hb
    have hv : XR_32 fa md B v W := hv
    have hn' : v 1 0 = nI (nmen W) := (gmen hv.1).trans hn
    show ∃ u', FX3_callUp_32_b32 (FX3_callUp_32_L32 F) c b q (nI (nmen W)) v = some u' ∧ _
    unfold FX3_callUp_32_b32 dCalls
    rw [hn', two_ends _ _ (yle (by omega)), ← hb]
    unfold FX3_callUp_32_b175
    by_cases c0 : b = -1
    · rw [if_pos c0, if_pos c0]; exact ⟨v, rfl, hv⟩
    · rw [if_neg c0, if_neg c0]
      rcases bst_ok fa W c (nmen W) with e | ⟨k, hk, e, ec, -⟩
      · exact absurd (hb.trans e) c0
      · have eb : b = nI k := hb.trans e
        have k12 : k < 12 := by omega
        have hX1 := XR_u32 hv hW.1 (j := 3) (by omega) k12 1
        have hW1 : WO (upd W (40 + k) 1) := WO_u hW (s78_u (by omega)) (OkD_uwh hW.2.1 k12 ⟨1, by omega, rfl⟩ (Or.inl hk))
        have hX2 := XR_u32 hX1 hW1.1 (j := 4) (by omega) k12 (dEnd c)
        have hW2 : WO (upd (upd W (40 + k) 1) (52 + k) (dEnd c)) := WO_u hW1 (s78_u (by omega)) (OkD_uce hW1.2.1 k12 (dEnd_n c))
        obtain ⟨u2, h2, hM2⟩ := c_note_32 hX2 hW2 0 (nI k) (dEnd c)
        refine ⟨u2, ?_, by rw [eb, nt_nI (by omega)]; exact hM2⟩
        rw [eb, wb k12 (by omega), c_end, b_some, wb k12 (by omega), b_some]
        show (FX3_note_32 0 (nI k) (dEnd c) (mupd (mupd v 27 k 1) 28 k (dEnd c))).bind _ = _
        rw [h2]
        rfl
theorem c_calls_104 {fa md : Int32} {B : Wt} {u : Mem} {W : Wt} (hX : XR_104 fa md B u W) (hW : WO W) (c : Int32) : ∃ u', FX3_callUp_104_L32 FU c (-1) 0 0 u = some u' ∧ XR_104 fa md B u' (dCalls fa 0 c W) := by
  obtain ⟨hn, hn12⟩ := OkT_n hW.1
  have h := lp_r (S := (Int32 × Int32) × Mem) (fun F i s => FX3_callUp_104_L32 F c s.1.1 s.1.2 i s.2) (nmen W) (fun i s => s.1.1 = bst fa W c i ∧ s.1.2 = (if bst fa W c i = -1 then 0 else dCall fa W (nt (bst fa W c i))) ∧ XR_104 fa md B s.2 W) (fun o => ∃ u', o = some u' ∧ XR_104 fa md B u' (dCalls fa 0 c W)) (fun i s hi hI => ?_) (fun s hI F => ?_) FU 0 ((-1, 0), u) (by omega) (by show _ < 10000; omega) ⟨rfl, rfl, hX⟩
  · rw [nI_0] at h; exact h
  · refine Or.inl ?_
    obtain ⟨⟨b, q⟩, v⟩ := s
    obtain ⟨hb, hq, hv⟩ := hI
    have hb : b = bst fa W c i := hb
    have hq : q = (if bst fa W c i = -1 then 0 else dCall fa W (nt (bst fa W c i))) := hq
    have hv : XR_104 fa md B v W := hv
    have hi12 : i < 12 := by omega
    have hn' : v 1 0 = nI (nmen W) := (gmen hv.1).trans hn
    have start : ∀ F, FX3_callUp_104_L32 (F + 1) c b q (nI i) v = FX3_callUp_104_b32 (FX3_callUp_104_L32 F) c b q (nI i) v := fun F => rfl
    have skip : ∀ v', XR_104 fa md B v' W → ¬ (W (90 + i) = c ∧ W (40 + i) = 0 ∧ 0 < dCall fa W i ∧ isBetter fa W i b = true) → (∀ F, FX3_callUp_104_b32 (FX3_callUp_104_L32 F) c b q (nI i) v = FX3_callUp_104_L32 F c b q (nI (i + 1)) v') → ∃ s' : (Int32 × Int32) × Mem, (s'.1.1 = bst fa W c (i + 1) ∧ s'.1.2 = (if bst fa W c (i + 1) = -1 then 0 else dCall fa W (nt (bst fa W c (i + 1)))) ∧ XR_104 fa md B s'.2 W) ∧ ∀ F, FX3_callUp_104_L32 (F + 1) c b q (nI i) v = FX3_callUp_104_L32 F c s'.1.1 s'.1.2 (nI (i + 1)) s'.2 := by
      intro v' hv' hneg he
      have e1 : bst fa W c (i + 1) = bst fa W c i := by
        rw [hb] at hneg
        show (if _ then _ else _) = _
        rw [if_neg hneg]
      exact ⟨((b, q), v'), ⟨hb.trans e1.symm, by rw [e1]; exact hq, hv'⟩, fun F => (start F).trans (he F)⟩
    by_cases c1 : W (90 + i) = c
    · by_cases c2 : W (40 + i) = 0
      · by_cases c3 : fa ≤ W (102 + i)
        · obtain ⟨u1, h1⟩ := c_asked_104 hv.1 hW hi (w := 0) (by omega)
          have hv1 := XR_s104 hv (frX3_asked_104 _ _ _ h1)
          have ed : dAsk W 0 i = dCall fa W i := by unfold dCall; rw [if_pos c3]
          rw [ed, nI_0] at h1
          obtain ⟨x, hx, ex⟩ := dCall_n fa W i
          have common : ∀ F, FX3_callUp_104_b32 (FX3_callUp_104_L32 F) c b q (nI i) v = (if b = (-1) then (FX3_callUp_104_b139 (FX3_callUp_104_L32 F) c b q (nI i) (dCall fa W i) 0 u1) else ((rdA u1 3 12 (nI i)).bind fun x12 => (rdA u1 3 12 b).bind fun x13 => (if x12 ≤ x13 then (FX3_callUp_104_b139 (FX3_callUp_104_L32 F) c b q (nI i) (dCall fa W i) 0 u1) else (FX3_callUp_104_b139 (FX3_callUp_104_L32 F) c b q (nI i) (dCall fa W i) 1 u1)))) := by
            intro F
            unfold FX3_callUp_104_b32
            rw [if_neg (n12 hi12), hn', if_neg (nle hi (by omega)), rb hi12 (by omega), gco hv.1 hi12, if_pos c1, rb hi12 (by omega), gwh_97 hv.1 hi12, if_pos c2, rb hi12 (by omega), gag hv.1 hi12, XR_fa104 hv, if_pos c3, h1, b2_some]
          have take : isBetter fa W i b = true → 0 < dCall fa W i → (∀ F, FX3_callUp_104_b32 (FX3_callUp_104_L32 F) c b q (nI i) v = FX3_callUp_104_L32 F c (nI i) (dCall fa W i) (nI (i + 1)) u1) → ∃ s' : (Int32 × Int32) × Mem, (s'.1.1 = bst fa W c (i + 1) ∧ s'.1.2 = (if bst fa W c (i + 1) = -1 then 0 else dCall fa W (nt (bst fa W c (i + 1)))) ∧ XR_104 fa md B s'.2 W) ∧ ∀ F, FX3_callUp_104_L32 (F + 1) c b q (nI i) v = FX3_callUp_104_L32 F c s'.1.1 s'.1.2 (nI (i + 1)) s'.2 := by
            intro hbt hpos he
            have e1 : bst fa W c (i + 1) = nI i := by
              rw [hb] at hbt
              show (if _ then _ else _) = _
              rw [if_pos ⟨c1, c2, hpos, hbt⟩]
            exact ⟨((nI i, dCall fa W i), u1), ⟨e1.symm, by rw [e1, if_neg (nI_m1 (by omega)), nt_nI (by omega)], hv1⟩, fun F => (start F).trans (he F)⟩
          rcases bst_ok fa W c i with e | ⟨k, hk, e, ek1, ek2, ek3⟩
          · have eb : b = -1 := hb.trans e
            have eq : q = 0 := by rw [hq, if_pos e]
            by_cases c4 : 0 < dCall fa W i
            · refine take (by rw [isB]; exact Or.inl eb) c4 (fun F => ?_)
              rw [common, if_pos eb]
              unfold FX3_callUp_104_b139 FX3_callUp_104_b163 FX3_callUp_104_b169
              rw [eq, if_pos c4, nI_1]
            · refine skip u1 hv1 (fun h => c4 h.2.2.1) (fun F => ?_)
              rw [common, if_pos eb]
              unfold FX3_callUp_104_b139 FX3_callUp_104_b169
              rw [eq, if_neg c4, if_pos eb, nI_1]
          · have eb : b = nI k := hb.trans e
            have nb : ¬ b = -1 := by rw [eb]; exact nI_m1 (by omega)
            have nk : nt b = k := by rw [eb]; exact nt_nI (by omega)
            have eq : q = dCall fa W k := by rw [hq, if_neg (by rw [e]; exact nI_m1 (by omega)), e, nt_nI (by omega)]
            obtain ⟨y, hy, ey⟩ := dCall_n fa W k
            have k12 : k < 12 := by omega
            by_cases c4 : q < dCall fa W i
            · have hpos : 0 < dCall fa W i := by
                rw [eq] at c4
                exact Int32.lt_trans ek3 c4
              refine take (by rw [isB]; unfold better; rw [nk, ← eq]; exact Or.inr (Or.inl c4)) hpos (fun F => ?_)
              rw [common, if_neg nb, rb hi12 (by omega), eb, rb k12 (by omega)]
              unfold FX3_callUp_104_b139 FX3_callUp_104_b163 FX3_callUp_104_b169
              rw [if_pos c4, if_pos c4, nI_1]
              split <;> rfl
            · by_cases c5 : dCall fa W i = q
              · by_cases c6 : W (102 + k) < W (102 + i)
                · have hpos : 0 < dCall fa W i := by rw [c5, eq]; exact ek3
                  refine take (by rw [isB]; unfold better; rw [nk, ← eq]; exact Or.inr (Or.inr ⟨c5, c6⟩)) hpos (fun F => ?_)
                  rw [common, if_neg nb, rb hi12 (by omega), eb, rb k12 (by omega), gag hv1.1 hi12, gag hv1.1 k12, if_neg (by rw [Int32.not_le]; exact c6)]
                  unfold FX3_callUp_104_b139 FX3_callUp_104_b163 FX3_callUp_104_b169
                  rw [if_neg c4, if_neg (by rw [← eb]; exact nb), if_pos c5, if_neg z1, nI_1]
                · refine skip u1 hv1 ?_ (fun F => ?_)
                  · rintro ⟨-, -, -, h⟩
                    rw [isB] at h; unfold better at h; rw [nk, ← eq] at h
                    rcases h with h | h | ⟨-, h⟩
                    · exact nb h
                    · exact c4 h
                    · exact c6 h
                  · rw [common, if_neg nb, rb hi12 (by omega), eb, rb k12 (by omega), gag hv1.1 hi12, gag hv1.1 k12, if_pos (by rw [← Int32.not_lt]; exact c6)]
                    unfold FX3_callUp_104_b139 FX3_callUp_104_b169
                    rw [if_neg c4, if_neg (by rw [← eb]; exact nb), if_pos c5, if_pos rfl, nI_1]
              · refine skip u1 hv1 ?_ (fun F => ?_)
                · rintro ⟨-, -, -, h⟩
                  rw [isB] at h; unfold better at h; rw [nk, ← eq] at h
                  rcases h with h | h | ⟨h, -⟩
                  · exact nb h
                  · exact c4 h
                  · exact c5 h
                · rw [common, if_neg nb, rb hi12 (by omega), eb, rb k12 (by omega)]
                  unfold FX3_callUp_104_b139 FX3_callUp_104_b169
                  simp only [if_neg c4, if_neg (show ¬ nI k = -1 from nI_m1 (by omega)), if_neg c5, ite_self, nI_1]
        · refine skip v hv (fun h => ?_) (fun F => ?_)
          · have := h.2.2.1
            unfold dCall at this
            rw [if_neg c3] at this
            exact absurd this (by decide)
          · unfold FX3_callUp_104_b32 FX3_callUp_104_b169
            rw [if_neg (n12 hi12), hn', if_neg (nle hi (by omega)), rb hi12 (by omega), gco hv.1 hi12, if_pos c1, rb hi12 (by omega), gwh_97 hv.1 hi12, if_pos c2, rb hi12 (by omega), gag hv.1 hi12, XR_fa104 hv, if_neg c3, nI_1]
      · refine skip v hv (fun h => c2 h.2.1) (fun F => ?_)
        unfold FX3_callUp_104_b32 FX3_callUp_104_b169
        rw [if_neg (n12 hi12), hn', if_neg (nle hi (by omega)), rb hi12 (by omega), gco hv.1 hi12, if_pos c1, rb hi12 (by omega), gwh_97 hv.1 hi12, if_neg c2, nI_1]
    · refine skip v hv (fun h => c1 h.1) (fun F => ?_)
      unfold FX3_callUp_104_b32 FX3_callUp_104_b169
      rw [if_neg (n12 hi12), hn', if_neg (nle hi (by omega)), rb hi12 (by omega), gco hv.1 hi12, if_neg c1, nI_1]
  · obtain ⟨⟨b, q⟩, v⟩ := s
    obtain ⟨hb, hq, hv⟩ := hI
    have hb : b = bst fa W c (nmen W) := hb
    have hv : XR_104 fa md B v W := hv
    have hn' : v 1 0 = nI (nmen W) := (gmen hv.1).trans hn
    show ∃ u', FX3_callUp_104_b32 (FX3_callUp_104_L32 F) c b q (nI (nmen W)) v = some u' ∧ _
    unfold FX3_callUp_104_b32 dCalls
    rw [hn', two_ends _ _ (yle (by omega)), ← hb]
    unfold FX3_callUp_104_b175
    by_cases c0 : b = -1
    · rw [if_pos c0, if_pos c0]; exact ⟨v, rfl, hv⟩
    · rw [if_neg c0, if_neg c0]
      rcases bst_ok fa W c (nmen W) with e | ⟨k, hk, e, ec, -⟩
      · exact absurd (hb.trans e) c0
      · have eb : b = nI k := hb.trans e
        have k12 : k < 12 := by omega
        have hX1 := XR_u104 hv hW.1 (j := 3) (by omega) k12 1
        have hW1 : WO (upd W (40 + k) 1) := WO_u hW (s78_u (by omega)) (OkD_uwh hW.2.1 k12 ⟨1, by omega, rfl⟩ (Or.inl hk))
        have hX2 := XR_u104 hX1 hW1.1 (j := 4) (by omega) k12 (dEnd c)
        have hW2 : WO (upd (upd W (40 + k) 1) (52 + k) (dEnd c)) := WO_u hW1 (s78_u (by omega)) (OkD_uce hW1.2.1 k12 (dEnd_n c))
        obtain ⟨u2, h2, hM2⟩ := c_note_104 hX2 hW2 0 (nI k) (dEnd c)
        refine ⟨u2, ?_, by rw [eb, nt_nI (by omega)]; exact hM2⟩
        rw [eb, wb k12 (by omega), c_end, b_some, wb k12 (by omega), b_some]
        show (FX3_note_104 0 (nI k) (dEnd c) (mupd (mupd v 101 k 1) 102 k (dEnd c))).bind _ = _
        rw [h2]
        rfl

