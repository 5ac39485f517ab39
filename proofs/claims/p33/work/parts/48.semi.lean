/-! calling up; marching -/
def lf (W W' : Wt) : Prop := same78 W W' ∧ W' 0 = W 0
theorem lf_r (W : Wt) : lf W W := ⟨s78_r W, rfl⟩
theorem lf_t {W W' W'' : Wt} (h : lf W W') (h' : lf W' W'') : lf W W'' := ⟨s78_t h.1 h'.1, h'.2.trans h.2⟩
theorem lf_u {W : Wt} {k : Nat} {x : Int32} (h : 0 < k ∧ k < 78) : lf W (upd W k x) := ⟨s78_u (by omega), up_ne (by omega)⟩
theorem lf_note {tr what m num : Int32} {W : Wt} (hD : OkD W) : lf W (dNote tr what m num W) := ⟨dNote_s hD, dNote_lo hD (by omega)⟩
theorem sRest_W {W W' : Wt} (s : lf W W') (h : OkT W) (c : Int32) : sRest W' c = sRest W c := by
  have := (OkT_on h).2
  refine fo_n (by rw [s.1 87 (by omega) (by omega)]) (fun i z hi => ?_)
  rw [s.1 (222 + 3 * i) (by omega) (by omega), s.1 (222 + 3 * i + 2) (by omega) (by omega), s.1 (222 + 3 * i + 1) (by omega) (by omega), s.2]
theorem dCalls_w {fa tr c : Int32} {W : Wt} (hW : WO W) : WO (dCalls fa tr c W) ∧ lf W (dCalls fa tr c W) := by
  obtain ⟨hn, hn12⟩ := OkT_n hW.1
  unfold dCalls
  rcases bst_ok fa W c (nmen W) with e | ⟨k, hk, e, -⟩
  · rw [if_pos e]; exact ⟨hW, lf_r W⟩
  · rw [if_neg (by rw [e]; exact nI_m1 (by omega)), e, nt_nI (by omega)]
    have hW1 : WO (upd (upd W (40 + k) 1) (52 + k) (dEnd c)) := WO_u hW (s78_t (s78_u (by omega)) (s78_u (by omega))) (OkD_uce (OkD_uwh hW.2.1 (by omega) ⟨1, by omega, rfl⟩ (Or.inl hk)) (by omega) (dEnd_n c))
    exact ⟨WO_note hW1, lf_t (lf_t (lf_u (by omega)) (lf_u (by omega))) (lf_note hW1.2.1)⟩
def dCallUp (fa tr : Int32) (c : Nat) (W : Wt) : Wt := if sIn W (nI c) < W (82 + c) then dCalls fa tr (nI c) W else W
theorem dCallUp_w {fa tr : Int32} {c : Nat} {W : Wt} (hW : WO W) : WO (dCallUp fa tr c W) ∧ lf W (dCallUp fa tr c W) := by
  unfold dCallUp
  split
  · exact dCalls_w hW
  · exact ⟨hW, lf_r W⟩
theorem c_callUp_32 {fa md : Int32} {B : Wt} {u : Mem} {W : Wt} (hX : XR_32 fa md B u W) (hW : WO W) {c : Nat} (hc : c < 2) : ∃ u', FX3_callUp_32 (nI c) u = some u' ∧ XR_32 fa md B u' (dCallUp fa 1 c W) := by
  have e : FX11_isCountry (nI c) = some 1 := by
    rcases (by omega : c = 0 ∨ c = 1) with rfl | rfl <;> rfl
  unfold FX3_callUp_32 dCallUp
  rw [e, b_some, if_neg z1, c_inF_32 hX.1 hW.1, b_some, rb hc (by omega), gwa hX.1 hc]
  by_cases h : sIn W (nI c) < W (82 + c)
  · rw [if_pos h, if_pos h]; exact c_calls_32 hX hW (nI c)
  · rw [if_neg h, if_neg h]; exact ⟨u, rfl, hX⟩
theorem c_callUp_104 {fa md : Int32} {B : Wt} {u : Mem} {W : Wt} (hX : XR_104 fa md B u W) (hW : WO W) {c : Nat} (hc : c < 2) : ∃ u', FX3_callUp_104 (nI c) u = some u' ∧ XR_104 fa md B u' (dCallUp fa 0 c W) := by
  have e : FX11_isCountry (nI c) = some 1 := by
    rcases (by omega : c = 0 ∨ c = 1) with rfl | rfl <;> rfl
  unfold FX3_callUp_104 dCallUp
  rw [e, b_some, if_neg z1, c_inF_104 hX.1 hW.1, b_some, rb hc (by omega), gwa hX.1 hc]
  by_cases h : sIn W (nI c) < W (82 + c)
  · rw [if_pos h, if_pos h]; exact c_calls_104 hX hW (nI c)
  · rw [if_neg h, if_neg h]; exact ⟨u, rfl, hX⟩
/-! a walk -/
def hcost (W : Wt) (x : Int32) : Nat := if W (126 + nt x) = 1 then 2 else 1
def nxt (c x : Int32) : Int32 := x + if c = 0 then 1 else -1
def dWk (m : Nat) (c : Int32) : Nat → Nat → Wt → Wt
  | 0, _, W => W
  | f + 1, l, W => if 0 < l ∧ ¬ nxt c (W (52 + m)) < 0 ∧ ¬ 15 < nxt c (W (52 + m)) ∧ ¬ sHeld W (1 - c) (W (52 + m)) = true ∧ hcost W (nxt c (W (52 + m))) ≤ l then dWk m c f (l - hcost W (nxt c (W (52 + m)))) (upd W (52 + m) (nxt c (W (52 + m)))) else W
theorem nxt_c (c : Int32) {j : Nat} (hj : j < 16) : (∃ k, k < 16 ∧ nxt c (nI j) = nI k) ∨ nxt c (nI j) = -1 ∨ nxt c (nI j) = nI 16 := by
  unfold nxt
  by_cases h : c = 0
  · rw [if_pos h, nI_1]
    by_cases q : j + 1 < 16
    · exact Or.inl ⟨j + 1, q, rfl⟩
    · exact Or.inr (Or.inr (by rw [show j + 1 = 16 by omega]))
  · rw [if_neg h]
    by_cases q : j = 0
    · subst q; exact Or.inr (Or.inl (by decide))
    · refine Or.inl ⟨j - 1, by omega, ?_⟩
      have : nI j = nI (j - 1) + 1 := by rw [nI_1]; congr 1; omega
      rw [this, Int32.add_assoc, show (1 : Int32) + (-1) = 0 by decide, Int32.add_zero]
theorem sHeld_ne {W : Wt} {m : Nat} {c x y : Int32} (h12 : nmen W ≤ 12) (h : W (90 + m) ≠ c) (hm : m < 12) : sHeld (upd W (52 + m) x) c y = sHeld W c y := by
  have e : (sHeld (upd W (52 + m) x) c y = true) = (sHeld W c y = true) := by
    rw [sHeld_iff, sHeld_iff]
    have hn : nmen (upd W (52 + m) x) = nmen W := s78_n (s78_u (by omega))
    rw [hn]
    apply propext
    constructor
    · rintro ⟨k, hk, a, b, d⟩
      rw [up_ne (by omega)] at a
      rw [up_ne (by omega)] at b
      by_cases q : k = m
      · subst q; exact absurd a h
      · rw [up_ne (by omega)] at d
        exact ⟨k, hk, a, b, d⟩
    · rintro ⟨k, hk, a, b, d⟩
      by_cases q : k = m
      · subst q; exact absurd a h
      · exact ⟨k, hk, by rw [up_ne (by omega)]; exact a, by rw [up_ne (by omega)]; exact b, by rw [up_ne (by omega)]; exact d⟩
  cases h1 : sHeld (upd W (52 + m) x) c y <;> cases h2 : sHeld W c y <;> simp [h1, h2] at e ⊢
theorem dWk_w {m : Nat} {c : Int32} : ∀ (f l : Nat) (W : Wt), WO W → m < 12 → WO (dWk m c f l W) ∧ lf W (dWk m c f l W)
  | 0, _, W, hW, _ => ⟨hW, lf_r W⟩
  | f + 1, l, W, hW, hm => by
    unfold dWk
    by_cases h : 0 < l ∧ ¬ nxt c (W (52 + m)) < 0 ∧ ¬ 15 < nxt c (W (52 + m)) ∧ ¬ sHeld W (1 - c) (W (52 + m)) = true ∧ hcost W (nxt c (W (52 + m))) ≤ l
    · rw [if_pos h]
      obtain ⟨j, hj, e⟩ := nI_of2 (M := 15) (n := 15) (by decide) h.2.1 (by rw [← Int32.not_lt]; exact h.2.2.1)
      have hW1 : WO (upd W (52 + m) (nxt c (W (52 + m)))) := WO_u hW (s78_u (by omega)) (OkD_uce hW.2.1 hm ⟨j, by omega, e⟩)
      obtain ⟨a, b⟩ := dWk_w f (l - hcost W (nxt c (W (52 + m)))) _ hW1 hm
      exact ⟨a, lf_t (lf_u (by omega)) b⟩
    · rw [if_neg h]; exact ⟨hW, lf_r W⟩
theorem one_sub {c : Int32} (h : c = 0 ∨ c = 1) : c ≠ 1 - c := by
  rcases h with rfl | rfl <;> decide
theorem hc_12 {W : Wt} (hT : OkT W) {k : Nat} (hk : k < 16) : (W (126 + k) = 0 ∧ hcost W (nI k) = 1) ∨ (W (126 + k) = 1 ∧ hcost W (nI k) = 2) := by
  unfold hcost
  rw [nt_nI (by omega)]
  rcases OkT_hi hT k hk with e | e
  · exact Or.inl ⟨e, by rw [if_neg (by rw [e]; decide)]⟩
  · exact Or.inr ⟨e, by rw [if_pos e]⟩
theorem m_stop (F : Nat) (a b x : Int32) (u : Mem) : FX12_goesOn_146_L19 (F + 1) a b x 0 u = some u := by
  show FX12_goesOn_146_b19 _ _ _ _ _ _ = _
  unfold FX12_goesOn_146_b19
  rw [if_pos rfl]
set_option maxHeartbeats 1000000 in
theorem m_walk {M : Wt} {m : Nat} {c : Int32} (hm : m < 12) : ∀ (f l : Nat) (u : Mem) (W : Wt) (F : Nat), l ≤ f → l < 100 → l + 1 < F → MR M u W → WO W → W (90 + m) = c → ∃ u', FX12_goesOn_146_L19 F (nI m) c (nI l) 1 u = some u' ∧ MR M u' (dWk m c f l W) := by
  intro f
  induction f with
  | zero =>
    intro l u W F hl hl1 hF hM hW hc
    obtain ⟨F, rfl⟩ : ∃ F', F = F' + 1 + 1 := ⟨F - 2, by omega⟩
    refine ⟨u, ?_, hM⟩
    have e0 : l = 0 := by omega
    subst e0
    show FX12_goesOn_146_b19 _ _ _ _ _ _ = _
    unfold FX12_goesOn_146_b19 FX12_goesOn_146_b42 FX12_goesOn_146_b84 FX12_goesOn_146_b107 FX12_goesOn_146_b125 FX12_goesOn_146_b143
    rw [if_neg z1, rl (by show 52 + m < _; omega) (by omega)]
    simp only [show (nI 0 ≤ 0) = True from eq_true (by decide), if_true, m_stop, ite_self]
  | succ f ih =>
    intro l u W F hl hl1 hF hM hW hc
    obtain ⟨F, rfl⟩ : ∃ F', F = F' + 1 + 1 := ⟨F - 2, by omega⟩
    obtain ⟨j, hj, ej⟩ := OkD_ce hW.2.1 m hm
    have first : FX12_goesOn_146_L19 (F + 1 + 1) (nI m) c (nI l) 1 u = FX12_goesOn_146_b42 (FX12_goesOn_146_L19 (F + 1)) (nI m) c (nI l) (nI j) (if c = 0 then 1 else -1) u := by
      show FX12_goesOn_146_b19 _ _ _ _ _ _ = _
      unfold FX12_goesOn_146_b19
      rw [if_neg z1, rl (by show 52 + m < _; omega) (by omega), hM.1]
      show (if c = 0 then FX12_goesOn_146_b42 _ _ _ _ (W (52 + m)) 1 u else FX12_goesOn_146_b42 _ _ _ _ (W (52 + m)) (-1) u) = _
      rw [ej]
      split <;> rfl
    rw [first]
    unfold FX12_goesOn_146_b42 FX12_goesOn_146_b84 FX12_goesOn_146_b107 FX12_goesOn_146_b125 FX12_goesOn_146_b143
    rw [show nI j + (if c = 0 then 1 else -1) = nxt c (nI j) from rfl]
    unfold dWk
    rw [ej]
    by_cases l0 : l = 0
    · subst l0
      refine ⟨u, ?_, by rw [if_neg (by omega)]; exact hM⟩
      simp only [show (nI 0 ≤ 0) = True from eq_true (by decide), if_true, m_stop]
    · rw [if_neg (nI_nle (by omega) (by omega))]
      rcases nxt_c c hj with ⟨k, hk, e⟩ | e | e
      · rw [e]
        have i1 : FX12_isIn (nI k) 0 15 = some 1 := by
          unfold FX12_isIn
          rw [if_neg (nI_pos (by omega)), if_neg (by rw [li_lt (by decide) (by omega)]; show ¬ 15 < k; omega)]
        have n0 : ¬ nI k < 0 := nI_pos (by omega)
        have n15 : ¬ 15 < nI k := by rw [li_lt (by decide) (by omega)]; show ¬ 15 < k; omega
        rw [i1, b_some, if_neg z1, rl (by show 52 + m < _; omega) (by omega), hM.1]
        show ∃ u', ((FX12_isHeld_146 (1 - c) (W (52 + m)) u).bind _) = _ ∧ _
        rw [ej, m_held hM.1 hW.1, b_some]
        by_cases hh : sHeld W (1 - c) (nI j) = true
        · refine ⟨u, ?_, by rw [if_neg (fun h => h.2.2.2.1 hh)]; exact hM⟩
          simp only [if_pos hh, if_neg z1, if_true, m_stop]
        · simp only [if_neg hh, if_true, if_neg z1]
          rw [rl (by show 126 + k < _; omega) (by omega), hM.1]
          show ∃ u', (if nI l < 1 + W (126 + k) then _ else _) = _ ∧ _
          have cont : ∀ q, (q = 1 ∨ q = 2) → hcost W (nI k) = q → 1 + W (126 + k) = nI q → ∃ u', (if nI l < 1 + W (126 + k) then (FX12_goesOn_146_L19 (F + 1)) (nI m) c (nI l - (1 + W (126 + k))) 0 u else ((wrA u 147 1786 (52 + nI m) (nI k)).bind fun u2 => FX12_goesOn_146_L19 (F + 1) (nI m) c (nI l - (1 + W (126 + k))) 1 u2)) = some u' ∧ MR M u' (if 0 < l ∧ ¬ nI k < 0 ∧ ¬ 15 < nI k ∧ ¬ sHeld W (1 - c) (nI j) = true ∧ hcost W (nI k) ≤ l then dWk m c f (l - hcost W (nI k)) (upd W (52 + m) (nI k)) else W) := by
            intro q hq eq1 eq2
            have pz : (nI l < nI q) = (l < q) := nn_lt (by omega) (by omega)
            simp only [eq1, eq2, pz]
            by_cases cq : l < q
            · rw [if_pos cq, if_neg (fun h => by have := h.2.2.2.2; omega), m_stop]; exact ⟨u, rfl, hM⟩
            · rw [if_neg cq, if_pos ⟨by omega, n0, n15, hh, by omega⟩, nI_sub (by omega), wl (by show 52 + m < _; omega) (by omega)]
              have hW1 : WO (upd W (52 + m) (nI k)) := WO_u hW (s78_u (by omega)) (OkD_uce hW.2.1 hm ⟨k, hk, rfl⟩)
              exact ih (l - q) _ _ (F + 1) (by omega) (by omega) (by omega) (MR_u hM (52 + m) (nI k)) hW1 (by rw [up_ne (by omega)]; exact hc)
          rcases hc_12 hW.1 hk with ⟨a, b⟩ | ⟨a, b⟩
          · exact cont 1 (Or.inl rfl) b (by rw [a]; decide)
          · exact cont 2 (Or.inr rfl) b (by rw [a]; decide)
      · rw [e]
        refine ⟨u, ?_, by rw [if_neg (fun h => h.2.1 (by decide))]; exact hM⟩
        have i1 : FX12_isIn (-1) 0 15 = some 0 := by decide
        rw [i1, b_some, if_pos rfl, if_pos rfl, if_pos rfl, if_pos rfl, m_stop]
      · rw [e]
        refine ⟨u, ?_, by rw [if_neg (fun h => h.2.2.1 (by decide))]; exact hM⟩
        have i1 : FX12_isIn (nI 16) 0 15 = some 0 := by decide
        rw [i1, b_some, if_pos rfl, if_pos rfl, if_pos rfl, if_pos rfl, m_stop]
set_option maxHeartbeats 1000000 in
theorem c_walk_32 {fa md : Int32} {B : Wt} {m : Nat} {c S : Int32} (hm : m < 12) (hc01 : c = 0 ∨ c = 1) : ∀ (f l i : Nat) (u : Mem) (W : Wt) (F : Nat), l ≤ f → i + l < 16 → l < F → XR_32 fa md B u W → WO W → W (90 + m) = c → (∀ k, k < 16 → tb S k = sHeld W (1 - c) (nI k)) → ∃ u', FX3_walk_32_L48 F (nI m) (if c = 0 then 1 else -1) S (nI l) (nI i) u = some u' ∧ XR_32 fa md B u' (dWk m c f l W) := by
  intro f
  induction f with
  | zero =>
    intro l i u W F hl hl1 hF hX hW hc hS
    obtain ⟨F, rfl⟩ : ∃ F', F = F' + 1 := ⟨F - 1, by omega⟩
    refine ⟨u, ?_, hX⟩
    have e0 : l = 0 := by omega
    subst e0
    show FX3_walk_32_b48 _ _ _ _ _ _ _ = _
    unfold FX3_walk_32_b48
    rw [show nI 0 = 0 from nI_0, two_ends _ _ (by decide)]
  | succ f ih =>
    intro l i u W F hl hl1 hF hX hW hc hS
    obtain ⟨F, rfl⟩ : ∃ F', F = F' + 1 := ⟨F - 1, by omega⟩
    obtain ⟨j, hj, ej⟩ := OkD_ce hW.2.1 m hm
    show ∃ u', FX3_walk_32_b48 _ _ _ _ _ _ _ = _ ∧ _
    unfold FX3_walk_32_b48 FX3_walk_32_b91 FX3_walk_32_b110 dWk
    rw [if_neg (by rw [li_le (by decide) (by omega)]; show ¬ 16 ≤ i; omega)]
    by_cases l0 : l = 0
    · subst l0
      rw [if_pos (by decide), if_neg (by omega)]
      exact ⟨u, rfl, hX⟩
    · rw [if_neg (nI_nle (by omega) (by omega)), rb hm (by omega), gce_23 hX.1 hm, ej, show nI j + (if c = 0 then 1 else -1) = nxt c (nI j) from rfl]
      rcases nxt_c c hj with ⟨k, hk, e⟩ | e | e
      · rw [e, c_isHill (ghi hX.1) hW.1 hk, b_some]
        have n0 : ¬ nI k < 0 := nI_pos (by omega)
        have n15 : ¬ 15 < nI k := by rw [li_lt (by decide) (by omega)]; show ¬ 15 < k; omega
        have y16 : nI k < 16 := by rw [lt_li (by decide) (by omega)]; exact hk
        simp only [if_neg n0, if_pos y16, if_true]
        have cont : ∀ q, (q = 1 ∨ q = 2) → hcost W (nI k) = q → ∃ u', (if nI l < nI q then some u else if (if tb S j = true then (1 : Int32) else 0) = 0 then (wrA u 28 12 (nI m) (nI k)).bind fun u6 => FX3_walk_32_L48 F (nI m) (if c = 0 then 1 else -1) S (nI l - nI q) (nI i + 1) u6 else some u) = some u' ∧ XR_32 fa md B u' (if 0 < l ∧ ¬ nI k < 0 ∧ ¬ 15 < nI k ∧ ¬ sHeld W (1 - c) (nI j) = true ∧ hcost W (nI k) ≤ l then dWk m c f (l - hcost W (nI k)) (upd W (52 + m) (nI k)) else W) := by
          intro q hq eq1
          have pz : (nI l < nI q) = (l < q) := nn_lt (by omega) (by omega)
          simp only [eq1, pz]
          by_cases cq : l < q
          · rw [if_pos cq, if_neg (fun h => by have := h.2.2.2.2; omega)]; exact ⟨u, rfl, hX⟩
          · rw [if_neg cq, hS j hj]
            by_cases hh : sHeld W (1 - c) (nI j) = true
            · rw [if_pos hh, if_neg z1, if_neg (fun h => h.2.2.2.1 hh)]; exact ⟨u, rfl, hX⟩
            · rw [if_neg hh, if_pos rfl, if_pos (show 0 < l ∧ ¬ nI k < 0 ∧ ¬ 15 < nI k ∧ ¬ sHeld W (1 - c) (nI j) = true ∧ q ≤ l from ⟨by omega, n0, n15, hh, by omega⟩), nI_sub (by omega), wb hm (by omega), nI_1]
              have hW1 : WO (upd W (52 + m) (nI k)) := WO_u hW (s78_u (by omega)) (OkD_uce hW.2.1 hm ⟨k, hk, rfl⟩)
              refine ih (l - q) (i + 1) _ _ F (by omega) (by omega) (by omega) (XR_u32 hX hW.1 (j := 4) (by omega) hm (nI k)) hW1 (by rw [up_ne (by omega)]; exact hc) (fun k' hk' => ?_)
              rw [hS k' hk']
              exact (sHeld_ne (OkT_n hW.1).2 (by rw [hc]; exact one_sub hc01) hm).symm
        rcases hc_12 hW.1 hk with ⟨a, b⟩ | ⟨a, b⟩
        · rw [a, if_pos rfl, rb hm (by omega), gce_23 hX.1 hm, ej, holds_b _ (by omega), b_some]; exact cont 1 (Or.inl rfl) b
        · rw [a, if_neg z1, rb hm (by omega), gce_23 hX.1 hm, ej, holds_b _ (by omega), b_some]; exact cont 2 (Or.inr rfl) b
      · rw [e]
        refine ⟨u, ?_, by rw [if_neg (fun h => h.2.1 (by decide))]; exact hX⟩
        have i1 : FX9_isHill_1 (-1) u = some 0 := by unfold FX9_isHill_1; rw [if_pos (by decide)]
        rw [i1, b_some, if_pos rfl, if_pos (by decide), if_neg z1]
      · rw [e]
        refine ⟨u, ?_, by rw [if_neg (fun h => h.2.2.1 (by decide))]; exact hX⟩
        have i1 : FX9_isHill_1 (nI 16) u = some 0 := by unfold FX9_isHill_1; rw [if_neg (by decide), if_pos (by decide)]
        rw [i1, b_some, if_pos rfl, if_neg (by decide), if_neg (by decide), if_neg z1]
set_option maxHeartbeats 1000000 in
theorem c_walk_104 {fa md : Int32} {B : Wt} {m : Nat} {c S : Int32} (hm : m < 12) (hc01 : c = 0 ∨ c = 1) : ∀ (f l i : Nat) (u : Mem) (W : Wt) (F : Nat), l ≤ f → i + l < 16 → l < F → XR_104 fa md B u W → WO W → W (90 + m) = c → (∀ k, k < 16 → tb S k = sHeld W (1 - c) (nI k)) → ∃ u', FX3_walk_104_L48 F (nI m) (if c = 0 then 1 else -1) S (nI l) (nI i) u = some u' ∧ XR_104 fa md B u' (dWk m c f l W) := by
  intro f
  induction f with
  | zero =>
    intro l i u W F hl hl1 hF hX hW hc hS
    obtain ⟨F, rfl⟩ : ∃ F', F = F' + 1 := ⟨F - 1, by omega⟩
    refine ⟨u, ?_, hX⟩
    have e0 : l = 0 := by omega
    subst e0
    show FX3_walk_104_b48 _ _ _ _ _ _ _ = _
    unfold FX3_walk_104_b48
    rw [show nI 0 = 0 from nI_0, two_ends _ _ (by decide)]
  | succ f ih =>
    intro l i u W F hl hl1 hF hX hW hc hS
    obtain ⟨F, rfl⟩ : ∃ F', F = F' + 1 := ⟨F - 1, by omega⟩
    obtain ⟨j, hj, ej⟩ := OkD_ce hW.2.1 m hm
    show ∃ u', FX3_walk_104_b48 _ _ _ _ _ _ _ = _ ∧ _
    unfold FX3_walk_104_b48 FX3_walk_104_b91 FX3_walk_104_b110 dWk
    rw [if_neg (by rw [li_le (by decide) (by omega)]; show ¬ 16 ≤ i; omega)]
    by_cases l0 : l = 0
    · subst l0
      rw [if_pos (by decide), if_neg (by omega)]
      exact ⟨u, rfl, hX⟩
    · rw [if_neg (nI_nle (by omega) (by omega)), rb hm (by omega), gce_97 hX.1 hm, ej, show nI j + (if c = 0 then 1 else -1) = nxt c (nI j) from rfl]
      rcases nxt_c c hj with ⟨k, hk, e⟩ | e | e
      · rw [e, c_isHill (ghi hX.1) hW.1 hk, b_some]
        have n0 : ¬ nI k < 0 := nI_pos (by omega)
        have n15 : ¬ 15 < nI k := by rw [li_lt (by decide) (by omega)]; show ¬ 15 < k; omega
        have y16 : nI k < 16 := by rw [lt_li (by decide) (by omega)]; exact hk
        simp only [if_neg n0, if_pos y16, if_true]
        have cont : ∀ q, (q = 1 ∨ q = 2) → hcost W (nI k) = q → ∃ u', (if nI l < nI q then some u else if (if tb S j = true then (1 : Int32) else 0) = 0 then (wrA u 102 12 (nI m) (nI k)).bind fun u6 => FX3_walk_104_L48 F (nI m) (if c = 0 then 1 else -1) S (nI l - nI q) (nI i + 1) u6 else some u) = some u' ∧ XR_104 fa md B u' (if 0 < l ∧ ¬ nI k < 0 ∧ ¬ 15 < nI k ∧ ¬ sHeld W (1 - c) (nI j) = true ∧ hcost W (nI k) ≤ l then dWk m c f (l - hcost W (nI k)) (upd W (52 + m) (nI k)) else W) := by
          intro q hq eq1
          have pz : (nI l < nI q) = (l < q) := nn_lt (by omega) (by omega)
          simp only [eq1, pz]
          by_cases cq : l < q
          · rw [if_pos cq, if_neg (fun h => by have := h.2.2.2.2; omega)]; exact ⟨u, rfl, hX⟩
          · rw [if_neg cq, hS j hj]
            by_cases hh : sHeld W (1 - c) (nI j) = true
            · rw [if_pos hh, if_neg z1, if_neg (fun h => h.2.2.2.1 hh)]; exact ⟨u, rfl, hX⟩
            · rw [if_neg hh, if_pos rfl, if_pos (show 0 < l ∧ ¬ nI k < 0 ∧ ¬ 15 < nI k ∧ ¬ sHeld W (1 - c) (nI j) = true ∧ q ≤ l from ⟨by omega, n0, n15, hh, by omega⟩), nI_sub (by omega), wb hm (by omega), nI_1]
              have hW1 : WO (upd W (52 + m) (nI k)) := WO_u hW (s78_u (by omega)) (OkD_uce hW.2.1 hm ⟨k, hk, rfl⟩)
              refine ih (l - q) (i + 1) _ _ F (by omega) (by omega) (by omega) (XR_u104 hX hW.1 (j := 4) (by omega) hm (nI k)) hW1 (by rw [up_ne (by omega)]; exact hc) (fun k' hk' => ?_)
              rw [hS k' hk']
              exact (sHeld_ne (OkT_n hW.1).2 (by rw [hc]; exact one_sub hc01) hm).symm
        rcases hc_12 hW.1 hk with ⟨a, b⟩ | ⟨a, b⟩
        · rw [a, if_pos rfl, rb hm (by omega), gce_97 hX.1 hm, ej, holds_b _ (by omega), b_some]; exact cont 1 (Or.inl rfl) b
        · rw [a, if_neg z1, rb hm (by omega), gce_97 hX.1 hm, ej, holds_b _ (by omega), b_some]; exact cont 2 (Or.inr rfl) b
      · rw [e]
        refine ⟨u, ?_, by rw [if_neg (fun h => h.2.1 (by decide))]; exact hX⟩
        have i1 : FX9_isHill_1 (-1) u = some 0 := by unfold FX9_isHill_1; rw [if_pos (by decide)]
        rw [i1, b_some, if_pos rfl, if_pos (by decide), if_neg z1]
      · rw [e]
        refine ⟨u, ?_, by rw [if_neg (fun h => h.2.2.1 (by decide))]; exact hX⟩
        have i1 : FX9_isHill_1 (nI 16) u = some 0 := by unfold FX9_isHill_1; rw [if_neg (by decide), if_pos (by decide)]
        rw [i1, b_some, if_pos rfl, if_neg (by decide), if_neg (by decide), if_neg z1]
/-! the marches -/
def mn99 (x : Int32) : Int32 := if x < 99 then x else 99
def dBr (m : Nat) (x : Int32) (W : Wt) : Wt := upd W (4 + m) (mn99 (W (4 + m) + x))
def dMarch (m : Nat) (W : Wt) : Wt := if W (40 + m) = 1 then (if sRest W (W (90 + m)) = 0 then (if dAsk W 2 m ≤ 0 then dWk m (W (90 + m)) 9 (nt (dAsk W 1 m)) W else dBr m (dAsk W 2 m) W) else dBr m 10 W) else W
theorem mn_n {a b : Nat} (ha : a < 10000) (hb : b < 10000) : ∃ j, j ≤ 99 ∧ mn99 (nI a + nI b) = nI j := by
  unfold mn99
  have pz : (nI (a + b) < 99) = (a + b < 99) := lt_li (k := 99) (by decide) (by omega)
  simp only [nI_add, pz]
  by_cases h : a + b < 99
  · rw [if_pos h]; exact ⟨a + b, by omega, rfl⟩
  · rw [if_neg h]; exact ⟨99, by omega, rfl⟩
theorem dBr_w {m : Nat} {x : Int32} {W : Wt} (hW : WO W) (hm : m < 12) (hx : ∃ j, j ≤ 99 ∧ x = nI j) : WO (dBr m x W) ∧ lf W (dBr m x W) := by
  obtain ⟨j, hj, e⟩ := hx
  obtain ⟨k, hk, e2⟩ := OkD_br hW.2.1 m hm
  unfold dBr
  refine ⟨WO_u hW (s78_u (by omega)) (OkD_ubr hW.2.1 hm ?_), lf_u (by omega)⟩
  rw [e, e2]; exact mn_n (by omega) (by omega)
theorem dMarch_w {m : Nat} {W : Wt} (hW : WO W) (hm : m < 12) : WO (dMarch m W) ∧ lf W (dMarch m W) := by
  unfold dMarch
  split
  · split
    · split
      · exact dWk_w _ _ _ hW hm
      · exact dBr_w hW hm (dAsk_n W (w := 2) (by omega) m)
    · exact dBr_w hW hm ⟨10, by omega, rfl⟩
  · exact ⟨hW, lf_r W⟩
theorem m_breathes {M : Wt} {u : Mem} {W : Wt} (hM : MR M u W) {m : Nat} (hm : m < 12) (x : Int32) : ∃ u', FX12_breathes_146 (nI m) x u = some u' ∧ MR M u' (dBr m x W) := by
  unfold FX12_breathes_146 dBr
  rw [rl (by show 4 + m < _; omega) (by omega), hM.1]
  show ∃ u', ((FX12_lesser 99 (W (4 + m) + x)).bind _) = _ ∧ _
  have e : FX12_lesser 99 (W (4 + m) + x) = some (mn99 (W (4 + m) + x)) := by
    unfold FX12_lesser mn99
    by_cases c : W (4 + m) + x < 99
    · rw [if_pos c, if_pos (Int32.le_of_lt c)]
    · rw [if_neg c]
      by_cases c2 : W (4 + m) + x ≤ 99
      · rw [if_pos c2]
        exact congrArg some (Int32.le_antisymm c2 (by rw [← Int32.not_lt]; exact c))
      · rw [if_neg c2]
  rw [e, b_some, wl (by show 4 + m < _; omega) (by omega)]
  exact ⟨_, rfl, MR_u hM (4 + m) _⟩
theorem m_marches {M : Wt} {u : Mem} {W : Wt} (hM : MR M u W) (hW : WO W) {m : Nat} (hm : m < nmen W) : ∃ u', FX12_marches_146 (nI m) u = some u' ∧ MR M u' (dMarch m W) := by
  obtain ⟨hn, hn12⟩ := OkT_n hW.1
  have hm12 : m < 12 := by omega
  unfold FX12_marches_146 dMarch
  rw [rl (by show 40 + m < _; omega) (by omega), hM.1]
  show ∃ u', (if W (40 + m) = 1 then _ else _) = _ ∧ _
  by_cases c1 : W (40 + m) = 1
  · rw [if_pos c1, if_pos c1, rl (by show 90 + m < _; omega) (by omega), hM.1]
    show ∃ u', ((FX12_rests_146 (W (90 + m)) u).bind _) = _ ∧ _
    rw [m_rest hM.1 hW.1, b_some]
    by_cases c2 : sRest W (W (90 + m)) = 0
    · rw [if_pos c2, if_pos c2]
      obtain ⟨u1, h1⟩ := m_nap hM.1 hW hm12
      have hM1 := MR_s hM (frX12_napOf_146 _ _ h1)
      rw [h1, b2_some]
      by_cases c3 : dAsk W 2 m ≤ 0
      · rw [if_pos c3, if_pos c3]
        unfold FX12_goesOn_146
        obtain ⟨u2, h2⟩ := m_step hM1.1 hW hm12
        have hM2 := MR_s hM1 (frX12_stepOf_146 _ _ h2)
        rw [rl (by show 90 + m < _; omega) (by omega), hM1.1]
        show ∃ u', ((bnd2 (FX12_stepOf_146 (nI m) u1) fun x2 u3 => FX12_goesOn_146_L19 FU (nI m) (W (90 + m)) x2 1 u3).bind _) = _ ∧ _
        rw [h2, b2_some]
        obtain ⟨l, hl, el⟩ := dAsk_n W (w := 1) (by omega) m
        have hl9 : l ≤ 9 := hl
        rw [el, nt_nI (by omega)]
        obtain ⟨u3, h3, hM3⟩ := m_walk (M := M) (c := W (90 + m)) hm12 9 l u2 W FU hl9 (by omega) (by show _ < 10000; omega) hM2 hW rfl
        exact ⟨u3, by rw [h3]; rfl, hM3⟩
      · rw [if_neg c3, if_neg c3]
        obtain ⟨u2, h2, hM2⟩ := m_breathes hM1 hm12 (dAsk W 2 m)
        exact ⟨u2, by rw [h2]; rfl, hM2⟩
    · rw [if_neg c2, if_neg c2]
      obtain ⟨u2, h2, hM2⟩ := m_breathes hM hm12 10
      exact ⟨u2, by rw [h2]; rfl, hM2⟩
  · rw [if_neg c1, if_neg c1]; exact ⟨u, rfl, hM⟩
def dMarches (W : Wt) : Wt := fo (nmen W) dMarch W
theorem c_march1_32 {fa md : Int32} {B : Wt} {u : Mem} {W : Wt} {r0 r1 : Int32} (hX : XR_32 fa md B u W) (hW : WO W) {m : Nat} (hm : m < nmen W) (h0 : sRest W 0 = r0) (h1 : sRest W 1 = r1) : ∃ u', XR_32 fa md B u' (dMarch m W) ∧ ∀ F, FX3_goOn_32_L40 (F + 1) r0 r1 (nI m) u = FX3_goOn_32_L40 F r0 r1 (nI (m + 1)) u' := by
  obtain ⟨hn, hn12⟩ := OkT_n hW.1
  have hm12 : m < 12 := by omega
  have hn' : u 1 0 = nI (nmen W) := (gmen hX.1).trans hn
  have start : ∀ F, FX3_goOn_32_L40 (F + 1) r0 r1 (nI m) u = (if W (40 + m) = 1 then (if W (90 + m) = 0 then (FX3_goOn_32_b90 (FX3_goOn_32_L40 F) r0 r1 (nI m) r0 u) else (FX3_goOn_32_b90 (FX3_goOn_32_L40 F) r0 r1 (nI m) r1 u)) else FX3_goOn_32_L40 F r0 r1 (nI (m + 1)) u) := by
    intro F
    show FX3_goOn_32_b40 _ _ _ _ _ = _
    unfold FX3_goOn_32_b40 FX3_goOn_32_b155
    rw [if_neg (n12 hm12), hn', if_neg (nle hm (by omega)), rb hm12 (by omega), gwh_23 hX.1 hm12, rb hm12 (by omega), gco hX.1 hm12, nI_1]
  unfold dMarch
  by_cases c1 : W (40 + m) = 1
  · have start2 : ∀ F, FX3_goOn_32_L40 (F + 1) r0 r1 (nI m) u = FX3_goOn_32_b90 (FX3_goOn_32_L40 F) r0 r1 (nI m) (sRest W (W (90 + m))) u := by
      intro F
      rw [start, if_pos c1]
      rcases OkT_co hW.1 m hm12 with e | e
      · rw [e, if_pos rfl, h0]
      · rw [e, if_neg z1, h1]
    rw [if_pos c1]
    by_cases c2 : sRest W (W (90 + m)) = 0
    · rw [if_pos c2]
      obtain ⟨u1, g1⟩ := c_asked_32 hX.1 hW hm (w := 2) (by omega)
      have hX1 := XR_s32 hX (frX3_asked_32 _ _ _ g1)
      by_cases c3 : dAsk W 2 m ≤ 0
      · rw [if_pos c3]
        obtain ⟨u2, g2⟩ := c_asked_32 hX1.1 hW hm (w := 1) (by omega)
        have hX2 := XR_s32 hX1 (frX3_asked_32 _ _ _ g2)
        obtain ⟨l, hl, el⟩ := dAsk_n W (w := 1) (by omega) m
        have hl9 : l ≤ 9 := hl
        obtain ⟨u3, g3, hX3⟩ := c_walk_32 (c := W (90 + m)) (S := sCells W (1 - W (90 + m))) hm12 (OkT_co hW.1 m hm12) 9 l 0 u2 W FU hl9 (by omega) (by show _ < 10000; omega) hX2 hW rfl (fun k hk => cells_tb hW.1 hW.2.1 (by omega))
        rw [el, nt_nI (by omega)]
        refine ⟨u3, hX3, fun F => ?_⟩
        rw [start2, c2]
        unfold FX3_goOn_32_b90 FX3_goOn_32_b108 FX3_goOn_32_b155
        rw [if_pos rfl, show (2 : Int32) = nI 2 by decide, g1, b2_some, if_pos c3, show (1 : Int32) = nI 1 by decide, g2, b2_some]
        have w : FX3_walk_32 (nI m) (dAsk W 1 m) u2 = some u3 := by
          unfold FX3_walk_32 FX3_walk_32_b31
          rw [c_has (gmen hX2.1) hW.1 hm, b_some, if_neg z1, rb hm12 (by omega), gco hX2.1 hm12, c_cells_32 hX2.1 hW.1, b_some, b_some, el]
          rw [nI_0] at g3
          rcases OkT_co hW.1 m hm12 with e | e
          · rw [e] at g3 ⊢; rw [if_pos rfl] at g3 ⊢; exact g3
          · rw [e] at g3 ⊢; rw [if_neg z1] at g3 ⊢; exact g3
        rw [w, b_some, show nI 1 = 1 by decide, nI_1]
      · rw [if_neg c3]
        have hX2 := XR_u32 hX1 hW.1 (j := 0) (by omega) hm12 (mn99 (W (4 + m) + dAsk W 2 m))
        refine ⟨_, hX2, fun F => ?_⟩
        rw [start2, c2]
        unfold FX3_goOn_32_b90 FX3_goOn_32_b108 FX3_goOn_32_b155
        rw [if_pos rfl, show (2 : Int32) = nI 2 by decide, g1, b2_some, if_neg c3, rb hm12 (by omega), gbr_23 hX1.1 hm12, wb hm12 (by omega), nI_1]
        rfl
    · rw [if_neg c2]
      have hX2 := XR_u32 hX hW.1 (j := 0) (by omega) hm12 (mn99 (W (4 + m) + 10))
      refine ⟨_, hX2, fun F => ?_⟩
      rw [start2]
      unfold FX3_goOn_32_b90 FX3_goOn_32_b108 FX3_goOn_32_b155
      rw [if_neg c2, if_neg (by decide), rb hm12 (by omega), gbr_23 hX.1 hm12, wb hm12 (by omega), nI_1]
      rfl
  · rw [if_neg c1]
    exact ⟨u, hX, fun F => by rw [start, if_neg c1]⟩
theorem c_goOn_32 {fa md : Int32} {B : Wt} {u : Mem} {W : Wt} (hX : XR_32 fa md B u W) (hW : WO W) : ∃ u', FX3_goOn_32 u = some u' ∧ XR_32 fa md B u' (dMarches W) ∧ WO (dMarches W) ∧ lf W (dMarches W) := by
  obtain ⟨hn, hn12⟩ := OkT_n hW.1
  have hh := lp_w (fun F i u => FX3_goOn_32_L40 F (sRest W 0) (sRest W 1) i u) (nmen W) (fun u V => XR_32 fa md B u V ∧ WO V ∧ lf W V) dMarch (fun u => some u) (fun i v V hi hV => ?_) (fun v V F hV => ?_) (F := FU) (u := u) (s := W) (by show _ < 10000; omega) ⟨hX, hW, lf_r W⟩
  · obtain ⟨u', ⟨hR, hW', hl⟩, e⟩ := hh
    refine ⟨u', ?_, hR, hW', hl⟩
    unfold FX3_goOn_32
    rw [gday_23 hX.1, c_rest hX.1.1 hW.1, b_some, c_rest hX.1.1 hW.1, b_some]
    exact e
  · obtain ⟨h1, h2, h3⟩ := hV
    have en := s78_n h3.1
    obtain ⟨v', a, b⟩ := c_march1_32 h1 h2 (m := i) (by omega) (sRest_W h3 hW.1 0) (sRest_W h3 hW.1 1)
    obtain ⟨w1, w2⟩ := dMarch_w (m := i) h2 (by omega)
    exact ⟨v', ⟨a, w1, lf_t h3 w2⟩, b⟩
  · obtain ⟨h1, h2, h3⟩ := hV
    have en := s78_n h3.1
    have hn2 := (OkT_n h2.1).1
    show FX3_goOn_32_b40 _ _ _ _ _ = _
    unfold FX3_goOn_32_b40
    rw [gmen h1.1, hn2, en, two_ends _ _ (yle (by omega))]
theorem c_march1_104 {fa md : Int32} {B : Wt} {u : Mem} {W : Wt} {r0 r1 : Int32} (hX : XR_104 fa md B u W) (hW : WO W) {m : Nat} (hm : m < nmen W) (h0 : sRest W 0 = r0) (h1 : sRest W 1 = r1) : ∃ u', XR_104 fa md B u' (dMarch m W) ∧ ∀ F, FX3_goOn_104_L40 (F + 1) r0 r1 (nI m) u = FX3_goOn_104_L40 F r0 r1 (nI (m + 1)) u' := by
  obtain ⟨hn, hn12⟩ := OkT_n hW.1
  have hm12 : m < 12 := by omega
  have hn' : u 1 0 = nI (nmen W) := (gmen hX.1).trans hn
  have start : ∀ F, FX3_goOn_104_L40 (F + 1) r0 r1 (nI m) u = (if W (40 + m) = 1 then (if W (90 + m) = 0 then (FX3_goOn_104_b90 (FX3_goOn_104_L40 F) r0 r1 (nI m) r0 u) else (FX3_goOn_104_b90 (FX3_goOn_104_L40 F) r0 r1 (nI m) r1 u)) else FX3_goOn_104_L40 F r0 r1 (nI (m + 1)) u) := by
    intro F
    show FX3_goOn_104_b40 _ _ _ _ _ = _
    unfold FX3_goOn_104_b40 FX3_goOn_104_b155
    rw [if_neg (n12 hm12), hn', if_neg (nle hm (by omega)), rb hm12 (by omega), gwh_97 hX.1 hm12, rb hm12 (by omega), gco hX.1 hm12, nI_1]
  unfold dMarch
  by_cases c1 : W (40 + m) = 1
  · have start2 : ∀ F, FX3_goOn_104_L40 (F + 1) r0 r1 (nI m) u = FX3_goOn_104_b90 (FX3_goOn_104_L40 F) r0 r1 (nI m) (sRest W (W (90 + m))) u := by
      intro F
      rw [start, if_pos c1]
      rcases OkT_co hW.1 m hm12 with e | e
      · rw [e, if_pos rfl, h0]
      · rw [e, if_neg z1, h1]
    rw [if_pos c1]
    by_cases c2 : sRest W (W (90 + m)) = 0
    · rw [if_pos c2]
      obtain ⟨u1, g1⟩ := c_asked_104 hX.1 hW hm (w := 2) (by omega)
      have hX1 := XR_s104 hX (frX3_asked_104 _ _ _ g1)
      by_cases c3 : dAsk W 2 m ≤ 0
      · rw [if_pos c3]
        obtain ⟨u2, g2⟩ := c_asked_104 hX1.1 hW hm (w := 1) (by omega)
        have hX2 := XR_s104 hX1 (frX3_asked_104 _ _ _ g2)
        obtain ⟨l, hl, el⟩ := dAsk_n W (w := 1) (by omega) m
        have hl9 : l ≤ 9 := hl
        obtain ⟨u3, g3, hX3⟩ := c_walk_104 (c := W (90 + m)) (S := sCells W (1 - W (90 + m))) hm12 (OkT_co hW.1 m hm12) 9 l 0 u2 W FU hl9 (by omega) (by show _ < 10000; omega) hX2 hW rfl (fun k hk => cells_tb hW.1 hW.2.1 (by omega))
        rw [el, nt_nI (by omega)]
        refine ⟨u3, hX3, fun F => ?_⟩
        rw [start2, c2]
        unfold FX3_goOn_104_b90 FX3_goOn_104_b108 FX3_goOn_104_b155
        rw [if_pos rfl, show (2 : Int32) = nI 2 by decide, g1, b2_some, if_pos c3, show (1 : Int32) = nI 1 by decide, g2, b2_some]
        have w : FX3_walk_104 (nI m) (dAsk W 1 m) u2 = some u3 := by
          unfold FX3_walk_104 FX3_walk_104_b31
          rw [c_has (gmen hX2.1) hW.1 hm, b_some, if_neg z1, rb hm12 (by omega), gco hX2.1 hm12, c_cells_104 hX2.1 hW.1, b_some, b_some, el]
          rw [nI_0] at g3
          rcases OkT_co hW.1 m hm12 with e | e
          · rw [e] at g3 ⊢; rw [if_pos rfl] at g3 ⊢; exact g3
          · rw [e] at g3 ⊢; rw [if_neg z1] at g3 ⊢; exact g3
        rw [w, b_some, show nI 1 = 1 by decide, nI_1]
      · rw [if_neg c3]
        have hX2 := XR_u104 hX1 hW.1 (j := 0) (by omega) hm12 (mn99 (W (4 + m) + dAsk W 2 m))
        refine ⟨_, hX2, fun F => ?_⟩
        rw [start2, c2]
        unfold FX3_goOn_104_b90 FX3_goOn_104_b108 FX3_goOn_104_b155
        rw [if_pos rfl, show (2 : Int32) = nI 2 by decide, g1, b2_some, if_neg c3, rb hm12 (by omega), gbr_97 hX1.1 hm12, wb hm12 (by omega), nI_1]
        rfl
    · rw [if_neg c2]
      have hX2 := XR_u104 hX hW.1 (j := 0) (by omega) hm12 (mn99 (W (4 + m) + 10))
      refine ⟨_, hX2, fun F => ?_⟩
      rw [start2]
      unfold FX3_goOn_104_b90 FX3_goOn_104_b108 FX3_goOn_104_b155
      rw [if_neg c2, if_neg (by decide), rb hm12 (by omega), gbr_97 hX.1 hm12, wb hm12 (by omega), nI_1]
      rfl
  · rw [if_neg c1]
    exact ⟨u, hX, fun F => by rw [start, if_neg c1]⟩
theorem c_goOn_104 {fa md : Int32} {B : Wt} {u : Mem} {W : Wt} (hX : XR_104 fa md B u W) (hW : WO W) : ∃ u', FX3_goOn_104 u = some u' ∧ XR_104 fa md B u' (dMarches W) ∧ WO (dMarches W) ∧ lf W (dMarches W) := by
  obtain ⟨hn, hn12⟩ := OkT_n hW.1
  have hh := lp_w (fun F i u => FX3_goOn_104_L40 F (sRest W 0) (sRest W 1) i u) (nmen W) (fun u V => XR_104 fa md B u V ∧ WO V ∧ lf W V) dMarch (fun u => some u) (fun i v V hi hV => ?_) (fun v V F hV => ?_) (F := FU) (u := u) (s := W) (by show _ < 10000; omega) ⟨hX, hW, lf_r W⟩
  · obtain ⟨u', ⟨hR, hW', hl⟩, e⟩ := hh
    refine ⟨u', ?_, hR, hW', hl⟩
    unfold FX3_goOn_104
    rw [gday_97 hX.1, c_rest hX.1.1 hW.1, b_some, c_rest hX.1.1 hW.1, b_some]
    exact e
  · obtain ⟨h1, h2, h3⟩ := hV
    have en := s78_n h3.1
    obtain ⟨v', a, b⟩ := c_march1_104 h1 h2 (m := i) (by omega) (sRest_W h3 hW.1 0) (sRest_W h3 hW.1 1)
    obtain ⟨w1, w2⟩ := dMarch_w (m := i) h2 (by omega)
    exact ⟨v', ⟨a, w1, lf_t h3 w2⟩, b⟩
  · obtain ⟨h1, h2, h3⟩ := hV
    have en := s78_n h3.1
    have hn2 := (OkT_n h2.1).1
    show FX3_goOn_104_b40 _ _ _ _ _ = _
    unfold FX3_goOn_104_b40
    rw [gmen h1.1, hn2, en, two_ends _ _ (yle (by omega))]

