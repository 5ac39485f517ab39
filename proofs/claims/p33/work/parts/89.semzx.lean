/-! the class reads a sum -/
theorem d_sumE {u : Mem} (h : txD u) (F : Nat) (l1 l3 : Int32) : dSim u (FX6_sum_34_b119 (FX6_sum_34_L6 (F + 1)) l1 l3 u) := by
  have key : ∀ u', txD u' → dSim u' (FX6_sum_34_b131 (FX6_sum_34_L6 (F + 1)) l3 u') := by
    intro u' h'
    unfold FX6_sum_34_b131 FX6_sum_34_b147 FX6_sum_34_b171
    rw [h'.1, if_neg (by decide), c_takeD h' (by decide), b2_some, if_pos rfl, c_takeD h' (by decide), b2_some, if_pos rfl]
    have e : FX6_sum_34_L6 (F + 1) (-11) 0 (l3 + 1) u' = some u' := by
      show FX6_sum_34_b6 _ _ _ _ _ = _
      unfold FX6_sum_34_b6
      rw [if_pos rfl, ite_self]
    rw [e]; exact dSim_r h'
  unfold FX6_sum_34_b119
  by_cases c : l1 = 0
  · rw [if_pos c]; exact key u h
  · rw [if_neg c]; exact dSim_b h (d_put h l1) key
theorem d_sumL {u : Mem} (h : txD u) (F F2 : Nat) (l1 l3 l4 : Int32) : dSim u (FX6_sum_34_L24 (FX6_sum_34_L6 (F + 1)) (F2 + 1) l1 l3 l4 u) := by
  show dSim u (FX6_sum_34_b24 _ _ _ _ _ _)
  unfold FX6_sum_34_b24
  rw [h.1]
  by_cases c : (400 : Int32) < l4
  · rw [if_pos c]; exact d_sumE h F l1 l3
  · rw [if_neg c, if_neg (by decide), if_neg (by decide)]; exact d_sumE h F l1 l3
theorem d_sum {u : Mem} (h : txD u) : dSim u (FX6_sum_34 u) := by
  have e : FX6_sum_34 u = FX6_sum_34_b6 (FX6_sum_34_L6 9999) 0 1 0 u := rfl
  rw [e]
  unfold FX6_sum_34_b6
  rw [if_neg (by decide), if_neg (by decide), d_unit h, b_some]
  exact d_sumL h 9998 9999 0 0 0
/-- a sign that waits -/
def pnd : Nat → pxT → pxT
  | 0, o => o
  | s, o => o ++ [(s, 0)]
theorem pnd_l {s : Nat} (hs : s = 0 ∨ s = 23 ∨ s = 24) (o : pxT) : encL (pnd s o) = encL o + (if s = 0 then 0 else 1) := by
  rcases hs with rfl | rfl | rfl
  · rfl
  · exact encL_app _ _
  · exact encL_app _ _
def pndI (s : Nat) : Int32 := if s = 0 then 0 else cod s
theorem nmul_401 {i : Nat} {x y : Option Mem} (h : i ≤ 400) : (if (400 : Int32) < nI i then x else y) = y := if_neg (by rw [li_lt (by decide) (by omega)]; show ¬ 400 < i; omega)
theorem c_pend {s : Nat} (hs : s = 0 ∨ s = 23 ∨ s = 24) {o : pxT} {u : Mem} (hC : txC o u) (hl : encL o < 400) (g : Mem → Option Mem) (F : Nat) (l3 : Int32) : ∃ u', FX6_sum_34_b119 (FX6_sum_34_L6 F) (pndI s) l3 u = FX6_sum_34_b131 (FX6_sum_34_L6 F) l3 u' ∧ txC (pnd s o) u' ∧ txP u u' := by
  unfold FX6_sum_34_b119
  rcases hs with rfl | rfl | rfl
  · exact ⟨u, by rw [if_pos (show pndI 0 = 0 from rfl)], hC, fun _ _ _ => rfl, fun _ _ => rfl⟩
  · obtain ⟨u', e, h, p⟩ := c_put hC hl (s := 23) (v := 0) (x := pndI 23) (by decide) (by decide)
    exact ⟨u', by rw [if_neg (show ¬ pndI 23 = 0 by decide), e, b_some], h, p⟩
  · obtain ⟨u', e, h, p⟩ := c_put hC hl (s := 24) (v := 0) (x := pndI 24) (by decide) (by decide)
    exact ⟨u', by rw [if_neg (show ¬ pndI 24 = 0 by decide), e, b_some], h, p⟩
theorem c_sumE {K V Q : Nat → Nat} {N : Nat} (hZ : pxZ K V N) {u0 u : Mem} {i F24 F6 lm la s l3 l4 : Nat} {o : pxT} (hi : i = N) (h24 : 0 < F24) (h6 : 0 < F6) (hm : 0 < lm) (ha : 0 < la) (h3 : l3 ≤ i) (h4 : l4 ≤ i) (hs : s = 0 ∨ s = 23 ∨ s = 24) (hA : txA K V Q N i u) (hC : txC o u) (hl : encL (pnd s o) ≤ i) (hG : txG u0 u) : cSim K V Q N u0 (pxB (pxMul K V lm i o) (fun j o1 => pxAdd K V la j (pnd s o1))) (FX6_sum_34_L24 (FX6_sum_34_L6 F6) F24 (pndI s) (nI l3) (nI l4) u) := by
  obtain ⟨f24, rfl⟩ : ∃ f, F24 = f + 1 := ⟨F24 - 1, by omega⟩
  obtain ⟨f6, rfl⟩ : ∃ f, F6 = f + 1 := ⟨F6 - 1, by omega⟩
  obtain ⟨lm, rfl⟩ : ∃ f, lm = f + 1 := ⟨lm - 1, by omega⟩
  obtain ⟨la, rfl⟩ : ∃ f, la = f + 1 := ⟨la - 1, by omega⟩
  have hN := hZ.1.1
  have hlp := pnd_l hs o
  have k0 : K i = 0 := by
    rcases Nat.eq_zero_or_pos (K i) with h | h
    · exact h
    · have := hZ.1.2 i (by omega) (by omega); omega
  have em : pxMul K V (lm + 1) i o = .inr (i, o) := by unfold pxMul; rw [if_neg (by omega), if_neg (by omega)]
  have ea : pxAdd K V (la + 1) i (pnd s o) = .inr (i, pnd s o) := by unfold pxAdd; rw [if_neg (by omega), if_neg (by omega)]
  rw [em, pxB_r, ea]
  by_cases hlt : encL o < 400
  · obtain ⟨u1, x1, hC1, p1⟩ := c_pend hs hC hlt (fun u => some u) (f6 + 1) (nI l3)
    have hA1 := txA_P hA p1
    have e : FX6_sum_34_L24 (FX6_sum_34_L6 (f6 + 1)) (f24 + 1) (pndI s) (nI l3) (nI l4) u = some u1 := by
      show FX6_sum_34_b24 _ _ _ _ _ _ = _
      unfold FX6_sum_34_b24
      rw [nmul_401 (by omega), hA.2.2.2.1, k0, if_neg (by decide), if_neg (by decide), x1]
      unfold FX6_sum_34_b131 FX6_sum_34_b147 FX6_sum_34_b171
      rw [hA1.2.2.2.1, k0, if_neg (by decide), c_takeN hA1 (by rw [k0]; decide), b2_some, if_pos rfl, c_takeN hA1 (by rw [k0]; decide), b2_some, if_pos rfl]
      show FX6_sum_34_b6 _ _ _ _ _ = _
      unfold FX6_sum_34_b6
      rw [if_pos rfl, ite_self]
    rw [e]
    exact cSim_G (txG_t hG (txG_P p1)) (cSim_n hA1 hC1 hl)
  · have hs0 : s = 0 := by
      rcases hs with h | h | h
      · exact h
      · rw [if_neg (by omega)] at hlp; omega
      · rw [if_neg (by omega)] at hlp; omega
    subst hs0
    have e : FX6_sum_34_L24 (FX6_sum_34_L6 (f6 + 1)) (f24 + 1) (pndI 0) (nI l3) (nI l4) u = some u := by
      show FX6_sum_34_b24 _ _ _ _ _ _ = _
      unfold FX6_sum_34_b24 FX6_sum_34_b119
      rw [nmul_401 (by omega), hA.2.2.2.1, k0, if_neg (by decide), if_neg (by decide), if_pos (show pndI 0 = 0 from rfl)]
      unfold FX6_sum_34_b131 FX6_sum_34_b147 FX6_sum_34_b171
      rw [hA.2.2.2.1, k0, if_neg (by decide), c_takeN hA (by rw [k0]; decide), b2_some, if_pos rfl, c_takeN hA (by rw [k0]; decide), b2_some, if_pos rfl]
      show FX6_sum_34_b6 _ _ _ _ _ = _
      unfold FX6_sum_34_b6
      rw [if_pos rfl, ite_self]
    rw [e]
    exact cSim_G hG (cSim_n hA hC hl)
theorem c_sumL {K V Q : Nat → Nat} {N : Nat} (hZ : pxZ K V N) {u0 : Mem} : ∀ (d i : Nat) (o : pxT) (u : Mem) (F24 F6 lm la s l3 l4 : Nat), d ≤ 400 → N - i ≤ d → d < F24 → d < F6 → d < lm → d < la → l3 ≤ i → l4 ≤ i → (s = 0 ∨ s = 23 ∨ s = 24) → txA K V Q N i u → txC o u → encL (pnd s o) ≤ i → txG u0 u → cSim K V Q N u0 (pxB (pxMul K V lm i o) (fun j o1 => pxAdd K V la j (pnd s o1))) (FX6_sum_34_L24 (FX6_sum_34_L6 F6) F24 (pndI s) (nI l3) (nI l4) u) := by
  intro d
  induction d with
  | zero =>
    intro i o u F24 F6 lm la s l3 l4 hd4 hd h24 h6 hm ha h3 h4 hs hA hC hl hG
    exact c_sumE hZ (by have := hA.2.1; omega) h24 h6 hm ha h3 h4 hs hA hC hl hG
  | succ d ih =>
    intro i o u F24 F6 lm la s l3 l4 hd4 hd h24 h6 hm ha h3 h4 hs hA hC hl hG
    have hN := hZ.1.1
    have hiN := hA.2.1
    have hlp := pnd_l hs o
    by_cases hend : i = N
    · exact c_sumE hZ hend (by omega) (by omega) (by omega) (by omega) h3 h4 hs hA hC hl hG
    obtain ⟨f24, rfl⟩ : ∃ f, F24 = f + 1 := ⟨F24 - 1, by omega⟩
    obtain ⟨f6, rfl⟩ : ∃ f, F6 = f + 1 := ⟨F6 - 1, by omega⟩
    obtain ⟨lm, rfl⟩ : ∃ f, lm = f + 1 := ⟨lm - 1, by omega⟩
    obtain ⟨la, rfl⟩ : ∃ f, la = f + 1 := ⟨la - 1, by omega⟩
    have hKi := hZ.2.2 i
    have start : FX6_sum_34_L24 (FX6_sum_34_L6 (f6 + 1)) (f24 + 1) (pndI s) (nI l3) (nI l4) u = (if K i = 42 then FX6_sum_34_b50 (FX6_sum_34_L24 (FX6_sum_34_L6 (f6 + 1)) f24) (pndI s) (nI l3) (nI l4) u else if K i = 47 then FX6_sum_34_b50 (FX6_sum_34_L24 (FX6_sum_34_L6 (f6 + 1)) f24) (pndI s) (nI l3) (nI l4) u else FX6_sum_34_b119 (FX6_sum_34_L6 (f6 + 1)) (pndI s) (nI l3) u) := by
      show FX6_sum_34_b24 _ _ _ _ _ _ = _
      unfold FX6_sum_34_b24
      rw [nmul_401 (by omega), hA.2.2.2.1]
      by_cases c : K i = 42
      · rw [if_pos (nk c), if_pos c]
      · rw [if_neg (nkn hKi (by decide) c), if_neg c]
        by_cases c2 : K i = 47
        · rw [if_pos (nk c2), if_pos c2]
        · rw [if_neg (nkn hKi (by decide) c2), if_neg c2]
    rw [start]
    have tail : ∀ u', txD u' → dSim u' (FX6_sum_34_b113 (FX6_sum_34_L24 (FX6_sum_34_L6 (f6 + 1)) f24) (pndI s) (nI l3) (nI l4) u') := fun u' h' => by
      unfold FX6_sum_34_b113
      obtain ⟨g, hg⟩ : ∃ g, f24 = g + 1 := ⟨f24 - 1, by omega⟩
      rw [hg]; exact d_sumL h' f6 g _ _ _
    by_cases c : K i = 42
    · have hi := hZ.1.2 i hiN (by omega)
      rw [if_pos c]
      unfold pxMul FX6_sum_34_b50
      rw [if_pos c, c_takeY hZ hA (nk c) (by omega), b2_some, if_neg z1, pxB_a]
      have hA1 := txGo_A (j := i + 1) hA (by omega)
      have hG1 := txG_t hG (txGo_G K u (i + 1))
      refine cSim_b (gUnit hZ.1 (show i + 1 ≤ N by omega) o) (cSim_G hG1 (c_unit hZ hA1 (txGo_C hC) (by omega))) (fun j o1 u1 k1 k2 k3 kG kA kC kl => ?_) (fun u1 h1 => dSim_b h1 (d_put h1 _) tail)
      obtain ⟨u2, e2, hC2, p2⟩ := c_put kC (show encL o1 < 400 by omega) (s := 25) (v := 0) (x := -12) (by decide) (by decide)
      rw [e2, b_some]
      unfold FX6_sum_34_b113
      rw [nI_1]
      have hl2 : encL (pnd s (o1 ++ [(25, 0)])) ≤ j := by
        rw [pnd_l hs, encL_app, encL_1 (by decide)]; omega
      exact ih j (o1 ++ [(25, 0)]) u2 f24 (f6 + 1) lm (la + 1) s l3 (l4 + 1) (by omega) (by omega) (by omega) (by omega) (by omega) (by omega) (by omega) (by omega) hs (txA_P kA p2) hC2 hl2 (txG_t kG (txG_P p2))
    · rw [if_neg c]
      by_cases c2 : K i = 47
      · have hi := hZ.1.2 i hiN (by omega)
        rw [if_pos c2]
        unfold pxMul FX6_sum_34_b50
        have hA1 := txGo_A (j := i + 1) hA (by omega)
        have hG1 := txG_t hG (txGo_G K u (i + 1))
        rw [if_neg c, if_pos c2, c_takeN hA (nkn hKi (by decide) c), b2_some, if_pos rfl, hA.2.2.1, nI_1, c_go hN hA.1 (show i + 1 ≤ N by omega), b_some]
        have dead : ∀ (f : Nat) (u1 : Mem), f ≠ 0 → f < 4 → txG (txGo K u (i + 1)) u1 → txX Q f (i + 1) u1 → cSim K V Q N u0 (.inl (f, i + 1)) (bnd2 (some ((-1 : Int32), u1)) fun x6 u7 => (FX4_put_39 (if 0 < x6 then x6 else 0) u7).bind fun u9 => (FX4_put_39 (-13) u9).bind fun u11 => FX6_sum_34_b113 (FX6_sum_34_L24 (FX6_sum_34_L6 (f6 + 1)) f24) (pndI s) (nI l3) (nI l4) u11) := by
          intro f u1 hf hf4 g1 x1
          have hD : txD u1 := ⟨x1.1, by rw [x1.2.1]; exact nI_f hf hf4⟩
          rw [b2_some]
          exact cSim_d (txG_t hG1 g1) x1 (dSim_b hD (d_put hD _) (fun u2 h2 => dSim_b h2 (d_put h2 _) tail))
        unfold FX6_number_34
        rw [hA1.2.2.2.1]
        by_cases e1 : K (i + 1) = 1
        · have hi1 := hZ.1.2 (i + 1) (by omega) (by omega)
          have hv := hZ.2.1 (i + 1) e1
          rw [if_pos (nk e1), if_pos e1, hA1.2.2.1, if_neg (nI_pos (by omega)), if_pos (show nI (i + 1) < (401 : Int32) by rw [lt_li (by decide) (by omega)]; show i + 1 < 401; omega), rb (by omega) (by omega), (hA1.1.2 (i + 1) (by omega)).2.2 e1, if_neg (show ¬ (9999 : Int32) < nI (V (i + 1)) by rw [li_lt (by decide) (by omega)]; show ¬ 9999 < V (i + 1); omega)]
          by_cases e2 : V (i + 1) = 0
          · rw [if_pos e2, if_pos (show nI (V (i + 1)) = 0 by rw [e2]; exact nI_0)]
            unfold FX6_number_34_b54
            obtain ⟨u1, x1, x2, x3⟩ := c_fail hN hA1 2
            have x1 : FX6_fail_34 2 (txGo K u (i + 1)) = some u1 := x1
            rw [x1, b_some]
            exact dead 2 u1 (by decide) (by decide) x2 x3
          · have hA2 := txGo_A (j := i + 2) hA1 (by omega)
            rw [if_neg (nI_ne0 (by omega) (by omega)), if_neg e2, nI_1, c_go hN hA1.1 (show i + 1 + 1 ≤ N by omega), b_some, b2_some, pos_i _ (by omega)]
            have hC2 := txGo_C (K := K) (j := i + 1 + 1) (txGo_C (K := K) (j := i + 1) hC)
            obtain ⟨u3, x1, x2, x3⟩ := c_put2 hC2 (show encL o + 1 < 400 by omega) (V (i + 1))
            have e3 : ∀ g : Mem → Option Mem, ((FX4_put_39 (nI (V (i + 1))) (txGo K (txGo K u (i + 1)) (i + 1 + 1))).bind fun u9 => (FX4_put_39 (-13) u9).bind g) = g u3 := by
              intro g
              have := congrArg (fun z => Option.bind z g) x1
              rw [Option.bind_assoc, b_some] at this
              exact this
            rw [e3]
            unfold FX6_sum_34_b113
            rw [nI_1]
            have hl2 : encL (pnd s (o ++ [(26, V (i + 1))])) ≤ i + 2 := by
              rw [pnd_l hs, encL_app, encL_2]; omega
            exact ih (i + 2) (o ++ [(26, V (i + 1))]) u3 f24 (f6 + 1) lm (la + 1) s l3 (l4 + 1) (by omega) (by omega) (by omega) (by omega) (by omega) (by omega) (by omega) (by omega) hs (txA_P hA2 x3) x2 hl2 (txG_t hG1 (txG_t (txGo_G _ _ _) (txG_P x3)))
        · rw [if_neg (nkn (hZ.2.2 (i + 1)) (by decide) e1), if_neg e1]
          unfold FX6_number_34_b27
          obtain ⟨u1, x1, x2, x3⟩ := c_fail hN hA1 1
          have x1 : FX6_fail_34 1 (txGo K u (i + 1)) = some u1 := x1
          rw [x1, b_some]
          exact dead 1 u1 (by decide) (by decide) x2 x3
      · rw [if_neg c2]
        have em : pxMul K V (lm + 1) i o = .inr (i, o) := by unfold pxMul; rw [if_neg c, if_neg c2]
        rw [em, pxB_r]
        obtain ⟨u1, x1, hC1, p1⟩ := c_pend hs hC (show encL o < 400 by omega) (FX6_sum_34_b131 (FX6_sum_34_L6 (f6 + 1)) (nI l3)) (f6 + 1) (nI l3)
        rw [x1]
        have hA1 := txA_P hA p1
        have hG1 := txG_t hG (txG_P p1)
        unfold FX6_sum_34_b131 FX6_sum_34_b147 FX6_sum_34_b171 pxAdd
        rw [hA1.2.2.2.1]
        have more : ∀ (s' : Nat), (s' = 23 ∨ s' = 24) → K i ≠ 0 → cSim K V Q N u0 (pxB (pxProd K V (i + 1) (pnd s o)) (fun j o1 => pxAdd K V la j (o1 ++ [(s', 0)]))) (FX6_sum_34_L6 (f6 + 1) (pndI s') 1 (nI l3 + 1) (txGo K u1 (i + 1))) := by
          intro s' hs' h0
          have hi := hZ.1.2 i hiN h0
          show cSim K V Q N u0 _ (FX6_sum_34_b6 _ _ _ _ _)
          unfold FX6_sum_34_b6 pxProd
          rw [nI_1, nmul_401 (by omega), if_neg z1, pxB_a]
          have hA2 := txGo_A (j := i + 1) hA1 (by omega)
          have hG2 := txG_t hG1 (txGo_G K u1 (i + 1))
          refine cSim_b (gUnit hZ.1 (show i + 1 ≤ N by omega) (pnd s o)) (cSim_G hG2 (c_unit hZ hA2 (txGo_C hC1) (by omega))) (fun j o1 u2 k1 k2 k3 kG kA kC kl => ?_) (fun u2 h2 => ?_)
          · have ep : (fun j o1 => pxAdd K V la j (o1 ++ [(s', 0)])) = (fun j o1 => pxAdd K V la j (pnd s' o1)) := by
              rcases hs' with rfl | rfl <;> rfl
            rw [ep]
            have hl2 : encL (pnd s' o1) ≤ j := by
              rw [pnd_l (by omega)]; split <;> omega
            have h0 := ih j o1 u2 FU f6 401 la s' (l3 + 1) 0 (by omega) (by omega) (by show _ < 10000; omega) (by omega) (by omega) (by omega) (by omega) (by omega) (by omega) kA kC hl2 kG
            rw [nI_0] at h0
            exact h0
          · obtain ⟨g, hg⟩ : ∃ g, f6 = g + 1 := ⟨f6 - 1, by omega⟩
            rw [hg]; exact d_sumL h2 g 9999 _ _ _
        by_cases c3 : K i = 43
        · rw [if_pos c3, if_pos (nk c3), c_takeY hZ hA1 (nk c3) (by omega), b2_some, if_neg z1]
          exact more 23 (Or.inl rfl) (by omega)
        · rw [if_neg c3, if_neg (nkn hKi (by decide) c3), c_takeN hA1 (nkn hKi (by decide) c3), b2_some, if_pos rfl]
          by_cases c4 : K i = 45
          · rw [if_pos c4, c_takeY hZ hA1 (nk c4) (by omega), b2_some, if_neg z1]
            exact more 24 (Or.inr rfl) (by omega)
          · rw [if_neg c4, c_takeN hA1 (nkn hKi (by decide) c4), b2_some, if_pos rfl]
            have e : FX6_sum_34_L6 (f6 + 1) (-11) 0 (nI l3 + 1) u1 = some u1 := by
              show FX6_sum_34_b6 _ _ _ _ _ = _
              unfold FX6_sum_34_b6
              rw [if_pos rfl, ite_self]
            rw [e]
            exact cSim_G hG1 (cSim_n hA1 hC1 hl)
theorem c_sum {K V Q : Nat → Nat} {N : Nat} (hZ : pxZ K V N) {i : Nat} {o : pxT} {u : Mem} (hA : txA K V Q N i u) (hC : txC o u) (hl : encL o ≤ i) : cSim K V Q N u (pxSum K V i o) (FX6_sum_34 u) := by
  have hN := hZ.1.1
  have e : FX6_sum_34 u = FX6_sum_34_b6 (FX6_sum_34_L6 9999) 0 1 0 u := rfl
  rw [e]
  unfold FX6_sum_34_b6 pxSum pxProd
  rw [if_neg (by decide), if_neg z1, pxB_a]
  refine cSim_b (gUnit hZ.1 hA.2.1 o) (c_unit hZ hA hC hl) (fun j o1 u2 k1 k2 k3 kG kA kC kl => ?_) (fun u2 h2 => d_sumL h2 9998 9999 _ _ _)
  have h0 := c_sumL hZ (u0 := u) 400 j o1 u2 FU 9999 401 401 0 0 0 (Nat.le_refl _) (by omega) (by decide) (by decide) (by decide) (by decide) (by omega) (by omega) (Or.inl rfl) kA kC kl kG
  rw [nI_0] at h0
  exact h0

