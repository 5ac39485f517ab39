/-! days, in the law and in the system -/
def B1 (B : List WrT) : List WrT := if B.length = 6 then B.tail else B
theorem B1_len {B : List WrT} (h : B.length ≤ 6) : (B1 B).length + 1 ≤ 6 ∧ (B1 B).length = if B.length = 6 then 5 else B.length := by
  unfold B1
  by_cases c : B.length = 6
  · rw [if_pos c, if_pos c, List.length_tail, c]
    exact ⟨by omega, rfl⟩
  · rw [if_neg c, if_neg c]
    exact ⟨by omega, rfl⟩
theorem B1_S (B : List WrT) (x : WrT) : (B1 B ++ [x]).map (fun y => y.2.2) = psh (B.map (fun y => y.2.2)) x.2.2 := pB_S B x
theorem B1_sub (B : List WrT) (l : List WrT) : (B1 B ++ l).Sublist (B ++ l) := by
  unfold B1
  refine List.Sublist.append ?_ (List.Sublist.refl _)
  split
  · exact List.tail_sublist B
  · exact List.Sublist.refl _
theorem r_day1 {w : Wd} {g : Mem} {a l3 D m SL : Nat} {L : Lay} {W : Wt} {B' : List WrT} {ρ : Nat → Option Nat} {P : Wt} (xs : Nat → Int32) (K : Nat → Nat → Int32 → Int32 → Nat → Int32 → Int32 → Int32 → Int32 → Dm Int32) (l5 l11 l12 l13 : Int32) (l10 i : Nat) (h : WJ w W (B' ++ [(a, L, W)]) D) (hK : Kn w l3 (.inr (.inr (1, 6))) ρ P) (hl3 : 146 ≤ l3) (h6 : B'.length + 1 ≤ 6) (hB : ∀ j y, B'[j]? = some y → ρ j = some y.1) (hl : Lw w g) (hR : Rm w (m + 300)) : ∃ w' L' x, (DL_law_b205 SL xs K a l3 (nI B'.length) l5 l10 l11 l12 l13 (nI i)).1 w = (K a l3 (nI (B' ++ [x]).length) l5 l10 l11 l12 (l13 + W 1) (nI (i + 1))).1 w' ∧ x.2.2 = W ∧ WJ w' (dd1 W) ((B' ++ [x]) ++ [(a, L', dd1 W)]) (D + 1) ∧ ArW w' l3 (B' ++ [x]) ∧ Lw w' g ∧ Rm w' m := by
  obtain ⟨w1, x, e1, ex, j1, k1, r1, o1⟩ := WJ_copy (n := m + 260) h hR
  have hK1 := Kn_kp hK k1 (fun z => z)
  have hl1 := Lw_kp hl k1 (fun _ _ z => z)
  obtain ⟨w2, e2, a2, k2, q2⟩ := AR_put hK1 h6 hl3 hB o1
  have hl2 := Lw_kp hl1 k2 (fun c hc z => by have z : c = l3 := z; omega)
  have j2 := WJ_ar j1 hK1.1 k2 hl2.1
  have j2' : WJ w2 W ((B' ++ [x]) ++ [(a, L, W)]) D := by
    rw [List.append_assoc]
    exact j2
  obtain ⟨hv, d, hd, hd'⟩ := WJ_last j2'
  have r2 : Rm w2 (m + 256) := Rm_le (Rm_e r1 q2) (by omega)
  obtain ⟨w3, L3, e3, g3, r3⟩ := r_passes (s := (W, 0)) (n := m) hv r2
  obtain ⟨d1, d2, d3, d4⟩ := dd1_w hv.2.2.1
  have j3 := WJ_go (D' := D + 1) (d := d + 1) j2' g3 d2 d3 (by show dd1 W 0 = _; rw [d4, hd, nI_1]) (by omega) (by omega)
  have k3 := g3.2.1
  have a3 := AR_kp a2 k3 (fun z => RS_l3 hv.1 a2.1 (MW_RS z) rfl)
  have hl3' := Lw_kp hl2 k3 (fun c hc z => by have := hv.2.2.2 c (MW_RS z); omega)
  refine ⟨w3, L3, x, ?_, ex, j3, a3, hl3', r3⟩
  have i0 : isC a 12 w = some () := isC_s (WA_r (WJ_last h).1.1).1
  unfold DL_law_b205
  rw [b_rd i0, b_ok e1, e2, b_rd (g_2 hv.1), b_rd (g_C hv.1), b_ok e3, ← nI_succ, ← nI_succ, List.length_append]
  rfl
theorem days_loop {g : Mem} {a l3 D m SL n r l10 : Nat} {s0 : Wt × List Wt × Int32} (xs : Nat → Int32) (K : Nat → Nat → Int32 → Int32 → Dm Int32) : ∀ (d i F : Nat) (w : Wd) (L : Lay) (W : Wt) (B : List WrT), i + d = n → n ≤ 60 → d < F → WJ w W (B ++ [(a, L, W)]) (D + i) → W = (dsN i s0).1 → B.map (fun y => y.2.2) = (dsN i s0).2.1 → ArW w l3 B → Lw w g → Rm w (m + 300 * d) → ∃ w' L' W' B' F', (DL_law_L162 SL xs K F a l3 (nI B.length) (nI r) l10 0 (nI n) (dsN i s0).2.2 (nI i)).1 w = (DL_law_b162 SL xs K (DL_law_L162 SL xs K F') a l3 (nI B'.length) (nI r) l10 0 (nI n) (dsN n s0).2.2 (nI n)).1 w' ∧ WJ w' W' (B' ++ [(a, L', W')]) (D + n) ∧ W' = (dsN n s0).1 ∧ B'.map (fun y => y.2.2) = (dsN n s0).2.1 ∧ ArW w' l3 B' ∧ Lw w' g ∧ Rm w' m := by
  intro d
  induction d with
  | zero =>
    intro i F w L W B hi h60 hF hJ hW hS hA hl hR
    obtain ⟨F, rfl⟩ : ∃ F', F = F' + 1 := ⟨F - 1, by omega⟩
    have e : i = n := by omega
    subst e
    exact ⟨w, L, W, B, F, rfl, hJ, hW, hS, hA, hl, hR⟩
  | succ d ih =>
    intro i F w L W B hi h60 hF hJ hW hS hA hl hR
    obtain ⟨F, rfl⟩ : ∃ F', F = F' + 1 := ⟨F - 1, by omega⟩
    obtain ⟨b6, bl⟩ := B1_len hA.2.2.1
    have K0 : Kn w l3 (.inr (.inr (1, 6))) (w.2.1 l3) (w.2.2 l3) := ⟨hA.1, rfl, rfl⟩
    -- to the day itself
    have go : ∃ w1 ρ, (DL_law_L162 SL xs K (F + 1) a l3 (nI B.length) (nI r) l10 0 (nI n) (dsN i s0).2.2 (nI i)).1 w = (DL_law_b205 SL xs (DL_law_L162 SL xs K F) a l3 (nI (B1 B).length) (nI r) l10 0 (nI n) (dsN i s0).2.2 (nI i)).1 w1 ∧ Kn w1 l3 (.inr (.inr (1, 6))) ρ (w.2.2 l3) ∧ (∀ j y, (B1 B)[j]? = some y → ρ j = some y.1) ∧ Kp (fun c => c = l3) w w1 ∧ w1.1 = w.1 := by
      by_cases c : B.length = 6
      · obtain ⟨f, hf⟩ := AR_f hA
        have hfw : ∀ i, i < 6 → w.1[f i]? = some (.inr (.inl 12)) := fun i hi => by
          obtain ⟨-, y, y1, y2⟩ := hf i (by omega)
          rw [← y2]
          exact (WA_r (hJ.1 y (List.mem_append_left _ (List.mem_of_getElem? y1))).1.1).1
        have e0 : shR (w.2.1 l3) 1 = w.2.1 l3 := by
          funext i
          unfold shR
          rw [if_neg (by omega)]
        obtain ⟨w1, q1, q2, q3, q4⟩ := sh_loop (fun F' i' => DL_law_L179 SL xs (DL_law_L162 SL xs K F) F' a l3 (nI B.length) (nI r) l10 0 (nI n) (dsN i s0).2.2 (nI i) i') (DL_law_b205 SL xs (DL_law_L162 SL xs K F) a l3 (nI B.length + (-1)) (nI r) l10 0 (nI n) (dsN i s0).2.2 (nI i)) (fun F' i' => rfl) f (fun i hi => (hf i (by omega)).1) 5 0 FU w (by omega) (by show _ < 10000; omega) (by rw [e0]; exact K0) hfw
        have tl : B.tail.length = 5 := by rw [List.length_tail, c]
        have eB : B1 B = B.tail := if_pos c
        refine ⟨w1, _, ?_, q2, fun j y hj => ?_, q3, q4⟩
        · show (DL_law_b162 SL xs K (DL_law_L162 SL xs K F) a l3 (nI B.length) (nI r) l10 0 (nI n) (dsN i s0).2.2 (nI i)).1 w = _
          unfold DL_law_b162
          rw [i_f (by rw [nn_le (by omega) (by omega)]; omega), i_t (by rw [c]; rfl)]
          refine q1.trans ?_
          have e5 : nI B.length + (-1) = nI (B1 B).length := by rw [c, eB, tl]; decide
          rw [e5]
        · rw [eB, List.getElem?_tail] at hj
          have hj1 : j + 1 < 6 := by have := (List.getElem?_eq_some_iff.mp hj).1; omega
          unfold shR
          rw [if_pos hj1]
          exact hA.2.2.2 (j + 1) y hj
      · have eB : B1 B = B := if_neg c
        refine ⟨w, _, ?_, K0, fun j y hj => by rw [eB] at hj; exact hA.2.2.2 j y hj, Kp_rf _ _, rfl⟩
        show (DL_law_b162 SL xs K (DL_law_L162 SL xs K F) a l3 (nI B.length) (nI r) l10 0 (nI n) (dsN i s0).2.2 (nI i)).1 w = _
        unfold DL_law_b162
        rw [i_f (by rw [nn_le (by omega) (by omega)]; omega), i_f (by rw [show (6 : Int32) = nI 6 by decide, nn_eq (by have := hA.2.2.1; omega) (by omega)]; exact c), eB]
    obtain ⟨w1, ρ, e1, K1, hB1, k1, l1⟩ := go
    have hl1 := Lw_kp hl k1 (fun c hc z => by have z : c = l3 := z; have := hA.2.1; omega)
    have j1 := WJ_ar (WJ_sub hJ (B1_sub B [(a, L, W)])) hA.1 k1 hl1.1
    obtain ⟨w2, L2, x, e2, ex, j2, a2, hl2, r2⟩ := r_day1 (SL := SL) (m := m + 300 * d) xs (DL_law_L162 SL xs K F) (nI r) 0 (nI n) (dsN i s0).2.2 l10 i j1 K1 hA.2.1 b6 hB1 hl1 (by rw [show m + 300 * d + 300 = m + 300 * (d + 1) by omega]; exact Rm_e hR l1)
    obtain ⟨w', L', W', B', F', q1, q2⟩ := ih (i + 1) F w2 L2 (dd1 W) (B1 B ++ [x]) (by omega) h60 (by omega) j2 (by rw [hW]; rfl) (by rw [B1_S, ex, hS, hW]; rfl) a2 hl2 r2
    refine ⟨w', L', W', B', F', ?_, q2⟩
    rw [e1, e2]
    have ew : (dsN i s0).2.2 + W 1 = (dsN (i + 1) s0).2.2 := by rw [hW]; rfl
    rw [ew]
    exact q1
theorem r_days {w : Wd} {g : Mem} {a l3 D m SL r l10 : Nat} {L : Lay} {W : Wt} {B : List WrT} (xs : Nat → Int32) (K : Nat → Nat → Int32 → Int32 → Dm Int32) (t0 : Int32) (hi : Nat) (hh : hi = 3 ∨ hi = 12) (h : LwI w g a L W l3 B D) (hD : D ≤ 500) (hR : Rm w (m + 3700)) : ∃ w' g' L' W' B', (DL_law_b151 SL xs K a l3 (nI B.length) (nI r) l10 0 t0 1 (nI hi)).1 w = (K a l3 (nI B'.length) (nI (r + 1))).1 w' ∧ LwI w' g' a L' W' l3 B' (D + 12) ∧ Rm w' m := by
  obtain ⟨hJ, hA, hl, hG⟩ := h
  obtain ⟨n, hn⟩ : ∃ n, n = btN t0 1 hi := ⟨_, rfl⟩
  have bn := btN_r t0 (show 1 ≤ hi by omega)
  rw [← hn] at bn
  obtain ⟨hv, d, hd, hd'⟩ := WJ_last hJ
  obtain ⟨w1, L1, W1, B', F1, e1, j1, q1, q2, a1, l1, r1⟩ := days_loop (SL := SL) (r := r) (l10 := l10) (g := g) (m := m + 1) (n := n) (D := D) (s0 := (W, B.map (fun y => y.2.2), 0)) xs K n 0 FU w L W B (by omega) (by omega) (by show _ < 10000; omega) hJ rfl rfl hA hl (Rm_le hR (by omega))
  obtain ⟨g2, m2, G2⟩ := ge_days hG hv.2.2.1 bn.1 (by omega) (by rw [hd, nI_add, show (9999 : Int32) = nI 9999 by decide, nn_le (by omega) (by omega)]; omega)
  obtain ⟨w2, c1, c2, c3, c4, c5⟩ := b_cl (A_days _) (fun {u v u'} h => frX11_days_0 _ u h) (fun c hc => by simp; omega) l1 m2
  have I2 : LwI w2 g2 a L1 W1 l3 B' (D + 12) := ⟨WJ_D (WJ_cl j1 c4 c1.1) (by omega), AR_kp a1 c4 (by have := a1.2.1; show ¬ l3 < 146; omega), c1, by rw [q1, q2]; exact G2⟩
  obtain ⟨w3, e3, I3, r3⟩ := r_nop (SL := SL) (r := r) (n := m) xs K l10 I2 (Rm_e r1 c2)
  refine ⟨w3, g2, L1, W1, B', ?_, I3, r3⟩
  unfold DL_law_b151
  rw [b_bt _ 1 hi (by omega) (by omega) _ _ (by decide) rfl, ← hn]
  refine e1.trans ?_
  unfold DL_law_b162
  rw [i_t (Int32.le_refl _)]
  refine (c5 _ _).trans ?_
  rw [i_t rfl]
  exact e3
