/-! marches -/
theorem sub_nn {a b : Nat} (ha : a < 1000000) (hb : b < 1000000) : (0 ≤ nI a - nI b) = (b ≤ a) := by
  rw [i_le]
  have e : (nI a - nI b < 0) = (a < b) := by
    refine propext ?_
    rw [Int32.lt_iff_toInt_lt, nI_subI ha hb]
    show (a : Int) - b < 0 ↔ _
    omega
  rw [e]
  exact propext (by omega)
theorem nx_eq {c x : Int32} (hc : c = 0 ∨ c = 1) : (x + 1) - (2 * c) = nxt c x := by
  unfold nxt
  rcases hc with rfl | rfl
  · rw [if_pos rfl, show (2 : Int32) * 0 = 0 by decide, Int32.sub_zero]
  · rw [if_neg (by decide), show (2 : Int32) * 1 = 2 by decide, Int32.sub_eq_add_neg, Int32.add_assoc, show (1 : Int32) + -2 = -1 by decide]
def wOn (m : Nat) (c : Int32) (l : Nat) (W : Wt) : Prop := ¬ nxt c (W (52 + m)) < 0 ∧ ¬ 15 < nxt c (W (52 + m)) ∧ ¬ sHeld W (1 - c) (W (52 + m)) = true ∧ hcost W (nxt c (W (52 + m))) ≤ l
theorem r_walk1 {w : Wd} {a : Nat} {L : Lay} {W : Wt} (h : Wv w a L W) {m : Nat} (hm : m < nmen W) (hw : W (40 + m) = 1) {l : Nat} (hl : l < 100) (k200 : Nat → Int32 → Int32 → Int32 → Dm Unit) (F : Nat) : (¬ wOn m (W (90 + m)) l W ∧ (DX12_passes_L302 k200 (F + 1) a 1 1 (nI m) (L.2.1 m) (nI l)).1 w = (k200 a 1 1 (nI (m + 1))).1 w) ∨ (wOn m (W (90 + m)) l W ∧ ∃ w', (DX12_passes_L302 k200 (F + 1) a 1 1 (nI m) (L.2.1 m) (nI l)).1 w = (DX12_passes_L302 k200 F a 1 1 (nI m) (L.2.1 m) (nI (l - hcost W (nxt (W (90 + m)) (W (52 + m)))))).1 w' ∧ Go w a L W w' L (upd W (52 + m) (nxt (W (90 + m)) (W (52 + m)))) ∧ w'.1 = w.1) := by
  obtain ⟨hA, ho, hW, hb⟩ := id h
  have hT := hW.1
  have h12 := (OkT_n hT).2
  have hc := OkT_co hT m (by omega)
  obtain ⟨j, hj, ej⟩ := OkD_ce hW.2.1 m (by omega)
  show (_ ∧ (DX12_passes_b302 _ _ _ _ _ _ _ _).1 w = _) ∨ (_ ∧ ∃ w', (DX12_passes_b302 _ _ _ _ _ _ _ _).1 w = _ ∧ _)
  unfold DX12_passes_b302 DX12_passes_b385
  rw [b_rd (g_m7 hA hm hw), b_rd (g_m0 hA hm), nx_eq hc, nI_succ]
  by_cases c1 : nxt (W (90 + m)) (W (52 + m)) < 0
  · exact Or.inl ⟨fun z => z.1 c1, by rw [i_t c1]⟩
  by_cases c2 : 15 < nxt (W (90 + m)) (W (52 + m))
  · exact Or.inl ⟨fun z => z.2.1 c2, by rw [i_f c1, i_t c2]⟩
  rw [i_f c1, i_f c2, b_rd (g_m0 hA hm), b_rd (g_m7 hA hm hw), b_rd (g_C hA), b_ok (r_stands hA hT _ _)]
  by_cases c3 : sHeld W (1 - W (90 + m)) (W (52 + m)) = true
  · exact Or.inl ⟨fun z => z.2.2.1 c3, by rw [if_pos c3, i_f z1]⟩
  rw [if_neg c3, i_t rfl, b_rd (g_8 hA)]
  obtain ⟨k, hk, ek⟩ : ∃ k, k < 16 ∧ nxt (W (90 + m)) (W (52 + m)) = nI k := by
    rcases nxt_c (W (90 + m)) hj with q | q | q
    · rw [ej]; exact q
    · rw [ej, q] at c1; exact absurd (by decide) c1
    · rw [ej, q] at c2; exact absurd (by decide) c2
  have hh : (1 : Int32) + ((sHills W >>> (nxt (W (90 + m)) (W (52 + m)) &&& 31)) &&& 1) = nI (hcost W (nxt (W (90 + m)) (W (52 + m)))) := by
    rw [ek, bit1 _ (by omega)]
    unfold hcost
    rw [nt_nI (by omega)]
    have q := hills_tb hT hk
    by_cases z : W (126 + k) = 1
    · rw [if_pos z, if_pos (q.mpr z)]; rfl
    · rw [if_neg z, if_neg (fun y => z (q.mp y))]; rfl
  have hcl : hcost W (nxt (W (90 + m)) (W (52 + m))) ≤ 2 := by unfold hcost; split <;> omega
  rw [hh]
  by_cases c4 : hcost W (nxt (W (90 + m)) (W (52 + m))) ≤ l
  · refine Or.inr ⟨⟨c1, c2, c3, c4⟩, ?_⟩
    rw [i_t (by rw [sub_nn (by omega) (by omega)]; exact c4), b_row0 (row_of hA hm) 7 7 _ (by decide) (by decide) (by decide), nI_sub c4]
    have hW' : WO (upd W (52 + m) (nxt (W (90 + m)) (W (52 + m)))) := WO_u hW (s78_u (by omega)) (OkD_uce hW.2.1 (by omega) ⟨k, hk, ek⟩)
    exact ⟨_, rfl, Go_ce h hm hW', rfl⟩
  · exact Or.inl ⟨fun z => c4 z.2.2.2, by rw [i_f (by rw [sub_nn (by omega) (by omega)]; exact c4)]⟩
theorem r_walk {a : Nat} {L : Lay} {m : Nat} {c : Int32} (k200 : Nat → Int32 → Int32 → Int32 → Dm Unit) : ∀ (f l F : Nat) (w : Wd) (W : Wt), l ≤ f → l < 100 → l < F → Wv w a L W → m < nmen W → W (40 + m) = 1 → W (90 + m) = c → ∃ w', (DX12_passes_L302 k200 F a 1 1 (nI m) (L.2.1 m) (nI l)).1 w = (k200 a 1 1 (nI (m + 1))).1 w' ∧ Go w a L W w' L (dWk m c f l W) ∧ w'.1 = w.1 := by
  intro f
  induction f with
  | zero =>
    intro l F w W hl hl1 hF h hm hw hc
    obtain ⟨F, rfl⟩ : ∃ F', F = F' + 1 := ⟨F - 1, by omega⟩
    rcases r_walk1 h hm hw hl1 k200 F with ⟨-, q⟩ | ⟨q, -⟩
    · exact ⟨w, q, Go_rf h, rfl⟩
    · have q4 := q.2.2.2
      have : 1 ≤ hcost W (nxt (W (90 + m)) (W (52 + m))) := by unfold hcost; split <;> omega
      omega
  | succ f ih =>
    intro l F w W hl hl1 hF h hm hw hc
    obtain ⟨F, rfl⟩ : ∃ F', F = F' + 1 := ⟨F - 1, by omega⟩
    have h12 := (OkT_n h.2.2.1.1).2
    rcases r_walk1 h hm hw hl1 k200 F with ⟨p, q⟩ | ⟨p, w1, q1, q2, q3⟩
    · refine ⟨w, q, ?_, rfl⟩
      have e : dWk m c (f + 1) l W = W := by
        rw [hc] at p
        unfold dWk
        exact if_neg (fun z => p ⟨z.2.1, z.2.2.1, z.2.2.2.1, z.2.2.2.2⟩)
      rw [e]
      exact Go_rf h
    · rw [hc] at p q1 q2
      have h1 : 1 ≤ hcost W (nxt c (W (52 + m))) := by unfold hcost; split <;> omega
      have h2 := p.2.2.2
      have e : dWk m c (f + 1) l W = dWk m c f (l - hcost W (nxt c (W (52 + m)))) (upd W (52 + m) (nxt c (W (52 + m)))) := by
        conv => lhs; unfold dWk
        exact if_pos ⟨by omega, p.1, p.2.1, p.2.2.1, p.2.2.2⟩
      obtain ⟨w', r1, r2, r3⟩ := ih (l - hcost W (nxt c (W (52 + m)))) F w1 _ (by omega) (by omega) (by omega) q2.1 (by rw [q2.2.2.2.2.1]; exact hm) (by rw [up_ne (by omega)]; exact hw) (by rw [up_ne (by omega)]; exact hc)
      rw [e]
      exact ⟨w', q1.trans r1, Go_tr q2 r2, r3.trans q3⟩
theorem r_march1 {w : Wd} {a : Nat} {L : Lay} {W : Wt} (h : Wv w a L W) {m : Nat} (hm : m < nmen W) (F : Nat) : ∃ w', (DX12_passes_L200 (F + 1) a 1 1 (nI m)).1 w = (DX12_passes_L200 F a 1 1 (nI (m + 1))).1 w' ∧ Go w a L W w' L (dMarch m W) ∧ w'.1 = w.1 := by
  obtain ⟨hA, ho, hW, hb⟩ := id h
  have hT := hW.1
  have h12 := (OkT_n hT).2
  show ∃ w', (DX12_passes_b200 _ _ _ _ _).1 w = _ ∧ _
  have hw := (dMarch_w hW (m := m) (by omega)).1
  unfold DX12_passes_b200 DX12_passes_b385
  unfold dMarch at hw ⊢
  rw [b_rd (g_6 hA), i_f (by rw [le_n hT (by omega)]; omega), i_f z1, b_rd (g_R hA 16 (by decide) (by decide)), b_rd (g_man hA hT hm), b_rd (g_m6 hA hm), nI_succ]
  by_cases c1 : W (40 + m) = 1
  · rw [if_pos c1] at hw
    rw [i_t c1, if_pos c1, b_rd (g_C hA), b_ok (r_say2 hA ho hW hm), b_rd (g_m0 hA hm), b_rd (g_C hA), b_ok (r_rests hA hT _)]
    by_cases c2 : sRest W (W (90 + m)) = 0
    · rw [if_pos c2] at hw
      rw [i_t c2, if_pos c2]
      by_cases c3 : dAsk W 2 m ≤ 0
      · rw [if_pos c3] at hw
        obtain ⟨l, hl, el⟩ := dAsk_n W (show 1 < 4 by decide) m
        have hl9 : l ≤ 9 := hl
        rw [i_t c3, if_pos c3, b_rd (g_C hA), b_ok (r_say1 hA ho hW hm), el, nt_nI (by omega)]
        obtain ⟨w', q1, q2, q3⟩ := r_walk (DX12_passes_L200 F) 9 l FU w W hl9 (by omega) (by show _ < 10000; omega) h hm c1 rfl
        rw [nI_succ] at q1
        exact ⟨w', q1, q2, q3⟩
      · rw [if_neg c3] at hw
        rw [i_f c3, if_neg c3, b_rd (g_m3 hA hm), b_row0 (row_of hA hm) 3 3 _ (by decide) (by decide) (by decide)]
        exact ⟨_, rfl, Go_br h hm hw, rfl⟩
    · rw [if_neg c2] at hw
      rw [i_f c2, if_neg c2, b_rd (g_m3 hA hm), b_row0 (row_of hA hm) 3 3 _ (by decide) (by decide) (by decide)]
      exact ⟨_, rfl, Go_br h hm hw, rfl⟩
  · rw [i_f c1, if_neg c1]
    exact ⟨w, rfl, Go_rf h, rfl⟩
/-- a loop over the men -/
theorem r_men {a : Nat} {f : Nat → Wt → Wt} {c : Nat} (B : Nat → Int32 → Dm Unit) (E : Dm Unit) (hs : ∀ (m F n : Nat) (w : Wd) (L : Lay) (W : Wt), Wv w a L W → Rm w (n + c) → m < nmen W → ∃ w' L', (B (F + 1) (nI m)).1 w = (B F (nI (m + 1))).1 w' ∧ Go w a L W w' L' (f m W) ∧ Rm w' n) (he : ∀ (F : Nat) (w : Wd) (L : Lay) (W : Wt), Wv w a L W → (B (F + 1) (nI (nmen W))).1 w = E.1 w) : ∀ (k i F n : Nat) (w : Wd) (L : Lay) (V W : Wt), i + k = nmen V → fo i f V = W → nmen W = nmen V → k < F → Wv w a L W → Rm w (n + c * k) → ∃ w' L', (B F (nI i)).1 w = E.1 w' ∧ Go w a L W w' L' (fo (nmen V) f V) ∧ Rm w' n := by
  intro k
  induction k with
  | zero =>
    intro i F n w L V W hi hV hn hF h hR
    obtain ⟨F, rfl⟩ : ∃ F', F = F' + 1 := ⟨F - 1, by omega⟩
    have e : i = nmen V := by omega
    subst e
    refine ⟨w, L, ?_, by rw [hV]; exact Go_rf h, hR⟩
    rw [← hn]
    exact he F w L W h
  | succ k ih =>
    intro i F n w L V W hi hV hn hF h hR
    obtain ⟨F, rfl⟩ : ∃ F', F = F' + 1 := ⟨F - 1, by omega⟩
    obtain ⟨w1, L1, q1, q2, q3⟩ := hs i F (n + c * k) w L W h (by rw [Nat.mul_succ] at hR; exact Rm_le hR (by omega)) (by omega)
    obtain ⟨w2, L2, r1, r2, r3⟩ := ih (i + 1) F n w1 L1 V (f i W) (by omega) (by rw [fo_s, hV]) (by rw [q2.2.2.2.2.1, hn]) (by omega) q2.1 q3
    exact ⟨w2, L2, q1.trans r1, Go_tr q2 r2, r3⟩
theorem r_marches {w : Wd} {a : Nat} {L : Lay} {W : Wt} {n : Nat} (h : Wv w a L W) (hR : Rm w n) : ∃ w' L', (DX12_passes_b198 a 1 1).1 w = (DX12_passes_b391 a 1 1).1 w' ∧ Go w a L W w' L' (dMarches W) ∧ Rm w' n := by
  have h12 := (OkT_n h.2.2.1.1).2
  exact r_men (c := 0) (fun F i => DX12_passes_L200 F a 1 1 i) (DX12_passes_b391 a 1 1) (fun m F n w L W h hR hm => by
    obtain ⟨w', q1, q2, q3⟩ := r_march1 h hm F
    exact ⟨w', L, q1, q2, Rm_e hR q3⟩) (fun F w L W h => by
    show (DX12_passes_b200 _ _ _ _ _).1 w = _
    unfold DX12_passes_b200
    rw [b_rd (g_6 h.1), i_t (by rw [le_n h.2.2.1.1 (by omega)]; omega)]) (nmen W) 0 FU n w L W W (by omega) rfl rfl (by show _ < 10000; omega) h (by rw [Nat.zero_mul]; exact hR)
