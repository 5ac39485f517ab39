/-! a fight; all fights -/
theorem Rm_nq1 {w : Wd} {n k : Nat} {P : Wt} (h : Rm w (n + 1)) (hk : k ≤ 12) : Rm (nq w (.inl k) (fun _ => none) P) n := Rm_nq h (by decide) (by show k ≤ 12 * 1; omega)
theorem r_halves {w : Wd} {a : Nat} {L : Lay} {W : Wt} {n : Nat} (h : Wv w a L W) (hR : Rm w n) (x : Nat) (k393 : Nat → Int32 → Int32 → Int32 → Dm Unit) : ∃ w' L', (DX12_passes_b530 k393 a 1 1 (nI x) (-1)).1 w = (k393 a 1 1 (nI (x + 1))).1 w' ∧ Go w a L W w' L' (fo (nmen W) (dHalve1 (nI x)) W) ∧ Rm w' n := by
  have hT := h.2.2.1.1
  have h12 := (OkT_n hT).2
  obtain ⟨w', L', q1, q2, q3⟩ := r_men (c := 0) (fun F i => DX12_passes_L642 k393 F a 1 1 (nI x) (-1) (-1) i) (DX12_passes_b778 k393 a 1 1 (nI x)) (fun m F n w L W h hR hm => by
    obtain ⟨w', q1, q2, q3⟩ := r_halve1 h hm (nI x) (-1) k393 F
    exact ⟨w', L, q1, q2, Rm_e hR q3⟩) (fun F w L W h => by
    show (DX12_passes_b642 _ _ _ _ _ _ _ _ _).1 w = _
    unfold DX12_passes_b642
    rw [b_rd (g_6 h.1), i_t (by rw [le_n h.2.2.1.1 (by omega)]; omega)]) (nmen W) 0 FU n w L W W (by omega) rfl rfl (by show _ < 10000; omega) h (by rw [Nat.zero_mul]; exact hR)
  refine ⟨w', L', ?_, q2, q3⟩
  have e : (DX12_passes_b530 k393 a 1 1 (nI x) (-1)).1 w = (DX12_passes_b639 k393 a 1 1 (nI x) (-1) (-1)).1 w := by
    unfold DX12_passes_b530
    rw [b_rd (g_6 h.1)]
    show (DX12_passes_b543 _ _ _ _ _ _ _ _ _).1 w = _
    unfold DX12_passes_b543 DX12_passes_b615
    by_cases c : W 78 - 1 < 0
    · rw [i_t c, i_t (by decide)]
    · rw [i_f c, i_t (by decide), i_t (by decide)]
  rw [e]
  refine q1.trans ?_
  unfold DX12_passes_b778
  rw [nI_succ]
theorem r_beats {w : Wd} {a : Nat} {L : Lay} {W : Wt} {n : Nat} (h : Wv w a L W) (hR : Rm w (n + 13)) (x : Nat) {c : Int32} (hc : c = 0 ∨ c = 1) (hh : sHeld W c (nI x) = true) (k393 : Nat → Int32 → Int32 → Int32 → Dm Unit) : ∃ w' L', (DX12_passes_b530 k393 a 1 1 (nI x) c).1 w = (k393 a 1 1 (nI (x + 1))).1 w' ∧ Go w a L W w' L' (dBeat 1 c (nI x) (dCatch 1 c (nI x) W)) ∧ Rm w' n := by
  obtain ⟨hA, ho, hW, hb⟩ := id h
  have hT := hW.1
  have h12 := (OkT_n hT).2
  have hcn : ¬ c < 0 := by rcases hc with rfl | rfl <;> decide
  have hc0 : 0 ≤ c := by rcases hc with rfl | rfl <;> decide
  obtain ⟨y, hy, ey, y1, y2, y3⟩ := yng_held hT hh
  have hy12 : y < 12 := by omega
  have e : (DX12_passes_b530 k393 a 1 1 (nI x) c).1 w = (DX12_passes_b615 k393 a 1 1 (nI x) c (nI y)).1 w := by
    unfold DX12_passes_b530
    rw [b_rd (g_6 hA), (OkT_n hT).1, r_yngL h hcn k393 (nmen W) FU (-1) (by omega) (by show _ < 10000; omega) (Or.inl ⟨rfl, fun j h1 h2 => by omega⟩), ey]
  obtain ⟨w1, L1, q1, q2, q3⟩ := r_notes h (n := n + 12) (Rm_le hR (by omega)) 1 (nI y) (nI x)
  have g3 := Go_made q2.1 (x := w1.2.2 a 12 + 1)
  have V0 : dNote 1 1 (nI y) (nI x) W 0 = W 0 := dNote_lo hW.2.1 ⟨by omega, by omega⟩
  have V4 : dNote 1 1 (nI y) (nI x) W (40 + y) = 1 := (dNote_lo hW.2.1 ⟨by omega, by omega⟩).trans y2
  have V5 : dNote 1 1 (nI y) (nI x) W (52 + y) = nI x := (dNote_lo hW.2.1 ⟨by omega, by omega⟩).trans y3
  have V9 : dNote 1 1 (nI y) (nI x) W (90 + y) = c := (dNote_lo hW.2.1 ⟨by omega, by omega⟩).trans y1
  have hV : WO (dNote 1 1 (nI y) (nI x) W) := WO_note hW
  have nV : nmen (dNote 1 1 (nI y) (nI x) W) = nmen W := s78_n (dNote_s hW.2.1)
  obtain ⟨w2, L2, r1, r2, r3⟩ := r_men (c := 1) (f := lBeat1 c (nI x) y) (fun F i => DX12_passes_L642 k393 F a 1 1 (nI x) c (nI y) i) (DX12_passes_b778 k393 a 1 1 (nI x)) (fun m F n w L W h hR hm => r_beat1 h hR hm hc0 (nI x) hy12 k393 F) (fun F w L W h => by
    show (DX12_passes_b642 _ _ _ _ _ _ _ _ _).1 w = _
    unfold DX12_passes_b642
    rw [b_rd (g_6 h.1), i_t (by rw [le_n h.2.2.1.1 (by omega)]; omega)]) (nmen W) 0 FU n _ L1 (dNote 1 1 (nI y) (nI x) W) (dNote 1 1 (nI y) (nI x) W) (by omega) rfl rfl (by show _ < 10000; omega) g3.1 (Rm_le (Rm_wr q3) (by omega))
  have hB : fo (nmen (dNote 1 1 (nI y) (nI x) W)) (lBeat1 c (nI x) y) (dNote 1 1 (nI y) (nI x) W) = dBeat 1 c (nI x) (dCatch 1 c (nI x) W) := by
    have z := (lb_all (c := c) (x := nI x) hV hy12 ⟨V4, V5, V9⟩ (nmen W) h12).2 hy
    have ed : dCatch 1 c (nI x) W = ctch y (W 0) (dNote 1 1 (nI y) (nI x) W) := by
      unfold dCatch
      rw [ey, nt_nI (by omega), ctch_note hy12]
      rfl
    have en : nmen (ctch y (W 0) (dNote 1 1 (nI y) (nI x) W)) = nmen W := by
      rw [← nV]
      unfold nmen
      rw [ctch_ne (by omega) (by omega)]
    unfold dBeat
    rw [ed, en, nV, ← z.1, V0]
  rw [hB] at r2
  refine ⟨w2, L2, ?_, Go_tr q2 (Go_tr g3 r2), r3⟩
  rw [e]
  unfold DX12_passes_b615 DX12_passes_b639
  rw [i_f (nI_pos (by omega)), b_rd (g_C hA), b_ok q1, b_rd (g_I q2.1.1 12), b_fld0 (WA_r q2.1.1).1 12]
  refine r1.trans ?_
  unfold DX12_passes_b778
  rw [nI_succ]
theorem r_fight {w : Wd} {a : Nat} {L : Lay} {s : Wt × Int32} {n : Nat} (h : Wv w a L s.1) (hR : Rm w (n + 14)) {x : Nat} (hx : x < 16) (F : Nat) : ∃ w' L', (DX12_passes_L393 (F + 1) a 1 1 (nI x)).1 w = (DX12_passes_L393 F a 1 1 (nI (x + 1))).1 w' ∧ Go w a L s.1 w' L' (dFight 1 x s).1 ∧ Rm w' n := by
  obtain ⟨W, md⟩ := s
  change Wv w a L W at h
  obtain ⟨hA, ho, hW, hb⟩ := id h
  have hT := hW.1
  have h12 := (OkT_n hT).2
  show ∃ w' L', (DX12_passes_b393 _ _ _ _ _).1 w = _ ∧ Go w a L W w' L' _ ∧ _
  have c0 : nI 0 = 0 := rfl
  have c1' : nI 1 = 1 := rfl
  have un : (dFight 1 x (W, md)).1 = if sHeld W 0 (nI x) = true ∧ sHeld W 1 (nI x) = true then (if sAt W 0 (nI x) - sAt W 1 (nI x) = 0 then fo (nmen W) (dHalve1 (nI x)) W else dBeat 1 (if 0 ≤ sAt W 0 (nI x) - sAt W 1 (nI x) then 1 else 0) (nI x) (dCatch 1 (if 0 ≤ sAt W 0 (nI x) - sAt W 1 (nI x) then 1 else 0) (nI x) W)) else W := by
    unfold dFight
    split
    · split <;> rfl
    · rfl
  rw [un]
  unfold DX12_passes_b393
  rw [i_f (by rw [show (16 : Int32) = nI 16 by decide, nn_le (by decide) (by omega)]; omega), i_f z1, b_rd (g_C hA), b_ok (r_stands hA hT 0 (nI x))]
  have skip : ¬ (sHeld W 0 (nI x) = true ∧ sHeld W 1 (nI x) = true) → ∃ w' L', (DX12_passes_b778 (DX12_passes_L393 F) a 1 1 (nI x)).1 w = (DX12_passes_L393 F a 1 1 (nI (x + 1))).1 w' ∧ Go w a L W w' L' (if sHeld W 0 (nI x) = true ∧ sHeld W 1 (nI x) = true then (if sAt W 0 (nI x) - sAt W 1 (nI x) = 0 then fo (nmen W) (dHalve1 (nI x)) W else dBeat 1 (if 0 ≤ sAt W 0 (nI x) - sAt W 1 (nI x) then 1 else 0) (nI x) (dCatch 1 (if 0 ≤ sAt W 0 (nI x) - sAt W 1 (nI x) then 1 else 0) (nI x) W)) else W) ∧ Rm w' n := fun q => by
    rw [if_neg q]
    refine ⟨w, L, ?_, Go_rf h, Rm_le hR (by omega)⟩
    unfold DX12_passes_b778
    rw [nI_succ]
  by_cases h0 : sHeld W 0 (nI x) = true
  · rw [if_pos h0, i_f z1, b_rd (g_C hA), b_ok (r_stands hA hT 1 (nI x))]
    by_cases h1 : sHeld W 1 (nI x) = true
    · rw [if_pos h1, i_f z1, b_nw (show nwI 2 w = _ from nwI_n (n := 2) (by decide) w) (n := n + 13) (c := 1) (Rm_le hR (by omega)) (by decide) (by decide)]
      obtain ⟨P, p1, p2⟩ := r_sums h (nI x) (DX12_passes_L393 F) (nmen W) 0 FU (fun _ => 0) (by omega) (by show _ < 10000; omega) (fun c hc => rfl)
      have P0 : P 0 = sAt W 0 (nI x) := p1 0 (by omega)
      have P1 : P 1 = sAt W 1 (nI x) := p1 1 (by omega)
      have g1 := Go_nq h (.inl 2) (fun _ => none) P
      have hR2 : Rm (nq w (.inl 2) (fun _ => none) P) (n + 13) := Rm_nq1 (Rm_le hR (by omega)) (by omega)
      rw [if_pos (⟨h0, h1⟩ : sHeld W 0 (nI x) = true ∧ sHeld W 1 (nI x) = true)]
      have p2' : (DX12_passes_L432 (DX12_passes_L393 F) FU a 1 1 (nI x) w.1.length 0).1 (nq w (.inl 2) (fun _ => none) (fun _ => 0)) = _ := p2
      rw [p2', P0, P1]
      obtain ⟨s0, l0, e0⟩ := sAt_n hW 0 (nI x)
      obtain ⟨s1, l1, e1⟩ := sAt_n hW 1 (nI x)
      have A1 : (sAt W 1 (nI x) ≤ sAt W 0 (nI x)) = (s1 ≤ s0) := by rw [e0, e1, nn_le (by omega) (by omega)]
      have A2 : (sAt W 0 (nI x) ≤ sAt W 1 (nI x)) = (s0 ≤ s1) := by rw [e0, e1, nn_le (by omega) (by omega)]
      have A3 : (sAt W 0 (nI x) - sAt W 1 (nI x) = 0) = (s0 = s1) := by rw [e0, e1, sub_zero (by omega) (by omega)]
      have A4 : (0 ≤ sAt W 0 (nI x) - sAt W 1 (nI x)) = (s1 ≤ s0) := by rw [e0, e1, sub_nn (by omega) (by omega)]
      by_cases k1 : s1 ≤ s0
      · rw [if_pos (show sAt W 1 (nI x) ≤ sAt W 0 (nI x) by rw [A1]; exact k1), if_pos (show 0 ≤ sAt W 0 (nI x) - sAt W 1 (nI x) by rw [A4]; exact k1)]
        by_cases k2 : s0 ≤ s1
        · rw [if_pos (show sAt W 0 (nI x) ≤ sAt W 1 (nI x) by rw [A2]; exact k2), if_pos (show sAt W 0 (nI x) - sAt W 1 (nI x) = 0 by rw [A3]; omega)]
          obtain ⟨w', L', r1, r2, r3⟩ := r_halves g1.1 (n := n) (Rm_le hR2 (by omega)) x (DX12_passes_L393 F)
          exact ⟨w', L', r1, Go_tr g1 r2, r3⟩
        · rw [if_neg (show ¬ sAt W 0 (nI x) ≤ sAt W 1 (nI x) by rw [A2]; exact k2), if_neg (show ¬ sAt W 0 (nI x) - sAt W 1 (nI x) = 0 by rw [A3]; omega)]
          obtain ⟨w', L', r1, r2, r3⟩ := r_beats g1.1 hR2 x (Or.inr rfl) h1 (DX12_passes_L393 F)
          exact ⟨w', L', r1, Go_tr g1 r2, r3⟩
      · rw [if_neg (show ¬ sAt W 1 (nI x) ≤ sAt W 0 (nI x) by rw [A1]; exact k1), if_neg (show ¬ 0 ≤ sAt W 0 (nI x) - sAt W 1 (nI x) by rw [A4]; exact k1), if_neg (show ¬ sAt W 0 (nI x) - sAt W 1 (nI x) = 0 by rw [A3]; omega)]
        obtain ⟨w', L', r1, r2, r3⟩ := r_beats g1.1 hR2 x (Or.inl rfl) h0 (DX12_passes_L393 F)
        exact ⟨w', L', r1, Go_tr g1 r2, r3⟩
    · rw [if_neg h1, i_t rfl]
      exact skip (fun z => h1 z.2)
  · rw [if_neg h0, i_t rfl]
    exact skip (fun z => h0 z.1)
theorem r_fightsL {a : Nat} : ∀ (k x F n : Nat) (w : Wd) (L : Lay) (s0 s : Wt × Int32), x + k = 16 → fo x (dFight 1) s0 = s → k < F → Wv w a L s.1 → Rm w (n + 14 * k) → ∃ w' L', (DX12_passes_L393 F a 1 1 (nI x)).1 w = (DX12_passes_b784 a 1 1).1 w' ∧ Go w a L s.1 w' L' (dFights 1 s0).1 ∧ Rm w' n := by
  intro k
  induction k with
  | zero =>
    intro x F n w L s0 s hx hs hF h hR
    obtain ⟨F, rfl⟩ : ∃ F', F = F' + 1 := ⟨F - 1, by omega⟩
    have e : x = 16 := by omega
    subst e
    refine ⟨w, L, ?_, ?_, hR⟩
    · show (DX12_passes_b393 _ _ _ _ _).1 w = _
      unfold DX12_passes_b393
      rw [i_t (by decide)]
    · rw [← dFights_def, hs]
      exact Go_rf h
  | succ k ih =>
    intro x F n w L s0 s hx hs hF h hR
    obtain ⟨F, rfl⟩ : ∃ F', F = F' + 1 := ⟨F - 1, by omega⟩
    obtain ⟨w1, L1, q1, q2, q3⟩ := r_fight h (n := n + 14 * k) (Rm_le hR (by omega)) (x := x) (by omega) F
    obtain ⟨w2, L2, r1, r2, r3⟩ := ih (x + 1) F n w1 L1 s0 (dFight 1 x s) (by omega) (by rw [fo_s, hs]) (by omega) q2.1 q3
    exact ⟨w2, L2, q1.trans r1, Go_tr q2 r2, r3⟩
theorem r_fights {w : Wd} {a : Nat} {L : Lay} {s : Wt × Int32} {n : Nat} (h : Wv w a L s.1) (hR : Rm w (n + 224)) : ∃ w' L', (DX12_passes_b391 a 1 1).1 w = (DX12_passes_b784 a 1 1).1 w' ∧ Go w a L s.1 w' L' (dFights 1 s).1 ∧ Rm w' n :=
  r_fightsL 16 0 FU n w L s s (by omega) rfl (by show _ < 10000; omega) h hR
theorem r_arrive {w : Wd} {a : Nat} {L : Lay} {W : Wt} (h : Wv w a L W) : ∃ w', (DX12_passes_b784 a 1 1).1 w = (DX12_passes_b831 a 1 1).1 w' ∧ Go w a L W w' L (dArrive W) ∧ w'.1 = w.1 := by
  obtain ⟨hA, ho, hW, hb⟩ := id h
  have hT := hW.1
  have hw := (dArrive_w hW).1
  have t0 : (dThr W 0 = true) = (sHeld W 0 15 = true ∧ ¬ sHeld W 1 15 = true) := by
    refine propext ?_
    show (sHeld W 0 15 && !sHeld W 1 15) = true ↔ _
    simp
  have t1 : (dThr W 1 = true) = (sHeld W 1 0 = true ∧ ¬ sHeld W 0 0 = true) := by
    refine propext ?_
    show (sHeld W 1 0 && !sHeld W 0 0) = true ↔ _
    simp
  unfold dArrive at hw ⊢
  have yes : (sHeld W 0 15 = true ∧ ¬ sHeld W 1 15 = true) ∨ (sHeld W 1 0 = true ∧ ¬ sHeld W 0 0 = true) → ∃ w', (DX12_passes_b826 a 1 1).1 w = (DX12_passes_b831 a 1 1).1 w' ∧ Go w a L W w' L (if dThr W 0 = true ∨ dThr W 1 = true then upd W 1 0 else W) ∧ w'.1 = w.1 := fun c => by
    have c' : dThr W 0 = true ∨ dThr W 1 = true := by rw [t0, t1]; exact c
    rw [if_pos c'] at hw
    rw [if_pos c']
    unfold DX12_passes_b826
    rw [b_fld0 (WA_r hA).1 2]
    exact ⟨_, rfl, Go_war h hw, rfl⟩
  have no : ¬ ((sHeld W 0 15 = true ∧ ¬ sHeld W 1 15 = true) ∨ (sHeld W 1 0 = true ∧ ¬ sHeld W 0 0 = true)) → ∃ w', (DX12_passes_b831 a 1 1).1 w = (DX12_passes_b831 a 1 1).1 w' ∧ Go w a L W w' L (if dThr W 0 = true ∨ dThr W 1 = true then upd W 1 0 else W) ∧ w'.1 = w.1 := fun c => by
    rw [if_neg (show ¬ (dThr W 0 = true ∨ dThr W 1 = true) by rw [t0, t1]; exact c)]
    exact ⟨w, rfl, Go_rf h, rfl⟩
  have b808 : ¬ (sHeld W 0 15 = true ∧ ¬ sHeld W 1 15 = true) → ∃ w', (DX12_passes_b808 a 1 1).1 w = (DX12_passes_b831 a 1 1).1 w' ∧ Go w a L W w' L (if dThr W 0 = true ∨ dThr W 1 = true then upd W 1 0 else W) ∧ w'.1 = w.1 := fun c => by
    unfold DX12_passes_b808
    rw [b_rd (g_C hA), b_ok (r_stands hA hT 1 0)]
    by_cases k1 : sHeld W 1 0 = true
    · rw [if_pos k1, i_f z1, b_rd (g_C hA), b_ok (r_stands hA hT 0 0)]
      by_cases k2 : sHeld W 0 0 = true
      · rw [if_pos k2, i_f z1]
        exact no (fun z => z.elim c (fun z => z.2 k2))
      · rw [if_neg k2, i_t rfl]
        exact yes (Or.inr ⟨k1, k2⟩)
    · rw [if_neg k1, i_t rfl]
      exact no (fun z => z.elim c (fun z => k1 z.1))
  unfold DX12_passes_b784
  rw [i_f z1, b_rd (g_C hA), b_ok (r_stands hA hT 0 15)]
  by_cases k1 : sHeld W 0 15 = true
  · rw [if_pos k1, i_f z1, b_rd (g_C hA), b_ok (r_stands hA hT 1 15)]
    by_cases k2 : sHeld W 1 15 = true
    · rw [if_pos k2, i_f z1]
      exact b808 (fun z => z.2 k2)
    · rw [if_neg k2, i_t rfl]
      exact yes (Or.inl ⟨k1, k2⟩)
  · rw [if_neg k1, i_t rfl]
    exact b808 (fun z => k1 z.1)
