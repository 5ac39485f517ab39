/-! a round; all rounds; the law -/
theorem LI_D {w : Wd} {g : Mem} {a l3 D D' : Nat} {L : Lay} {W : Wt} {B : List WrT} (h : LwI w g a L W l3 B D) (hD : D ≤ D') : LwI w g a L W l3 B D' := ⟨WJ_D h.1 hD, h.2⟩
theorem r_round {w : Wd} {g : Mem} {a l3 n SL r : Nat} {L : Lay} {W : Wt} {B : List WrT} (xs : Nat → Int32) (hSL : SL ≤ 260) (K : Nat → Nat → Int32 → Int32 → Dm Int32) (hr : r < 20) (h : LwI w g a L W l3 B (12 * r)) (hR : Rm w (n + 19700)) : ∃ w' g' a' L' W' B', (DL_law_b41 SL xs K a l3 (nI B.length) (nI r)).1 w = (K a' l3 (nI B'.length) (nI (r + 1))).1 w' ∧ LwI w' g' a' L' W' l3 B' (12 * (r + 1)) ∧ Rm w' n := by
  obtain ⟨hV, d, hd, hd'⟩ := WJ_last h.1
  have hT := hV.2.2.1.1
  obtain ⟨hn, h12⟩ := OkT_n hT
  obtain ⟨y, hy⟩ := r_cell SL xs hSL (k := 8 + r % 12) (by omega) (8 + nI (r % 12)) (by rw [show (8 : Int32) = nI 8 by decide, nI_add])
  obtain ⟨X, hX⟩ : ∃ X, X = (y * (nI (r / 12) + 1)) + (157 * nI r) := ⟨_, rfl⟩
  obtain ⟨k, hk⟩ : ∃ k, k = btN X 0 11 := ⟨_, rfl⟩
  obtain ⟨a1, ha1⟩ : ∃ k, k = btN (X >>> ((3 : Int32) &&& 31)) 0 (nmen W) := ⟨_, rfl⟩
  obtain ⟨b1, hb1⟩ : ∃ k, k = btN (X >>> ((5 : Int32) &&& 31)) 0 (nmen W) := ⟨_, rfl⟩
  have bk := (btN_r X (show 0 ≤ 11 by omega)).2
  have ba := (btN_r (X >>> ((3 : Int32) &&& 31)) (show 0 ≤ nmen W by omega)).2
  have bb := (btN_r (X >>> ((5 : Int32) &&& 31)) (show 0 ≤ nmen W by omega)).2
  rw [← hk] at bk
  rw [← ha1] at ba
  rw [← hb1] at bb
  -- the copy
  obtain ⟨w1, x, e1, ex, j1, k1, r1, o1⟩ := WJ_copy (n := n + 19660) h.1 hR
  have hX1 : LwX w1 g a L W l3 B (12 * r) x := ⟨j1, ex, AR_kp h.2.1 k1 (fun z => z), Lw_kp h.2.2.1 k1 (fun _ _ z => z), h.2.2.2⟩
  have g6 : gfI a 12 6 w = some (nI (nmen W)) := by rw [g_6 hV.1, hn]
  have ia : isC a 12 w = some () := isC_s (WA_r hV.1).1
  have rm12 : rmI (nI r) 12 = some (nI (r % 12)) := rm_nn (b := 12) (by omega) (by omega) (by omega)
  have dv12 : dvI (nI r) 12 = some (nI (r / 12)) := by
    rw [dv_ok (by decide)]
    exact congrArg some (nI_div (b := 12) (by omega) (by omega))
  unfold DL_law_b41
  rw [i_f (by rw [show (20 : Int32) = nI 20 by decide, nn_le (by omega) (by omega)]; omega), b_lf rm12, hy, b_lf dv12, ← hX, b_bt _ 0 11 (by omega) (by omega) _ _ (by decide) (by decide), ← hk, b_rd g6, b_bt _ 0 (nmen W) (by omega) (by omega) _ _ (by decide) rfl, ← ha1, b_rd g6, b_bt _ 0 (nmen W) (by omega) (by omega) _ _ (by decide) rfl, ← hb1, b_rd ia, b_ok e1]
  have up : ∀ {w' : Wd} {g' : Mem} {a' : Nat} {L' : Lay} {W' : Wt} {B' : List WrT}, LwI w' g' a' L' W' l3 B' (12 * r) → LwI w' g' a' L' W' l3 B' (12 * (r + 1)) := fun q => LI_D q (by omega)
  by_cases c5 : 5 ≤ k
  · rw [i_t (by rw [show (5 : Int32) = nI 5 by decide, nn_le (by omega) (by omega)]; exact c5)]
    by_cases c5e : k = 5
    · rw [i_t (by rw [c5e]; rfl), b_bt _ 0 8 (by omega) (by omega) _ _ (by decide) (by decide)]
      have bf := (btN_r (X >>> ((4 : Int32) &&& 31)) (show 0 ≤ 8 by omega)).2
      obtain ⟨w', g', W', B', q1, q2, q3⟩ := r_teach (SL := SL) (r := r) (n := n) xs K hX1 a1 _ ba bf (Rm_le r1 (by omega))
      exact ⟨w', g', a, L, W', B', q1, up q2, q3⟩
    · rw [i_f (by rw [show (5 : Int32) = nI 5 by decide, nn_eq (by omega) (by omega)]; exact c5e)]
      by_cases c8 : 8 ≤ k
      · rw [i_t (by rw [show (8 : Int32) = nI 8 by decide, nn_le (by omega) (by omega)]; exact c8)]
        by_cases c8e : k = 8
        · rw [i_t (by rw [c8e]; rfl), b_bt _ 0 7 (by omega) (by omega) _ _ (by decide) (by decide)]
          obtain ⟨wh, hwh⟩ : ∃ wh, wh = btN (X >>> ((4 : Int32) &&& 31)) 0 7 := ⟨_, rfl⟩
          have bw := (btN_r (X >>> ((4 : Int32) &&& 31)) (show 0 ≤ 7 by omega)).2
          rw [← hwh] at bw
          rw [← hwh]
          by_cases c4 : wh = 4
          · rw [i_t (by rw [c4]; rfl), b_bt _ 0 16 (by omega) (by omega) _ _ (by decide) (by decide)]
            have b7 := (btN_r (X >>> ((7 : Int32) &&& 31)) (show 0 ≤ 16 by omega)).2
            obtain ⟨w', g', W', B', q1, q2, q3⟩ := r_748 (SL := SL) (r := r) (n := n) xs K hX1 (show wh < 8 by omega) (show btN (X >>> ((7 : Int32) &&& 31)) 0 16 < 100 by omega) X (Rm_le r1 (by omega))
            exact ⟨w', g', a, L, W', B', q1, up q2, q3⟩
          · rw [i_f (by rw [show (4 : Int32) = nI 4 by decide, nn_eq (by omega) (by omega)]; exact c4)]
            by_cases c3 : wh = 3
            · rw [i_t (by rw [c3]; rfl), b_bt _ 0 2 (by omega) (by omega) _ _ (by decide) (by decide)]
              have b7 := (btN_r (X >>> ((7 : Int32) &&& 31)) (show 0 ≤ 2 by omega)).2
              obtain ⟨w', g', W', B', q1, q2, q3⟩ := r_748 (SL := SL) (r := r) (n := n) xs K hX1 (show wh < 8 by omega) (show btN (X >>> ((7 : Int32) &&& 31)) 0 2 < 100 by omega) X (Rm_le r1 (by omega))
              exact ⟨w', g', a, L, W', B', q1, up q2, q3⟩
            · rw [i_f (by rw [show (3 : Int32) = nI 3 by decide, nn_eq (by omega) (by omega)]; exact c3)]
              obtain ⟨w', g', W', B', q1, q2, q3⟩ := r_748 (SL := SL) (r := r) (n := n) xs K hX1 (show wh < 8 by omega) (show a1 < 100 by omega) X (Rm_le r1 (by omega))
              exact ⟨w', g', a, L, W', B', q1, up q2, q3⟩
        · rw [i_f (by rw [show (8 : Int32) = nI 8 by decide, nn_eq (by omega) (by omega)]; exact c8e)]
          by_cases c9 : k = 9
          · rw [i_t (by rw [c9]; rfl)]
            by_cases cb : ((X >>> ((6 : Int32) &&& 31)) &&& 1) = 0
            · rw [i_t cb]
              obtain ⟨w', g', L', W', B', q1, q2, q3⟩ := r_txt9 (SL := SL) (r := r) (n := n) xs K hX1 (by omega) X (Rm_le r1 (by omega))
              exact ⟨w', g', a, L', W', B', q1, up q2, q3⟩
            · rw [i_f cb]
              obtain ⟨w', q1, q2, q3⟩ := r_nop (SL := SL) (r := r) (n := n) xs K x.1 (X_sub hX1) (Rm_le r1 (by omega))
              exact ⟨w', g, a, L, W, B, q1, up q2, q3⟩
          · rw [i_f (by rw [show (9 : Int32) = nI 9 by decide, nn_eq (by omega) (by omega)]; exact c9)]
            obtain ⟨w', g', a', L', W', B', q1, q2, q3⟩ := r_undo (SL := SL) (r := r) (n := n) xs K hX1 (Rm_le r1 (by omega))
            exact ⟨w', g', a', L', W', B', q1, up q2, q3⟩
      · rw [i_f (by rw [show (8 : Int32) = nI 8 by decide, nn_le (by omega) (by omega)]; exact c8)]
        obtain ⟨w', g', W', B', q1, q2, q3⟩ := r_send (SL := SL) (r := r) (n := n) xs K hX1 X a1 b1 ba bb (Rm_le r1 (by omega))
        exact ⟨w', g', a, L, W', B', q1, up q2, q3⟩
  · rw [i_f (by rw [show (5 : Int32) = nI 5 by decide, nn_le (by omega) (by omega)]; exact c5)]
    by_cases cb : ((X >>> ((9 : Int32) &&& 31)) &&& 1) = 0
    · rw [i_t cb]
      obtain ⟨w', g', L', W', B', q1, q2, q3⟩ := r_days (SL := SL) (r := r) (m := n) (l10 := x.1) xs K (X >>> ((5 : Int32) &&& 31)) 3 (Or.inl rfl) (X_sub hX1) (by omega) (Rm_le r1 (by omega))
      exact ⟨w', g', a, L', W', B', q1, LI_D q2 (by omega), q3⟩
    · rw [i_f cb]
      obtain ⟨w', g', L', W', B', q1, q2, q3⟩ := r_days (SL := SL) (r := r) (m := n) (l10 := x.1) xs K (X >>> ((5 : Int32) &&& 31)) 12 (Or.inr rfl) (X_sub hX1) (by omega) (Rm_le r1 (by omega))
      exact ⟨w', g', a, L', W', B', q1, LI_D q2 (by omega), q3⟩
theorem r_rounds {l3 SL : Nat} (xs : Nat → Int32) (hSL : SL ≤ 260) : ∀ (d r F : Nat) (w : Wd) (g : Mem) (a : Nat) (L : Lay) (W : Wt) (B : List WrT), r + d = 20 → d < F → LwI w g a L W l3 B (12 * r) → Rm w (1 + 19700 * d) → ∃ w', (DL_law_L41 SL xs F a l3 (nI B.length) (nI r)).1 w = some (1, w') := by
  intro d
  induction d with
  | zero =>
    intro r F w g a L W B hr hF h hR
    obtain ⟨F, rfl⟩ : ∃ F', F = F' + 1 := ⟨F - 1, by omega⟩
    have e : r = 20 := by omega
    subst e
    exact r_fin (n := 0) xs _ h (Rm_le hR (by omega))
  | succ d ih =>
    intro r F w g a L W B hr hF h hR
    obtain ⟨F, rfl⟩ : ∃ F', F = F' + 1 := ⟨F - 1, by omega⟩
    obtain ⟨w1, g1, a1, L1, W1, B1, q1, q2, q3⟩ := r_round (SL := SL) (n := 1 + 19700 * d) xs hSL (DL_law_L41 SL xs F) (show r < 20 by omega) h (Rm_le hR (by omega))
    obtain ⟨w', e⟩ := ih (r + 1) F w1 g1 a1 L1 W1 B1 (by omega) (by omega) q2 q3
    exact ⟨w', by
      show (DL_law_b41 SL xs (DL_law_L41 SL xs F) a l3 (nI B.length) (nI r)).1 w = _
      rw [q1, e]⟩
theorem r_law {SL : Nat} (xs : Nat → Int32) (hSL : SL ≤ 260) {w : Wd} {g : Mem} (hl : Lw w g) (hG : GS g rW0 []) (hR : Rm w 500000) : ∃ w', (DL_law SL xs).1 w = some (1, w') := by
  obtain ⟨w1, g1, a, L, W, e1, v1, l1, G1, d1, r1⟩ := r_war (n := 450000) xs hSL hl hG (Rm_le hR (by omega))
  have hst : St w1 g1 a L := ⟨v1.2.1, l1.2, by rw [G1.1]; exact v1.1, by rw [G1.1]; exact v1.2.2.2⟩
  obtain ⟨w2, e2, s2, r2, k2⟩ := r_isSame (n := 449999) hst r1
  have v2 := Wv_cl v1 k2 s2.1
  have kq := Kp_nq (fun _ => False) w2 (.inr (.inr (1, 6))) (fun _ => none) (fun _ => 0)
  have nq' := Kn_nq w2 (.inr (.inr (1, 6))) (fun _ => none) (fun _ => 0)
  have r3 : Rm (nq w2 (.inr (.inr (1, 6))) (fun _ => none) (fun _ => 0)) 449998 := Rm_nq (n := 449998) (c := 1) r2 (by decide) (by decide)
  have e3 : ∀ (kk : Nat → Dm Int32), (dbind (dnew (nwA 1 6)) kk).1 w2 = (kk w2.1.length).1 (nq w2 (.inr (.inr (1, 6))) (fun _ => none) (fun _ => 0)) := fun kk => b_nw (nwA_n (κ := 1) (n := 6) (by decide) w2) (n := 449998) (c := 1) r2 (by decide) (by decide)
  have l2 : Lw w2 g1 := ⟨s2.1, s2.2.1⟩
  have l3' := Lw_kp l2 kq (fun _ _ z => z)
  have v3 := (Go_nq v2 (.inr (.inr (1, 6))) (fun _ => none) (fun _ => 0)).1
  have lw := OKs_len s2.1
  have I3 : LwI (nq w2 (.inr (.inr (1, 6))) (fun _ => none) (fun _ => 0)) g1 a L W w2.1.length [] (12 * 0) := ⟨WJ_one v3 (show W 0 = nI 0 from d1) (Nat.le_refl _), ⟨nq'.1, lw, Nat.zero_le _, fun j x hx => by cases hx⟩, l3', G1⟩
  obtain ⟨w', e4⟩ := r_rounds xs hSL 20 0 FU _ g1 a L W [] (by omega) (by show _ < 10000; omega) I3 (Rm_le r3 (by omega))
  refine ⟨w', ?_⟩
  unfold DL_law
  have ia : isC a 12 w1 = some () := isC_s (WA_r v1.1).1
  rw [b_ok e1, u_os, b_rd ia, b_ok e2, i_f (by decide), e3]
  exact e4
theorem sem_all (L : Nat) (xs : Nat → Int32) (hL : L ≤ 260) : ∃ w', (DL_law L xs).1 (SH, RHO, e_u37) = some (1, w') := r_law xs hL s0_Lw s0_GS (Rm_le s0_Rm (by omega))
