/-! halving; beating -/
theorem gfI_wr {w : Wd} {a ci q : Nat} {P : Wt} (j : Nat) (hs : w.1[a]? = some (.inr (.inl ci))) (hq : a ≠ q) : gfI a ci j (wr w q P) = some (w.2.2 a j) := by
  unfold gfI
  have h1 : (wr w q P).1[a]? = some (.inr (.inl ci)) := hs
  rw [if_pos h1]
  show some (mset w.2.2 q P a j) = _
  rw [ms_ne hq]
theorem r_halve1 {w : Wd} {a : Nat} {L : Lay} {W : Wt} (h : Wv w a L W) {m : Nat} (hm : m < nmen W) (x y : Int32) (k393 : Nat → Int32 → Int32 → Int32 → Dm Unit) (F : Nat) : ∃ w', (DX12_passes_L642 k393 (F + 1) a 1 1 x (-1) y (nI m)).1 w = (DX12_passes_L642 k393 F a 1 1 x (-1) y (nI (m + 1))).1 w' ∧ Go w a L W w' L (dHalve1 x m W) ∧ w'.1 = w.1 := by
  obtain ⟨hA, ho, hW, hb⟩ := id h
  have hT := hW.1
  have h12 := (OkT_n hT).2
  have hw := (dHalve1_w (x := x) hW (m := m) (by omega)).1
  show ∃ w', (DX12_passes_b642 _ _ _ _ _ _ _ _ _).1 w = _ ∧ _
  unfold DX12_passes_b642 DX12_passes_b772
  unfold dHalve1 at hw ⊢
  rw [b_rd (g_6 hA), i_f (by rw [le_n hT (by omega)]; omega), b_rd (g_R hA 16 (by decide) (by decide)), b_rd (g_man hA hT hm), b_rd (g_m6 hA hm), nI_succ]
  by_cases c1 : W (40 + m) = 1
  · rw [i_t c1, b_rd (g_m7 hA hm c1)]
    by_cases c2 : W (52 + m) = x
    · rw [if_pos (show W (40 + m) = 1 ∧ W (52 + m) = x from ⟨c1, c2⟩)] at hw
      rw [i_t c2, if_pos (show W (40 + m) = 1 ∧ W (52 + m) = x from ⟨c1, c2⟩), i_f (by decide), b_rd (g_m3 hA hm), b_lf (dv_ok (by decide)), b_row0 (row_of hA hm) 3 3 _ (by decide) (by decide) (by decide)]
      exact ⟨_, rfl, Go_br h hm hw, rfl⟩
    · rw [i_f c2, if_neg (fun z => c2 z.2)]
      exact ⟨w, rfl, Go_rf h, rfl⟩
  · rw [i_f c1, if_neg (fun z => c1 z.1)]
    exact ⟨w, rfl, Go_rf h, rfl⟩
/-- the law beats, one by one -/
def lBeat1 (c x : Int32) (y m : Nat) (W : Wt) : Wt := if W (40 + m) = 1 ∧ W (52 + m) = x then (if W (90 + m) = c then (if m = y then upd (upd W (40 + m) 2) (64 + m) (W 0) else dNote 1 2 (nI m) x (upd (upd W (40 + m) 0) (4 + m) (W (4 + m) / 2))) else upd W (4 + m) (mx0 (W (4 + m) - 10))) else W
theorem r_beat1 {w : Wd} {a : Nat} {L : Lay} {W : Wt} {n : Nat} (h : Wv w a L W) (hR : Rm w (n + 1)) {m : Nat} (hm : m < nmen W) {c : Int32} (hc : 0 ≤ c) (x : Int32) {y : Nat} (hy : y < 12) (k393 : Nat → Int32 → Int32 → Int32 → Dm Unit) (F : Nat) : ∃ w' L', (DX12_passes_L642 k393 (F + 1) a 1 1 x c (nI y) (nI m)).1 w = (DX12_passes_L642 k393 F a 1 1 x c (nI y) (nI (m + 1))).1 w' ∧ Go w a L W w' L' (lBeat1 c x y m W) ∧ Rm w' n := by
  obtain ⟨hA, ho, hW, hb⟩ := id h
  have hT := hW.1
  have h12 := (OkT_n hT).2
  have hm12 : m < 12 := by omega
  have hrow := row_of hA hm
  show ∃ w' L', (DX12_passes_b642 _ _ _ _ _ _ _ _ _).1 w = _ ∧ _
  unfold DX12_passes_b642 DX12_passes_b772 lBeat1
  rw [b_rd (g_6 hA), i_f (by rw [le_n hT (by omega)]; omega), b_rd (g_R hA 16 (by decide) (by decide)), b_rd (g_man hA hT hm), b_rd (g_m6 hA hm), nI_succ]
  by_cases c1 : W (40 + m) = 1
  · rw [i_t c1, b_rd (g_m7 hA hm c1)]
    by_cases c2 : W (52 + m) = x
    · rw [i_t c2, if_pos (show W (40 + m) = 1 ∧ W (52 + m) = x from ⟨c1, c2⟩), i_t hc, b_rd (g_m0 hA hm)]
      by_cases c3 : W (90 + m) = c
      · rw [i_t c3, if_pos c3]
        by_cases c4 : m = y
        · subst c4
          have hW' : WO (upd (upd W (40 + m) 2) (64 + m) (W 0)) := WO_u hW (s78_t (s78_u (by omega)) (s78_u (by omega))) (OkD_usi (OkD_uwh hW.2.1 hm12 ⟨2, by omega, rfl⟩ (Or.inl hm)) hm12)
          rw [i_t rfl, if_pos rfl, b_row0 hrow 6 6 _ (by decide) (by decide) (by decide), b_rd (gfI_wr 1 (WA_r hA).1 (ne_sh (WA_r hA).1 hrow (by decide))), (WA_i hA).2.1, b_row hrow 8 8 _ (by decide) (by decide) (by decide)]
          exact ⟨_, L, rfl, Go_caught h hm hW', Rm_le (Rm_wr hR) (by omega)⟩
        · obtain ⟨b, hb', eb⟩ := OkD_br hW.2.1 m hm12
          have hW' : WO (upd (upd W (40 + m) 0) (4 + m) (W (4 + m) / 2)) := WO_u hW (s78_t (s78_u (by omega)) (s78_u (by omega))) (OkD_ubr (OkD_uwh hW.2.1 hm12 ⟨0, by omega, rfl⟩ (Or.inr rfl)) hm12 (by rw [eb]; exact half_n hb'))
          have g := Go_half h hm hW'
          obtain ⟨w', L', q1, q2, q3⟩ := r_notes g.1 (Rm_wr (P := upd (upd (w.2.2 (L.2.1 m)) 6 0) 3 (W (4 + m) / 2)) (q := L.2.1 m) hR) 2 (nI m) x
          have e3 : iald (L.2.1 m) 3 (wr w (L.2.1 m) (upd (w.2.2 (L.2.1 m)) 6 0)) = some (W (4 + m)) := by
            rw [ia_k (w := wr w (L.2.1 m) (upd (w.2.2 (L.2.1 m)) 6 0)) hrow 3 3 (by decide) (by decide) (by decide), wr_eq]
            exact congrArg some ((WA_m hA).1 m hm).2.2.2.2.2.1
          rw [i_f (by rw [nn_eq (by omega) (by omega)]; exact c4), if_neg c4, b_row0 hrow 6 6 _ (by decide) (by decide) (by decide), b_rd e3, b_lf (dv_ok (by decide)), b_row hrow 3 3 _ (by decide) (by decide) (by decide), b_rd (g_C g.1.1), b_ok q1]
          exact ⟨w', L', rfl, Go_tr g q2, q3⟩
      · obtain ⟨b, hb', eb⟩ := OkD_br hW.2.1 m hm12
        have hW' : WO (upd W (4 + m) (mx0 (W (4 + m) - 10))) := WO_u hW (s78_u (by omega)) (OkD_ubr hW.2.1 hm12 (by rw [eb]; exact less_n hb'))
        rw [i_f c3, if_neg c3, b_rd (g_m3 hA hm), b_row0 hrow 3 3 _ (by decide) (by decide) (by decide)]
        exact ⟨_, L, rfl, Go_br h hm hW', Rm_le (Rm_wr hR) (by omega)⟩
    · rw [i_f c2, if_neg (fun z => c2 z.2)]
      exact ⟨w, L, rfl, Go_rf h, Rm_le hR (by omega)⟩
  · rw [i_f c1, if_neg (fun z => c1 z.1)]
    exact ⟨w, L, rfl, Go_rf h, Rm_le hR (by omega)⟩
/-! the order of catching makes no difference -/
theorem upd_cm {W : Wt} {j k : Nat} {x y : Int32} (h : j ≠ k) : upd (upd W j x) k y = upd (upd W k y) j x := by
  funext i
  by_cases c : i = k
  · subst c
    rw [up_eq, up_ne (fun z => h z.symm), up_eq]
  · rw [up_ne c]
    by_cases d : i = j
    · subst d
      rw [up_eq, up_eq]
    · rw [up_ne d, up_ne d, up_ne c]
theorem dNote_u {what m num : Int32} {W : Wt} {k : Nat} {v : Int32} (h0 : k ≠ 0) (h3 : k ≠ 3) (h : k < 300) : dNote 1 what m num (upd W k v) = upd (dNote 1 what m num W) k v := by
  unfold dNote
  rw [if_neg z1, if_neg z1, up_ne (fun z => h3 z.symm), up_ne (fun z => h0 z.symm)]
  by_cases c : W 3 = 150
  · rw [if_pos c, if_pos c]
  · rw [if_neg c, if_neg c, upd_cm (j := 3) (k := k) (fun z => h3 z.symm), upd_cm (j := 300 + 4 * nt (W 3) + 3) (k := k) (by omega), upd_cm (j := 300 + 4 * nt (W 3) + 2) (k := k) (by omega), upd_cm (j := 300 + 4 * nt (W 3) + 1) (k := k) (by omega), upd_cm (j := 300 + 4 * nt (W 3)) (k := k) (by omega)]
def ctch (y : Nat) (d : Int32) (W : Wt) : Wt := upd (upd W (40 + y) 2) (64 + y) d
theorem ctch_u {y : Nat} {d : Int32} {W : Wt} {k : Nat} {v : Int32} (h1 : k ≠ 40 + y) (h2 : k ≠ 64 + y) : ctch y d (upd W k v) = upd (ctch y d W) k v := by
  unfold ctch
  rw [upd_cm h1, upd_cm h2]
theorem ctch_ne {y : Nat} {d : Int32} {W : Wt} {k : Nat} (h1 : k ≠ 40 + y) (h2 : k ≠ 64 + y) : ctch y d W k = W k := by
  unfold ctch
  rw [up_ne h2, up_ne h1]
theorem ctch_note {y : Nat} {d : Int32} {W : Wt} {what m num : Int32} (hy : y < 12) : ctch y d (dNote 1 what m num W) = dNote 1 what m num (ctch y d W) := by
  unfold ctch
  rw [dNote_u (by omega) (by omega) (by omega), dNote_u (by omega) (by omega) (by omega)]
theorem lb_step {c x : Int32} {y m : Nat} {d : Int32} {W : Wt} (hm : m < 12) (hy : y < 12) (h : m ≠ y) : dBeat1 1 c x m (ctch y d W) = ctch y d (lBeat1 c x y m W) := by
  unfold dBeat1 lBeat1
  rw [ctch_ne (k := 40 + m) (by omega) (by omega), ctch_ne (k := 52 + m) (by omega) (by omega), ctch_ne (k := 90 + m) (by omega) (by omega), ctch_ne (k := 4 + m) (by omega) (by omega)]
  by_cases c1 : W (40 + m) = 1 ∧ W (52 + m) = x
  · rw [if_pos c1, if_pos c1]
    by_cases c2 : W (90 + m) = c
    · rw [if_pos c2, if_pos c2, if_neg h, ctch_note hy, ctch_u (by omega) (by omega), ctch_u (by omega) (by omega)]
    · rw [if_neg c2, if_neg c2, ctch_u (by omega) (by omega)]
  · rw [if_neg c1, if_neg c1]
theorem lb_y {c x : Int32} {y : Nat} {W : Wt} (hy : y < 12) (h : W (40 + y) = 1 ∧ W (52 + y) = x ∧ W (90 + y) = c) : dBeat1 1 c x y (ctch y (W 0) W) = lBeat1 c x y y W := by
  have e : ctch y (W 0) W (40 + y) = 2 := by
    unfold ctch
    rw [up_ne (by omega), up_eq]
  have e1 : dBeat1 1 c x y (ctch y (W 0) W) = ctch y (W 0) W := by
    unfold dBeat1
    rw [if_neg (fun z => absurd (e.symm.trans z.1) (by decide))]
  have e2 : lBeat1 c x y y W = ctch y (W 0) W := by
    unfold lBeat1
    rw [if_pos (show W (40 + y) = 1 ∧ W (52 + y) = x from ⟨h.1, h.2.1⟩), if_pos h.2.2, if_pos rfl]
    rfl
  rw [e1, e2]
theorem lb_keep {c x : Int32} {y m : Nat} {W : Wt} (hW : WO W) (hm : m < 12) (hy : y < 12) (h : m ≠ y) : WO (lBeat1 c x y m W) ∧ lBeat1 c x y m W 0 = W 0 ∧ lBeat1 c x y m W (40 + y) = W (40 + y) ∧ lBeat1 c x y m W (52 + y) = W (52 + y) ∧ lBeat1 c x y m W (90 + y) = W (90 + y) := by
  unfold lBeat1
  by_cases c1 : W (40 + m) = 1 ∧ W (52 + m) = x
  · rw [if_pos c1]
    obtain ⟨b, hb', eb⟩ := OkD_br hW.2.1 m hm
    by_cases c2 : W (90 + m) = c
    · rw [if_pos c2, if_neg h]
      have hW' : WO (upd (upd W (40 + m) 0) (4 + m) (W (4 + m) / 2)) := WO_u hW (s78_t (s78_u (by omega)) (s78_u (by omega))) (OkD_ubr (OkD_uwh hW.2.1 hm ⟨0, by omega, rfl⟩ (Or.inr rfl)) hm (by rw [eb]; exact half_n hb'))
      have n : ∀ k, k ≠ 3 → k < 300 → k ≠ 40 + m → k ≠ 4 + m → dNote 1 2 (nI m) x (upd (upd W (40 + m) 0) (4 + m) (W (4 + m) / 2)) k = W k := fun k h3 hk h4 h5 => by rw [dNote_lo hW'.2.1 ⟨h3, hk⟩, up_ne h5, up_ne h4]
      exact ⟨WO_note hW', n _ (by omega) (by omega) (by omega) (by omega), n _ (by omega) (by omega) (by omega) (by omega), n _ (by omega) (by omega) (by omega) (by omega), n _ (by omega) (by omega) (by omega) (by omega)⟩
    · rw [if_neg c2]
      exact ⟨WO_u hW (s78_u (by omega)) (OkD_ubr hW.2.1 hm (by rw [eb]; exact less_n hb')), up_ne (by omega), up_ne (by omega), up_ne (by omega), up_ne (by omega)⟩
  · rw [if_neg c1]
    exact ⟨hW, rfl, rfl, rfl, rfl⟩
theorem lb_all {c x : Int32} {y : Nat} {W : Wt} (hW : WO W) (hy : y < 12) (h : W (40 + y) = 1 ∧ W (52 + y) = x ∧ W (90 + y) = c) : ∀ n, n ≤ 12 → (n ≤ y → WO (fo n (lBeat1 c x y) W) ∧ fo n (lBeat1 c x y) W 0 = W 0 ∧ (fo n (lBeat1 c x y) W (40 + y) = 1 ∧ fo n (lBeat1 c x y) W (52 + y) = x ∧ fo n (lBeat1 c x y) W (90 + y) = c) ∧ fo n (dBeat1 1 c x) (ctch y (W 0) W) = ctch y (W 0) (fo n (lBeat1 c x y) W)) ∧ (y < n → fo n (dBeat1 1 c x) (ctch y (W 0) W) = fo n (lBeat1 c x y) W ∧ fo n (lBeat1 c x y) W (40 + y) ≠ 1) := by
  intro n
  induction n with
  | zero => exact fun _ => ⟨fun _ => ⟨hW, rfl, h, rfl⟩, fun z => by omega⟩
  | succ n ih =>
    intro hn
    have q := ih (by omega)
    refine ⟨fun hy2 => ?_, fun hy2 => ?_⟩
    · obtain ⟨a1, a2, ⟨a3, a4, a5⟩, a6⟩ := q.1 (by omega)
      obtain ⟨k1, k2, k3, k4, k5⟩ := lb_keep (c := c) (x := x) a1 (m := n) (by omega) hy (by omega)
      rw [fo_s, fo_s, a6]
      exact ⟨k1, k2.trans a2, ⟨k3.trans a3, k4.trans a4, k5.trans a5⟩, lb_step (by omega) hy (by omega)⟩
    · rw [fo_s, fo_s]
      by_cases z : n = y
      · subst z
        obtain ⟨a1, a2, a3, a6⟩ := q.1 (Nat.le_refl _)
        rw [a6, ← a2, lb_y hy a3]
        refine ⟨rfl, ?_⟩
        generalize fo n (lBeat1 c x n) W = V at a3 ⊢
        unfold lBeat1
        rw [if_pos (show V (40 + n) = 1 ∧ V (52 + n) = x from ⟨a3.1, a3.2.1⟩), if_pos a3.2.2, if_pos rfl, up_ne (by omega), up_eq]
        decide
      · obtain ⟨a1, a2⟩ := q.2 (by omega)
        rw [a1]
        generalize fo n (lBeat1 c x y) W = V at a2 ⊢
        have e : dBeat1 1 c x n V = lBeat1 c x y n V := by
          unfold dBeat1 lBeat1
          rw [if_neg z]
        refine ⟨e, ?_⟩
        unfold lBeat1
        split
        · split
          · try rw [if_neg z]
            by_cases c3 : V 3 = 150
            · unfold dNote
              rw [if_neg z1, if_pos (by rw [up_ne (by omega), up_ne (by omega)]; exact c3), up_ne (by omega), up_ne (by omega)]
              exact a2
            · unfold dNote
              rw [if_neg z1, if_neg (by rw [up_ne (by omega), up_ne (by omega)]; exact c3), up_ne (by omega), up_ne (by omega), up_ne (by omega), up_ne (by omega), up_ne (by omega), up_ne (by omega), up_ne (by omega)]
              exact a2
          · rw [up_ne (by omega)]
            exact a2
        · exact a2
