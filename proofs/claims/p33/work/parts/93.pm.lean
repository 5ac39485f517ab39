/-! telling -/
theorem r_menI {a : Nat} {f : Nat → Wt → Wt} {c : Nat} (I : Wt → Prop) (B : Nat → Int32 → Dm Unit) (E : Dm Unit) (hs : ∀ (m F n : Nat) (w : Wd) (L : Lay) (W : Wt), Wv w a L W → I W → Rm w (n + c) → m < nmen W → ∃ w' L', (B (F + 1) (nI m)).1 w = (B F (nI (m + 1))).1 w' ∧ Go w a L W w' L' (f m W) ∧ Rm w' n ∧ I (f m W)) (he : ∀ (F : Nat) (w : Wd) (L : Lay) (W : Wt), Wv w a L W → (B (F + 1) (nI (nmen W))).1 w = E.1 w) : ∀ (k i F n : Nat) (w : Wd) (L : Lay) (V W : Wt), i + k = nmen V → fo i f V = W → nmen W = nmen V → k < F → Wv w a L W → I W → Rm w (n + c * k) → ∃ w' L', (B F (nI i)).1 w = E.1 w' ∧ Go w a L W w' L' (fo (nmen V) f V) ∧ Rm w' n := by
  intro k
  induction k with
  | zero =>
    intro i F n w L V W hi hV hn hF h hI hR
    obtain ⟨F, rfl⟩ : ∃ F', F = F' + 1 := ⟨F - 1, by omega⟩
    have e : i = nmen V := by omega
    subst e
    refine ⟨w, L, ?_, by rw [hV]; exact Go_rf h, hR⟩
    rw [← hn]
    exact he F w L W h
  | succ k ih =>
    intro i F n w L V W hi hV hn hF h hI hR
    obtain ⟨F, rfl⟩ : ∃ F', F = F' + 1 := ⟨F - 1, by omega⟩
    obtain ⟨w1, L1, q1, q2, q3, q4⟩ := hs i F (n + c * k) w L W h hI (by rw [Nat.mul_succ] at hR; exact Rm_le hR (by omega)) (by omega)
    obtain ⟨w2, L2, r1, r2, r3⟩ := ih (i + 1) F n w1 L1 V (f i W) (by omega) (by rw [fo_s, hV]) (by rw [q2.2.2.2.2.1, hn]) (by omega) q2.1 q4 q3
    exact ⟨w2, L2, q1.trans r1, Go_tr q2 r2, r3⟩
theorem r_tell1 {w : Wd} {a : Nat} {L : Lay} {W : Wt} (h : Wv w a L W) {m o : Nat} (hm : m < nmen W) (ho' : o < nmen W) (k833 : Nat → Int32 → Int32 → Int32 → Dm Unit) (l2 : Int32) (F : Nat) : ∃ w', (DX12_passes_L866 k833 (F + 1) a 1 l2 (nI m) (nI o)).1 w = (DX12_passes_L866 k833 F a 1 l2 (nI m) (nI (o + 1))).1 w' ∧ Go w a L W w' L (dTell1 m o W) ∧ w'.1 = w.1 := by
  obtain ⟨hA, ho, hW, hb⟩ := id h
  have hT := hW.1
  have h12 := (OkT_n hT).2
  have hw := (dTell1_w hW (m := m) (o := o) (by omega) (by omega)).1
  show ∃ w', (DX12_passes_b866 _ _ _ _ _ _ _).1 w = _ ∧ _
  unfold DX12_passes_b866 DX12_passes_b923
  unfold dTell1 at hw ⊢
  rw [b_rd (g_6 hA), i_f (by rw [le_n hT (by omega)]; omega), b_rd (g_R hA 14 (by decide) (by decide)), b_rd (g_te hA (by omega)), nI_succ]
  by_cases c1 : tb (sTold W (nI m)) o = true
  · rw [i_t (by rw [bit_1 _ (by omega)]; exact c1), b_rd (g_R hA 16 (by decide) (by decide)), b_rd (g_man hA hT ho'), b_rd (g_m6 hA ho')]
    by_cases c2 : W (40 + o) = 0
    · rw [if_pos ⟨c1, c2⟩] at hw
      rw [i_t c2, if_pos (show tb (sTold W (nI m)) o = true ∧ W (40 + o) = 0 from ⟨c1, c2⟩), b_rd (g_R hA 16 (by decide) (by decide)), b_rd (g_man hA hT ho'), b_rd (g_m4 hA ho'), b_rd (g_R hA 16 (by decide) (by decide)), b_rd (g_man hA hT hm), b_rd (g_m4 hA hm), b_row0 (row_of hA ho') 4 4 _ (by decide) (by decide) (by decide)]
      exact ⟨_, rfl, Go_kn h ho' hw, rfl⟩
    · rw [i_f c2, if_neg (fun z => c2 z.2)]
      exact ⟨w, rfl, Go_rf h, rfl⟩
  · rw [i_f (by rw [bit_1 _ (by omega)]; exact c1), if_neg (fun z => c1 z.1)]
    exact ⟨w, rfl, Go_rf h, rfl⟩
theorem r_tellM {w : Wd} {a : Nat} {L : Lay} {W : Wt} {n : Nat} (h : Wv w a L W) (hR : Rm w n) (hd : W 0 - W 0 / 7 * 7 = 0) {m : Nat} (hm : m < nmen W) (l2 : Int32) (F : Nat) : ∃ w' L', (DX12_passes_L833 (F + 1) a 1 l2 (nI m)).1 w = (DX12_passes_L833 F a 1 l2 (nI (m + 1))).1 w' ∧ Go w a L W w' L' (dTellM m W) ∧ Rm w' n := by
  obtain ⟨hA, ho, hW, hb⟩ := id h
  have hT := hW.1
  have h12 := (OkT_n hT).2
  show ∃ w' L', (DX12_passes_b833 _ _ _ _ _).1 w = _ ∧ _
  unfold DX12_passes_b833 dTellM
  rw [b_rd (g_6 hA), i_f (by rw [le_n hT (by omega)]; omega), b_rd (g_1 hA), b_lf (rm_ok (by decide)), i_t hd, b_rd (g_R hA 16 (by decide) (by decide)), b_rd (g_man hA hT hm), b_rd (g_m6 hA hm)]
  have e929 : ∀ w, (DX12_passes_b929 (DX12_passes_L833 F) a 1 l2 (nI m)).1 w = (DX12_passes_L833 F a 1 l2 (nI (m + 1))).1 w := fun w => by
    unfold DX12_passes_b929
    rw [nI_succ]
  by_cases c1 : W (40 + m) = 0
  · rw [i_t c1, if_pos c1]
    obtain ⟨w', L', q1, q2, q3⟩ := r_menI (c := 0) (f := dTell1 m) (fun V => m < nmen V) (fun F' i => DX12_passes_L866 (DX12_passes_L833 F) F' a 1 l2 (nI m) i) (DX12_passes_b929 (DX12_passes_L833 F) a 1 l2 (nI m)) (fun o F' n w L W h hI hR ho' => by
      obtain ⟨w', q1, q2, q3⟩ := r_tell1 h hI ho' (DX12_passes_L833 F) l2 F'
      exact ⟨w', L, q1, q2, Rm_e hR q3, by rw [q2.2.2.2.2.1]; exact hI⟩) (fun F' w L W h => by
      show (DX12_passes_b866 _ _ _ _ _ _ _).1 w = _
      unfold DX12_passes_b866
      rw [b_rd (g_6 h.1), i_t (by rw [le_n h.2.2.1.1 (by omega)]; omega)]) (nmen W) 0 FU n w L W W (by omega) rfl rfl (by show _ < 10000; omega) h hm (by rw [Nat.zero_mul]; exact hR)
    exact ⟨w', L', q1.trans (e929 w'), q2, q3⟩
  · rw [i_f c1, if_neg c1, e929]
    exact ⟨w, L, rfl, Go_rf h, hR⟩
theorem r_tells {w : Wd} {a : Nat} {L : Lay} {W : Wt} {n : Nat} (h : Wv w a L W) (hR : Rm w n) (l2 : Int32) : ∃ w' L', (DX12_passes_b831 a 1 l2).1 w = (DX12_passes_b935 a 1 l2).1 w' ∧ Go w a L W w' L' (dTells W) ∧ Rm w' n := by
  obtain ⟨hA, ho, hW, hb⟩ := id h
  have hT := hW.1
  have h12 := (OkT_n hT).2
  unfold DX12_passes_b831 dTells
  by_cases hd : W 0 - W 0 / 7 * 7 = 0
  · rw [if_pos hd]
    exact r_menI (c := 0) (f := dTellM) (fun V => V 0 - V 0 / 7 * 7 = 0) (fun F i => DX12_passes_L833 F a 1 l2 i) (DX12_passes_b935 a 1 l2) (fun m F n w L W h hI hR hm => by
      obtain ⟨w', L', q1, q2, q3⟩ := r_tellM h hR hI hm l2 F
      have h12 := (OkT_n h.2.2.1.1).2
      refine ⟨w', L', q1, q2, q3, ?_⟩
      rw [(dTellM_w h.2.2.1 (m := m) (by omega)).2.2]
      exact hI) (fun F w L W h => by
      show (DX12_passes_b833 _ _ _ _ _).1 w = _
      unfold DX12_passes_b833
      rw [b_rd (g_6 h.1), i_t (by rw [le_n h.2.2.1.1 (by omega)]; omega)]) (nmen W) 0 FU n w L W W (by omega) rfl rfl (by show _ < 10000; omega) h hd (by rw [Nat.zero_mul]; exact hR)
  · rw [if_neg hd]
    refine ⟨w, L, ?_, Go_rf h, hR⟩
    show (DX12_passes_b833 _ _ _ _ _).1 w = _
    unfold DX12_passes_b833
    rw [b_rd (g_6 hA)]
    by_cases c : W 78 ≤ 0
    · rw [i_t c]
    · rw [i_f c, b_rd (g_1 hA), b_lf (rm_ok (by decide)), i_f hd]
/-! fading -/
theorem ntz_ok : ∀ j, j < 256 → j ≠ 0 → FJ6_numberOfTrailingZeros_0f7a4 (nI j) = some (nI (lbit (nI j))) ∧ (nI j) ^^^ ((1 : Int32) <<< (nI (lbit (nI j)) &&& 31)) = unb (nI j) := by decide +kernel
theorem r_draw {w : Wd} {a : Nat} {L : Lay} {W : Wt} (h : Wv w a L W) : (DX12_draw a 1000).1 w = some (dv1000 (drw (W 2)), wr w a (upd (w.2.2 a) 0 (drw (W 2)))) ∧ Go w a L W (wr w a (upd (w.2.2 a) 0 (drw (W 2)))) L (upd W 2 (drw (W 2))) := by
  obtain ⟨hA, ho, hW, hb⟩ := id h
  have g := Go_state h (x := drw (W 2)) (WO_dr hW _)
  refine ⟨?_, g⟩
  unfold DX12_draw
  have e : ((1664525 * W 2) + 1013904223 : Int32) = drw (W 2) := by
    unfold drw
    rw [Int32.mul_comm]
  rw [b_rd (g_0 hA), e, b_fld0 (WA_r hA).1 0, b_rd (g_0 g.1.1), up_eq]
  rw [b_lf (rm_ok (by decide)), u_rt]
  rfl
theorem r_fade1 {w : Wd} {a : Nat} {L : Lay} {W : Wt} {n : Nat} (h : Wv w a L W) (hR : Rm w (n + 1)) {m : Nat} (hm : m < nmen W) (l2 : Int32) (F : Nat) : ∃ w' L', (DX12_passes_L937 (F + 1) a 1 l2 (nI m)).1 w = (DX12_passes_L937 F a 1 l2 (nI (m + 1))).1 w' ∧ Go w a L W w' L' (dFade1 1 m W) ∧ Rm w' n := by
  obtain ⟨hA, ho, hW, hb⟩ := id h
  have hT := hW.1
  have h12 := (OkT_n hT).2
  show ∃ w' L', (DX12_passes_b937 _ _ _ _ _).1 w = _ ∧ _
  unfold DX12_passes_b937 DX12_passes_b1016 dFade1
  rw [b_rd (g_6 hA), i_f (by rw [le_n hT (by omega)]; omega), i_f z1, b_rd (g_R hA 16 (by decide) (by decide)), b_rd (g_man hA hT hm), b_rd (g_m4 hA hm), nI_succ]
  by_cases c1 : W (16 + m) = 0
  · rw [i_t c1, if_pos (Or.inr c1)]
    exact ⟨w, L, rfl, Go_rf h, Rm_le hR (by omega)⟩
  · obtain ⟨d1, d2⟩ := r_draw h
    have A2 := d2.1
    have hm2 : m < nmen (upd W 2 (drw (W 2))) := by rw [d2.2.2.2.2.1]; exact hm
    rw [i_f c1, if_neg (fun z => z.elim z1 c1), b_rd (g_C hA), b_ok d1, b_rd (g_C A2.1), b_ok (r_say3 A2.1 A2.2.1 A2.2.2.1 hm2)]
    by_cases c2 : dv1000 (drw (W 2)) < dAsk (upd W 2 (drw (W 2))) 3 m
    · obtain ⟨j, hj, ej⟩ := OkD_kn hW.2.1 m (by omega)
      have hj0 : j ≠ 0 := fun z => c1 (by rw [ej, z]; rfl)
      obtain ⟨t1, t2⟩ := ntz_ok j hj hj0
      rw [← ej] at t1 t2
      have e16 : (upd W 2 (drw (W 2))) (16 + m) = W (16 + m) := up_ne (by omega)
      have hA2 := A2.1
      have hT2 := A2.2.2.1.1
      have g4 : iald (L.2.1 m) 4 (wr w a (upd (w.2.2 a) 0 (drw (W 2)))) = some (W (16 + m)) := by rw [g_m4 hA2 hm2, e16]
      have hW3 : WO (upd (upd W 2 (drw (W 2))) (16 + m) (unb (W (16 + m)))) := WO_u A2.2.2.1 (s78_u (by omega)) (OkD_ukn A2.2.2.1.2.1 (by omega) (by unfold unb; exact and_n hj (by omega) ej))
      have g3 := Go_kn A2 hm2 hW3
      obtain ⟨w', L', q1, q2, q3⟩ := r_notes g3.1 (n := n) (Rm_wr (Rm_wr hR)) 3 (nI m) (nI (lbit (W (16 + m))))
      rw [i_t c2, if_pos c2, b_rd (g_R hA2 16 (by decide) (by decide)), b_rd (g_man hA2 hT2 hm2), b_rd g4, b_ok (dclR_ok A2.2.1 t1), b_rd (g_R hA2 16 (by decide) (by decide)), b_rd (g_man hA2 hT2 hm2), b_rd g4, t2, b_row0 (row_of hA2 hm2) 4 4 _ (by decide) (by decide) (by decide), b_rd (g_C g3.1.1), b_ok q1]
      exact ⟨w', L', rfl, Go_tr d2 (Go_tr g3 q2), q3⟩
    · rw [i_f c2, if_neg c2]
      exact ⟨_, L, rfl, d2, Rm_le (Rm_wr hR) (by omega)⟩
theorem r_fades {w : Wd} {a : Nat} {L : Lay} {W : Wt} {n : Nat} (h : Wv w a L W) (hR : Rm w (n + 12)) (l2 : Int32) : ∃ w' L', (DX12_passes_b935 a 1 l2).1 w = (DX12_passes_b1022 a 1 l2).1 w' ∧ Go w a L W w' L' (dFades 1 W) ∧ Rm w' n := by
  have h12 := (OkT_n h.2.2.1.1).2
  exact r_men (c := 1) (fun F i => DX12_passes_L937 F a 1 l2 i) (DX12_passes_b1022 a 1 l2) (fun m F n w L W h hR hm => r_fade1 h hR hm l2 F) (fun F w L W h => by
    show (DX12_passes_b937 _ _ _ _ _).1 w = _
    unfold DX12_passes_b937
    rw [b_rd (g_6 h.1), i_t (by rw [le_n h.2.2.1.1 (by omega)]; omega)]) (nmen W) 0 FU n w L W W (by omega) rfl rfl (by show _ < 10000; omega) h (Rm_le hR (by omega))
/-! the end of a day -/
theorem r_next {w : Wd} {a : Nat} {L : Lay} {W : Wt} (h : Wv w a L W) : ∃ w', (DX12_passes_b1172 a).1 w = some ((), w') ∧ Go w a L W w' L (dNext W) ∧ w'.1 = w.1 := by
  obtain ⟨hA, ho, hW, hb⟩ := id h
  unfold DX12_passes_b1172
  rw [b_rd (g_1 hA), b_fld0 (WA_r hA).1 1, u_rt]
  exact ⟨_, rfl, Go_day h (dNext_w hW).1, rfl⟩
theorem r_home {w : Wd} {a : Nat} {L : Lay} {W : Wt} {n : Nat} (h : Wv w a L W) (hR : Rm w (n + 1)) : ∃ w' L', (DX12_passes_L1140 FU a 1 0).1 w = (DX12_passes_b1172 a).1 w' ∧ Go w a L W w' L' (dNote 1 4 (-1) 0 (dHome W)) ∧ Rm w' n := by
  have h12 := (OkT_n h.2.2.1.1).2
  obtain ⟨w1, L1, q1, q2, q3⟩ := r_men (c := 0) (f := fun m V => upd V (40 + m) 0) (fun F i => DX12_passes_L1140 F a 1 i) (dbind (dread (isC a 12)) fun _ => dbind (DX12_notes a 4 (-1) 0 1) fun _ => DX12_passes_b1172 a) (fun m F n w L W h hR hm => by
    obtain ⟨hA, ho, hW, hb⟩ := id h
    have h12 := (OkT_n hW.1).2
    show ∃ w' L', (DX12_passes_b1140 _ _ _ _).1 w = _ ∧ _
    unfold DX12_passes_b1140
    rw [b_rd (g_6 hA), i_f (by rw [le_n hW.1 (by omega)]; omega), b_rd (g_R hA 16 (by decide) (by decide)), b_rd (g_man hA hW.1 hm), b_row0 (row_of hA hm) 6 6 _ (by decide) (by decide) (by decide), nI_succ]
    exact ⟨_, L, rfl, Go_home h hm (WO_home hW (by omega)), Rm_wr hR⟩) (fun F w L W h => by
    show (DX12_passes_b1140 _ _ _ _).1 w = _
    unfold DX12_passes_b1140
    rw [b_rd (g_6 h.1), i_t (by rw [le_n h.2.2.1.1 (by omega)]; omega)]) (nmen W) 0 FU (n + 1) w L W W (by omega) rfl rfl (by show _ < 10000; omega) h (Rm_le hR (by omega))
  obtain ⟨w2, L2, r1, r2, r3⟩ := r_notes q2.1 q3 4 (-1) 0
  refine ⟨w2, L2, ?_, Go_tr q2 r2, r3⟩
  have q1' : (DX12_passes_L1140 FU a 1 0).1 w = _ := q1
  rw [q1', b_rd (g_C q2.1.1), b_ok r1]
theorem r_back1 {w : Wd} {a : Nat} {L : Lay} {W : Wt} {n : Nat} (h : Wv w a L W) (hR : Rm w (n + 1)) {m : Nat} (hm : m < nmen W) (F : Nat) : ∃ w' L', (DX12_passes_L1065 (F + 1) a 1 (nI m)).1 w = (DX12_passes_L1065 F a 1 (nI (m + 1))).1 w' ∧ Go w a L W w' L' (dBack1 1 m W) ∧ Rm w' n := by
  obtain ⟨hA, ho, hW, hb⟩ := id h
  have hT := hW.1
  have h12 := (OkT_n hT).2
  show ∃ w' L', (DX12_passes_b1065 _ _ _ _).1 w = _ ∧ _
  unfold DX12_passes_b1065 DX12_passes_b1125 dBack1
  rw [b_rd (g_6 hA), i_f (by rw [le_n hT (by omega)]; omega), b_rd (g_R hA 16 (by decide) (by decide)), b_rd (g_man hA hT hm), b_rd (g_m6 hA hm), nI_succ]
  by_cases c1 : W (40 + m) = 2
  · rw [i_t c1, b_rd (g_1 hA), b_rd (g_R hA 16 (by decide) (by decide)), b_rd (g_man hA hT hm), b_rd (g_m8 hA hm c1), b_rd (g_5 hA)]
    by_cases c2 : W 0 - W (64 + m) < W 81
    · rw [i_t c2, if_neg (fun z => Int32.not_lt.mpr z.2 c2)]
      exact ⟨w, L, rfl, Go_rf h, Rm_le hR (by omega)⟩
    · have c2' := Int32.not_lt.mp c2
      have g := Go_home h hm (WO_home hW (by omega))
      obtain ⟨w', L', q1, q2, q3⟩ := r_notes g.1 (Rm_wr (P := upd (w.2.2 (L.2.1 m)) 6 0) (q := L.2.1 m) hR) 5 (nI m) 0
      rw [i_f c2, if_pos (show W (40 + m) = 2 ∧ W 81 ≤ W 0 - W (64 + m) from ⟨c1, c2'⟩), b_rd (g_R hA 16 (by decide) (by decide)), b_rd (g_man hA hT hm), b_row0 (row_of hA hm) 6 6 _ (by decide) (by decide) (by decide), b_rd (g_C g.1.1), b_ok q1]
      exact ⟨w', L', rfl, Go_tr g q2, q3⟩
  · rw [i_f c1, if_neg (fun z => c1 z.1)]
    exact ⟨w, L, rfl, Go_rf h, Rm_le hR (by omega)⟩
theorem r_back {w : Wd} {a : Nat} {L : Lay} {W : Wt} {n : Nat} (h : Wv w a L W) (hR : Rm w (n + 13)) : ∃ w' L', (DX12_passes_b1063 a 1).1 w = (DX12_passes_b1172 a).1 w' ∧ Go w a L W w' L' (if dBack 1 W 1 = 1 then dBack 1 W else dNote 1 4 (-1) 0 (dHome (dBack 1 W))) ∧ Rm w' n := by
  have h12 := (OkT_n h.2.2.1.1).2
  obtain ⟨w1, L1, q1, q2, q3⟩ := r_men (c := 1) (f := dBack1 1) (fun F i => DX12_passes_L1065 F a 1 i) (dbind (dread (gfI a 12 2)) fun x3 => (if x3 = 0 then (DX12_passes_L1140 FU a 1 0) else (DX12_passes_b1172 a))) (fun m F n w L W h hR hm => r_back1 h hR hm F) (fun F w L W h => by
    show (DX12_passes_b1065 _ _ _ _).1 w = _
    unfold DX12_passes_b1065
    rw [b_rd (g_6 h.1), i_t (by rw [le_n h.2.2.1.1 (by omega)]; omega)]) (nmen W) 0 FU (n + 1) w L W W (by omega) rfl rfl (by show _ < 10000; omega) h (Rm_le hR (by omega))
  have q2' : Go w a L W w1 L1 (dBack 1 W) := q2
  have q1' : (DX12_passes_b1063 a 1).1 w = _ := q1
  rw [q1', b_rd (g_2 q2'.1.1)]
  rcases OkD_war q2'.1.2.2.1.2.1 with c | c
  · rw [i_t c, if_neg (by rw [c]; decide)]
    obtain ⟨w2, L2, r1, r2, r3⟩ := r_home q2'.1 q3
    exact ⟨w2, L2, r1, Go_tr q2' r2, r3⟩
  · rw [i_f (by rw [c]; decide), if_pos c]
    exact ⟨w1, L1, rfl, q2', Rm_le q3 (by omega)⟩
theorem r_ends {w : Wd} {a : Nat} {L : Lay} {W : Wt} {n : Nat} (h : Wv w a L W) (hR : Rm w (n + 13)) : ∃ w' L', (DX12_passes_b1022 a 1 1).1 w = (DX12_passes_b1172 a).1 w' ∧ Go w a L W w' L' (dEnds 1 W) ∧ Rm w' n := by
  obtain ⟨hA, ho, hW, hb⟩ := id h
  have hT := hW.1
  have yes : (sWt W (sKn W 0) < W 79 ∨ sWt W (sKn W 1) < W 79) → ∃ w' L', (DX12_passes_b1058 a 1).1 w = (DX12_passes_b1172 a).1 w' ∧ Go w a L W w' L' (dEnds 1 W) ∧ Rm w' n := fun c => by
    have e : dE1 W = upd W 1 0 := if_pos c
    have g := Go_war h (x := 0) (by rw [← e]; exact (dE1_w hW).1)
    obtain ⟨w2, L2, r1, r2, r3⟩ := r_back g.1 (n := n) (Rm_wr hR)
    refine ⟨w2, L2, ?_, ?_, r3⟩
    · unfold DX12_passes_b1058
      rw [b_fld0 (WA_r hA).1 2]
      exact r1
    · unfold dEnds
      rw [e]
      exact Go_tr g r2
  have no : ¬ (sWt W (sKn W 0) < W 79 ∨ sWt W (sKn W 1) < W 79) → ∃ w' L', (DX12_passes_b1063 a 1).1 w = (DX12_passes_b1172 a).1 w' ∧ Go w a L W w' L' (dEnds 1 W) ∧ Rm w' n := fun c => by
    have e : dE1 W = W := if_neg c
    unfold dEnds
    rw [e]
    exact r_back h hR
  unfold DX12_passes_b1022
  rw [i_f z1, b_rd (g_C hA), b_ok (r_knows hA hT 0), b_rd (g_C hA), b_ok (r_weighs hA _), b_rd (g_3 hA)]
  by_cases c1 : sWt W (sKn W 0) < W 79
  · rw [i_t c1]
    exact yes (Or.inl c1)
  · rw [i_f c1, b_rd (g_C hA), b_ok (r_knows hA hT 1), b_rd (g_C hA), b_ok (r_weighs hA _), b_rd (g_3 hA)]
    by_cases c2 : sWt W (sKn W 1) < W 79
    · rw [i_f (Int32.not_le.mpr c2)]
      exact yes (Or.inr c2)
    · rw [i_t (Int32.not_lt.mp c2)]
      exact no (fun z => z.elim c1 c2)
/-! a day -/
theorem dWages_1 (fa tr : Int32) (s : Wt × Int32) : (dWages fa tr s).1 = dArrive (dFights tr (dMarches (dCallUp fa tr 1 (dCallUp fa tr 0 s.1)), s.2)).1 := by simp only [dWages]
theorem dMid_1 (tr : Int32) (W : Wt) : dMid tr W = dFades tr (dTells W) := by simp only [dMid]
theorem r_passes {w : Wd} {a : Nat} {L : Lay} {s : Wt × Int32} {n : Nat} (h : Wv w a L s.1) (hR : Rm w (n + 256)) : ∃ w' L', (DX12_passes a 1).1 w = some ((), w') ∧ Go w a L s.1 w' L' (dDay 0 1 s).1 ∧ Rm w' n := by
  obtain ⟨hA, ho, hW, hb⟩ := id h
  have hT := hW.1
  have h12 := (OkT_n hT).2
  unfold DX12_passes DX12_passes_b13 dDay
  rw [b_rd (g_2 hA)]
  by_cases c : s.1 1 = 1
  · rw [i_t c, if_pos c]
    obtain ⟨w1, L1, a1, a2, a3⟩ := r_callUp h (n := n + 255) (Rm_le hR (by omega)) (c := 0) (by omega) 9999
    obtain ⟨w2, L2, b1, b2, b3⟩ := r_callUp a2.1 (n := n + 254) (Rm_le a3 (by omega)) (c := 1) (by omega) 9998
    obtain ⟨w3, L3, c1, c2, c3⟩ := r_marches b2.1 b3
    obtain ⟨w4, L4, d1, d2, d3⟩ := r_fights (s := (dMarches (dCallUp 0 1 1 (dCallUp 0 1 0 s.1)), s.2)) (n := n + 30) c2.1 (Rm_le c3 (by omega))
    obtain ⟨w5, e1, e2, e3⟩ := r_arrive d2.1
    obtain ⟨w6, L6, f1, f2, f3⟩ := r_tells e2.1 (Rm_e d3 e3) 1
    obtain ⟨w7, L7, g1, g2, g3⟩ := r_fades f2.1 (n := n + 18) (Rm_le f3 (by omega)) 1
    obtain ⟨w8, L8, h1, h2, h3⟩ := r_ends g2.1 (n := n) (Rm_le g3 (by omega))
    obtain ⟨w9, i1, i2, i3⟩ := r_next h2.1
    have e16 : (DX12_passes_L16 (9997 + 1) a 1 1 (nI (1 + 1))).1 w2 = (DX12_passes_b198 a 1 1).1 w2 := by
      show (DX12_passes_b16 _ _ _ _ _).1 w2 = _
      unfold DX12_passes_b16
      rw [i_t (by decide)]
    have a1' : (DX12_passes_L16 FU a 1 1 0).1 w = (DX12_passes_L16 9999 a 1 1 (nI (0 + 1))).1 w1 := a1
    have G5 : Go w a L s.1 w5 L4 (dWages 0 1 s).1 := by
      have z : Go w a L s.1 w5 L4 (dArrive (dFights 1 (dMarches (dCallUp 0 1 1 (dCallUp 0 1 0 s.1)), s.2)).1) := Go_tr a2 (Go_tr b2 (Go_tr c2 (Go_tr d2 e2)))
      rw [dWages_1]
      exact z
    have G7 : Go w a L s.1 w7 L7 (dMid 1 (dWages 0 1 s).1) := by
      rw [← dWages_1] at f2 g2
      rw [dMid_1]
      exact Go_tr G5 (Go_tr f2 g2)
    have G9 : Go w a L s.1 w9 L8 (dNext (dEnds 1 (dMid 1 (dWages 0 1 s).1))) := by
      rw [← dWages_1, ← dMid_1] at h2 i2
      exact Go_tr G7 (Go_tr h2 i2)
    refine ⟨w9, L8, ?_, G9, Rm_e h3 i3⟩
    rw [a1']
    exact b1.trans (e16.trans (c1.trans (d1.trans (e1.trans (f1.trans (g1.trans (h1.trans i1)))))))
  · rw [i_f c, if_neg c]
    obtain ⟨w6, L6, f1, f2, f3⟩ := r_tells h hR 0
    obtain ⟨w7, L7, g1, g2, g3⟩ := r_fades f2.1 (n := n) (Rm_le f3 (by omega)) 0
    obtain ⟨w9, i1, i2, i3⟩ := r_next g2.1
    refine ⟨w9, L7, ?_, Go_tr f2 (Go_tr g2 i2), Rm_e g3 i3⟩
    show (DX12_passes_b16 _ _ _ _ _).1 w = _
    unfold DX12_passes_b16
    rw [i_f (by decide), i_t rfl]
    have z198 : (DX12_passes_b198 a 1 0).1 w = (DX12_passes_b391 a 1 0).1 w := by
      show (DX12_passes_b200 _ _ _ _ _).1 w = _
      unfold DX12_passes_b200
      rw [b_rd (g_6 hA)]
      by_cases k : s.1 78 ≤ 0
      · rw [i_t k]
      · rw [i_f k, i_t rfl]
    have z391 : (DX12_passes_b391 a 1 0).1 w = (DX12_passes_b831 a 1 0).1 w := by
      have e0 : DX12_passes_b391 a 1 0 = DX12_passes_b393 (DX12_passes_L393 9999) a 1 0 0 := rfl
      rw [e0]
      unfold DX12_passes_b393 DX12_passes_b784
      rw [i_f (by decide), i_t rfl, i_t rfl]
    have z1022 : (DX12_passes_b1022 a 1 0).1 w7 = (DX12_passes_b1172 a).1 w7 := by
      unfold DX12_passes_b1022
      rw [i_t rfl]
    exact z198.trans (z391.trans (f1.trans (g1.trans (z1022.trans i1))))
