/-! sending, in the law and in the system -/
theorem Go_cn {w : Wd} {a : Nat} {L : Lay} {W : Wt} (h : Wv w a L W) {m : Nat} (hm : m < nmen W) {x : Int32} (hW' : WO (upd W (28 + m) x)) : Go w a L W (wr w (L.2.1 m) (upd (w.2.2 (L.2.1 m)) 5 x)) L (upd W (28 + m) x) := by
  obtain ⟨-, -, q0, q1, q2, q3, q4, q5, q6, q7, q8⟩ := (WA_m h.1).1 m hm
  have h12 := (OkT_n h.2.2.1.1).2
  refine Go_row h hm hW' (fun k _ _ c1 _ _ _ => up_ne c1) ?_
  have n4 : (upd W (28 + m) x) (4 + m) = W (4 + m) := by rw [up_ne (by omega)]
  have n16 : (upd W (28 + m) x) (16 + m) = W (16 + m) := by rw [up_ne (by omega)]
  have n28 : (upd W (28 + m) x) (28 + m) = x := by rw [up_eq]
  have n40 : (upd W (28 + m) x) (40 + m) = W (40 + m) := by rw [up_ne (by omega)]
  have n52 : (upd W (28 + m) x) (52 + m) = W (52 + m) := by rw [up_ne (by omega)]
  have n64 : (upd W (28 + m) x) (64 + m) = W (64 + m) := by rw [up_ne (by omega)]
  exact ⟨q0, q1, q2, q3.trans n4.symm, q4.trans n16.symm, n28.symm, q6.trans n40.symm, fun z => (q7 (n40.symm.trans z)).trans n52.symm, fun z => (q8 (n40.symm.trans z)).trans n64.symm⟩
theorem l359 {w : Wd} {a SL : Nat} {L : Lay} {W : Wt} (xs : Nat → Int32) (K : Nat → Nat → Int32 → Int32 → Dm Int32) (hv : Wv w a L W) (l3 l10 : Nat) (l4 l5 l6 l9 : Int32) : ∀ (d j F i : Nat), j + d = nmen W → d < F → i ≤ nmen W → ∃ i', i' ≤ nmen W ∧ (DL_law_L359 SL xs K F a l3 l4 l5 l6 (nI i) l9 l10 (nI j)).1 w = (DL_law_b407 SL xs K a l3 l4 l5 l6 (nI i') l9 l10).1 w := by
  have hT := hv.2.2.1.1
  obtain ⟨hn, h12⟩ := OkT_n hT
  have g6 : gfI a 12 6 w = some (nI (nmen W)) := by rw [g_6 hv.1, hn]
  intro d
  induction d with
  | zero =>
    intro j F i hj hF hi
    obtain ⟨F, rfl⟩ : ∃ F', F = F' + 1 := ⟨F - 1, by omega⟩
    refine ⟨i, hi, ?_⟩
    show (DL_law_b359 SL xs K (DL_law_L359 SL xs K F) a l3 l4 l5 l6 (nI i) l9 l10 (nI j)).1 w = _
    unfold DL_law_b359
    rw [b_rd g6, i_t (by rw [nn_le (by omega) (by omega)]; omega)]
  | succ d ih =>
    intro j F i hj hF hi
    obtain ⟨F, rfl⟩ : ∃ F', F = F' + 1 := ⟨F - 1, by omega⟩
    show ∃ i', i' ≤ nmen W ∧ (DL_law_b359 SL xs K (DL_law_L359 SL xs K F) a l3 l4 l5 l6 (nI i) l9 l10 (nI j)).1 w = _
    unfold DL_law_b359
    rw [b_rd g6, i_f (by rw [nn_le (by omega) (by omega)]; omega), b_rd g6]
    by_cases c : nmen W ≤ i
    · exact ⟨i, hi, by rw [i_t (by rw [nn_le (by omega) (by omega)]; exact c)]⟩
    · rw [i_f (by rw [nn_le (by omega) (by omega)]; exact c), b_rd (g_R hv.1 16 (by decide) (by decide)), b_rd (g_man hv.1 hT (by omega)), b_rd (g_m6 hv.1 (by omega))]
      by_cases c2 : W (40 + i) = 0
      · exact ⟨i, hi, by rw [i_t c2]⟩
      · obtain ⟨i', h1, h2⟩ := ih (j + 1) F ((i + 1) % nmen W) (by omega) (by omega) (by have := Nat.mod_lt (i + 1) (show 0 < nmen W by omega); omega)
        refine ⟨i', h1, ?_⟩
        rw [i_f c2, b_rd g6, nI_1, b_lf (rm_nn (by omega) (by omega) (by omega)), nI_1]
        exact h2
theorem l410 {w : Wd} {a SL : Nat} {L : Lay} {W : Wt} (xs : Nat → Int32) (K : Nat → Nat → Int32 → Int32 → Dm Int32) (hv : Wv w a L W) (l3 l10 : Nat) (l4 l5 l6 l8 : Int32) : ∀ (d j F i : Nat), j + d = nmen W → d < F → i ≤ nmen W → ∃ i', i' ≤ nmen W ∧ (DL_law_L410 SL xs K F a l3 l4 l5 l6 l8 (nI i) l10 (nI j)).1 w = (DL_law_b459 SL xs K a l3 l4 l5 l6 l8 (nI i') l10).1 w := by
  have hT := hv.2.2.1.1
  obtain ⟨hn, h12⟩ := OkT_n hT
  have g6 : gfI a 12 6 w = some (nI (nmen W)) := by rw [g_6 hv.1, hn]
  intro d
  induction d with
  | zero =>
    intro j F i hj hF hi
    obtain ⟨F, rfl⟩ : ∃ F', F = F' + 1 := ⟨F - 1, by omega⟩
    refine ⟨i, hi, ?_⟩
    show (DL_law_b410 SL xs K (DL_law_L410 SL xs K F) a l3 l4 l5 l6 l8 (nI i) l10 (nI j)).1 w = _
    unfold DL_law_b410
    rw [b_rd g6, i_t (by rw [nn_le (by omega) (by omega)]; omega)]
  | succ d ih =>
    intro j F i hj hF hi
    obtain ⟨F, rfl⟩ : ∃ F', F = F' + 1 := ⟨F - 1, by omega⟩
    show ∃ i', i' ≤ nmen W ∧ (DL_law_b410 SL xs K (DL_law_L410 SL xs K F) a l3 l4 l5 l6 l8 (nI i) l10 (nI j)).1 w = _
    unfold DL_law_b410
    rw [b_rd g6, i_f (by rw [nn_le (by omega) (by omega)]; omega), b_rd g6]
    by_cases c : nmen W ≤ i
    · exact ⟨i, hi, by rw [i_t (by rw [nn_le (by omega) (by omega)]; exact c)]⟩
    · rw [i_f (by rw [nn_le (by omega) (by omega)]; exact c), b_rd (g_R hv.1 16 (by decide) (by decide)), b_rd (g_man hv.1 hT (by omega)), b_rd (g_m6 hv.1 (by omega))]
      by_cases c2 : W (40 + i) = 1
      · exact ⟨i, hi, by rw [i_t c2]⟩
      · obtain ⟨i', h1, h2⟩ := ih (j + 1) F ((i + 1) % nmen W) (by omega) (by omega) (by have := Nat.mod_lt (i + 1) (show 0 < nmen W by omega); omega)
        refine ⟨i', h1, ?_⟩
        rw [i_f c2, b_rd g6, nI_1, b_lf (rm_nn (by omega) (by omega) (by omega)), nI_1]
        exact h2
/-- the War sends as the row does -/
theorem Go_send {w : Wd} {a : Nat} {L : Lay} {W : Wt} (h : Wv w a L W) {i k c : Nat} (hi : i < nmen W) (hk : k < nmen W) (ok : sendOk W i k (nI c)) (hc : c ≤ 1000) (hW' : WO (sndW W i k (nI c))) : ∃ w', (∀ (K : Unit → Dm Int32), (dbind (dread (gfR a 12 16)) fun x4 => dbind (dread (aald x4 (nI i))) fun x5 => dbind (dput (iast x5 6 1)) fun _ => dbind (dread (gfR a 12 16)) fun x7 => dbind (dread (aald x7 (nI i))) fun x8 => dbind (dread (gfR a 12 16)) fun x9 => dbind (dread (aald x9 (nI k))) fun x10 => dbind (dread (iald x10 7)) fun x11 => dbind (dput (iast x8 7 x11)) fun _ => dbind (dread (gfR a 12 16)) fun x13 => dbind (dread (aald x13 (nI k))) fun x14 => dbind (dput (iast x14 6 0)) fun _ => dbind (dread (gfR a 12 16)) fun x16 => dbind (dread (aald x16 (nI k))) fun x17 => dbind (dread (iald x17 5)) fun x18 => dbind (dput (iast x17 5 (x18 - nI c))) fun _ => dbind (dread (gfR a 12 16)) fun x20 => dbind (dread (aald x20 (nI i))) fun x21 => dbind (dread (gfR a 12 16)) fun x22 => dbind (dread (aald x22 (nI i))) fun x23 => dbind (dread (iald x23 5)) fun x24 => dbind (dput (iast x21 5 (if (x24 + nI c) < 999 then (x24 + nI c) else 999))) fun _ => K ()).1 w = (K ()).1 w') ∧ Go w a L W w' L (sndW W i k (nI c)) ∧ w'.1 = w.1 := by
  obtain ⟨o1, o2, o3, o4, o5, o6⟩ := id ok
  have hT := h.2.2.1.1
  obtain ⟨hn, h12⟩ := OkT_n hT
  have hW := h.2.2.1
  have hi12 : i < 12 := by omega
  have hk12 : k < 12 := by omega
  have hik : i ≠ k := fun z => by subst z; rw [o2] at o3; exact absurd o3 (by decide)
  obtain ⟨jc, hjc, ec⟩ := OkD_ce hW.2.1 k hk12
  obtain ⟨jk, hjk, ek⟩ := OkD_cn hW.2.1 k hk12
  have hck : c ≤ jk := by
    rw [ek, nn_le (by omega) (by omega)] at o6
    exact o6
  have W1o : WO (upd (upd W (40 + i) 1) (52 + i) (W (52 + k))) := WO_u hW (s78_t (s78_u (by omega)) (s78_u (by omega))) (OkD_uce (OkD_uwh hW.2.1 hi12 ⟨1, by omega, rfl⟩ (Or.inl hi)) hi12 ⟨jc, hjc, ec⟩)
  have G1 := Go_take h hi W1o
  obtain ⟨w1, hw1⟩ : ∃ w1, w1 = wr w (L.2.1 i) (upd (upd (w.2.2 (L.2.1 i)) 6 1) 7 (W (52 + k))) := ⟨_, rfl⟩
  rw [← hw1] at G1
  have v1 := G1.1
  have n1 : nmen (upd (upd W (40 + i) 1) (52 + i) (W (52 + k))) = nmen W := G1.2.2.2.2.1
  have W2o := WO_home W1o hk12
  have G2 := Go_home v1 (m := k) (by rw [n1]; exact hk) W2o
  obtain ⟨w2, hw2⟩ : ∃ w2, w2 = wr w1 (L.2.1 k) (upd (w1.2.2 (L.2.1 k)) 6 0) := ⟨_, rfl⟩
  rw [← hw2] at G2
  have v2 := G2.1
  have n2 := G2.2.2.2.2.1.trans n1
  have e28k : upd (upd (upd W (40 + i) 1) (52 + i) (W (52 + k))) (40 + k) 0 (28 + k) = W (28 + k) := by rw [up_ne (by omega), up_ne (by omega), up_ne (by omega)]
  have W3o : WO (upd (upd (upd (upd W (40 + i) 1) (52 + i) (W (52 + k))) (40 + k) 0) (28 + k) (W (28 + k) - nI c)) := WO_u W2o (s78_u (by omega)) (OkD_ucn W2o.2.1 hk12 ⟨jk - c, by omega, by rw [ek, nI_sub hck]⟩)
  have G3 := Go_cn v2 (m := k) (by rw [n2]; exact hk) W3o
  obtain ⟨w3, hw3⟩ : ∃ w3, w3 = wr w2 (L.2.1 k) (upd (w2.2.2 (L.2.1 k)) 5 (W (28 + k) - nI c)) := ⟨_, rfl⟩
  rw [← hw3] at G3
  have v3 := G3.1
  have n3 := G3.2.2.2.2.1.trans n2
  have e28i : upd (upd (upd (upd W (40 + i) 1) (52 + i) (W (52 + k))) (40 + k) 0) (28 + k) (W (28 + k) - nI c) (28 + i) = W (28 + i) := by rw [up_ne (by omega), up_ne (by omega), up_ne (by omega), up_ne (by omega)]
  have G4 := Go_cn v3 (m := i) (x := mn999 (W (28 + i) + nI c)) (by rw [n3]; exact hi) hW'
  refine ⟨wr w3 (L.2.1 i) (upd (w3.2.2 (L.2.1 i)) 5 (mn999 (W (28 + i) + nI c))), fun K => ?_, Go_tr G1 (Go_tr G2 (Go_tr G3 G4)), by rw [hw3, hw2, hw1]; rfl⟩
  have T1 := v1.2.2.1.1
  have T2 := v2.2.2.1.1
  have T3 := v3.2.2.1.1
  have hr : L.2.1 k ≠ L.2.1 i := fun z => hik ((WA_m h.1).2 k i hk hi z).symm
  obtain ⟨P, hP⟩ : ∃ P, P = upd (w.2.2 (L.2.1 i)) 6 1 := ⟨_, rfl⟩
  -- the first row's two writes
  have s1 : ∀ K : Unit → Dm Int32, (dbind (dread (gfR a 12 16)) fun x4 => dbind (dread (aald x4 (nI i))) fun x5 => dbind (dput (iast x5 6 1)) fun _ => dbind (dread (gfR a 12 16)) fun x7 => dbind (dread (aald x7 (nI i))) fun x8 => dbind (dread (gfR a 12 16)) fun x9 => dbind (dread (aald x9 (nI k))) fun x10 => dbind (dread (iald x10 7)) fun x11 => dbind (dput (iast x8 7 x11)) fun _ => K ()).1 w = (K ()).1 w1 := fun K => by
    have r0 := row_of h.1 hi
    have q1 : gfR a 12 16 (wr w (L.2.1 i) P) = some (L.1 16) := g_R h.1 16 (by decide) (by decide)
    have q2 : aald (L.1 16) (nI i) (wr w (L.2.1 i) P) = some (L.2.1 i) := g_man h.1 hT hi
    have q3 : aald (L.1 16) (nI k) (wr w (L.2.1 i) P) = some (L.2.1 k) := g_man h.1 hT hk
    have q4 : iald (L.2.1 k) 7 (wr w (L.2.1 i) P) = some (W (52 + k)) := by
      have z := g_m7 h.1 hk o3
      have rk : (wr w (L.2.1 i) P).1[L.2.1 k]? = some (.inl 9) := row_of h.1 hk
      rw [ia_k rk 7 7 (by decide) (by decide) (by decide)]
      rw [ia_k (row_of h.1 hk) 7 7 (by decide) (by decide) (by decide)] at z
      have e : (wr w (L.2.1 i) P).2.2 (L.2.1 k) = w.2.2 (L.2.1 k) := ms_ne hr
      rw [e]
      exact z
    rw [b_rd (g_R h.1 16 (by decide) (by decide)), b_rd (g_man h.1 hT hi), b_row0 r0 6 6 _ (by decide) (by decide) (by decide), ← hP, b_rd q1, b_rd q2, b_rd q1, b_rd q3, b_rd q4, b_row r0 7 7 _ (by decide) (by decide) (by decide), hP, ← hw1]
  refine (s1 (fun _ => dbind (dread (gfR a 12 16)) fun x13 => dbind (dread (aald x13 (nI k))) fun x14 => dbind (dput (iast x14 6 0)) fun _ => dbind (dread (gfR a 12 16)) fun x16 => dbind (dread (aald x16 (nI k))) fun x17 => dbind (dread (iald x17 5)) fun x18 => dbind (dput (iast x17 5 (x18 - nI c))) fun _ => dbind (dread (gfR a 12 16)) fun x20 => dbind (dread (aald x20 (nI i))) fun x21 => dbind (dread (gfR a 12 16)) fun x22 => dbind (dread (aald x22 (nI i))) fun x23 => dbind (dread (iald x23 5)) fun x24 => dbind (dput (iast x21 5 (if (x24 + nI c) < 999 then (x24 + nI c) else 999))) fun _ => K ())).trans ?_
  rw [b_rd (g_R v1.1 16 (by decide) (by decide)), b_rd (g_man v1.1 T1 (by rw [n1]; exact hk)), b_row0 (row_of v1.1 (by rw [n1]; exact hk)) 6 6 _ (by decide) (by decide) (by decide), ← hw2]
  rw [b_rd (g_R v2.1 16 (by decide) (by decide)), b_rd (g_man v2.1 T2 (by rw [n2]; exact hk)), b_rd (g_m5 v2.1 (by rw [n2]; exact hk)), e28k, b_row0 (row_of v2.1 (by rw [n2]; exact hk)) 5 5 _ (by decide) (by decide) (by decide), ← hw3]
  rw [b_rd (g_R v3.1 16 (by decide) (by decide)), b_rd (g_man v3.1 T3 (by rw [n3]; exact hi)), b_rd (g_R v3.1 16 (by decide) (by decide)), b_rd (g_man v3.1 T3 (by rw [n3]; exact hi)), b_rd (g_m5 v3.1 (by rw [n3]; exact hi)), e28i, b_row0 (row_of v3.1 (by rw [n3]; exact hi)) 5 5 _ (by decide) (by decide) (by decide)]
  rfl
theorem snd_r (W : Wt) {i k : Nat} (hi : i < 12) (hk : k < 12) (c : Int32) : same78 W (sndW W i k c) ∧ bp W (sndW W i k c) ∧ sndW W i k c 0 = W 0 := by
  unfold sndW
  refine ⟨s78_t (s78_t (s78_t (s78_t (s78_u (by omega)) (s78_u (by omega))) (s78_u (by omega))) (s78_u (by omega))) (s78_u (by omega)), bp_t (bp_t (bp_t (bp_t (bp_u (by omega) (by omega)) (bp_u (by omega) (by omega))) (bp_u (by omega) (by omega))) (bp_u (by omega) (by omega))) (bp_u (by omega) (by omega)), ?_⟩
  rw [up_ne (by omega), up_ne (by omega), up_ne (by omega), up_ne (by omega), up_ne (by omega)]
theorem r_send {w : Wd} {g : Mem} {a l3 D n SL r : Nat} {L : Lay} {W : Wt} {B : List WrT} {x : WrT} (xs : Nat → Int32) (K : Nat → Nat → Int32 → Int32 → Dm Int32) (h : LwX w g a L W l3 B D x) (l6 : Int32) (i0 k0 : Nat) (hi0 : i0 ≤ nmen W) (hk0 : k0 ≤ nmen W) (hR : Rm w (n + 1)) : ∃ w' g' W' B', (DL_law_L359 SL xs K FU a l3 (nI B.length) (nI r) l6 (nI i0) (nI k0) x.1 0).1 w = (K a l3 (nI B'.length) (nI (r + 1))).1 w' ∧ LwI w' g' a L W' l3 B' D ∧ Rm w' n := by
  obtain ⟨hv, d, hd, hd'⟩ := X_last h
  obtain ⟨hJ, hx, hA, hl, hG⟩ := id h
  have hT := hv.2.2.1.1
  obtain ⟨hn, h12⟩ := OkT_n hT
  obtain ⟨i, hi, e1⟩ := l359 (SL := SL) xs K hv l3 x.1 (nI B.length) (nI r) l6 (nI k0) (nmen W) 0 FU i0 (by omega) (by show _ < 10000; omega) hi0
  obtain ⟨k, hk, e2⟩ := l410 (SL := SL) xs K hv l3 x.1 (nI B.length) (nI r) l6 (nI i) (nmen W) 0 FU k0 (by omega) (by show _ < 10000; omega) hk0
  obtain ⟨c, hc⟩ : ∃ c, c = btN (l6 >>> ((6 : Int32) &&& 31)) 0 40 := ⟨_, rfl⟩
  have bc := (btN_r (l6 >>> ((6 : Int32) &&& 31)) (show 0 ≤ 40 by omega)).2
  rw [← hc] at bc
  have no : ¬ (∃ i' k', i' < nmen W ∧ k' < nmen W ∧ nI i = nI i' ∧ nI k = nI k' ∧ sendOk W i' k' (nI c)) → ∃ w' g' W' B', (DL_law_b578 SL xs K a l3 (nI B.length) (nI r) (nI i) (nI k) x.1 (nI c) 0).1 w = (K a l3 (nI B'.length) (nI (r + 1))).1 w' ∧ LwI w' g' a L W' l3 B' D ∧ Rm w' n := fun hno => by
    obtain ⟨w1, w', f1, f2, I, rr⟩ := r_none (SL := SL) (r := r) xs K h (A_send (nI i) (nI k) (nI c)) (fun {u v u'} h => frX11_send_0 _ _ _ u h) (fun c hc => by simp; omega) (ge_sendN hG hT hno) hR
    refine ⟨w', g, W, B, ?_, I, rr⟩
    unfold DL_law_b578
    refine (f1 _).trans ?_
    rw [i_t rfl, i_t rfl]
    exact f2
  have no2 : ¬ (i < nmen W ∧ k < nmen W ∧ sendOk W i k (nI c)) → ¬ (∃ i' k', i' < nmen W ∧ k' < nmen W ∧ nI i = nI i' ∧ nI k = nI k' ∧ sendOk W i' k' (nI c)) := fun hno => by
    rintro ⟨i', k', h1, h2, h3, h4, h5⟩
    rw [nn_eq (by omega) (by omega)] at h3 h4
    subst h3
    subst h4
    exact hno ⟨h1, h2, h5⟩
  have g6 : gfI a 12 6 w = some (nI (nmen W)) := by rw [g_6 hv.1, hn]
  have pre : (DL_law_L359 SL xs K FU a l3 (nI B.length) (nI r) l6 (nI i0) (nI k0) x.1 0).1 w = (DL_law_b459 SL xs K a l3 (nI B.length) (nI r) l6 (nI i) (nI k) x.1).1 w := by
    refine e1.trans ?_
    unfold DL_law_b407
    exact e2
  rw [pre]
  unfold DL_law_b459
  rw [b_bt _ 0 40 (by omega) (by omega) _ _ (by decide) (by decide), ← hc, b_rd g6]
  by_cases c1 : nmen W ≤ i
  · rw [i_t (by rw [nn_le (by omega) (by omega)]; exact c1)]
    exact no (no2 (fun z => by omega))
  rw [i_f (by rw [nn_le (by omega) (by omega)]; exact c1), b_rd g6]
  by_cases c2 : nmen W ≤ k
  · rw [i_t (by rw [nn_le (by omega) (by omega)]; exact c2)]
    exact no (no2 (fun z => by omega))
  have hin : i < nmen W := by omega
  have hkn : k < nmen W := by omega
  have gR := g_R hv.1 16 (by decide) (by decide)
  have gi := g_man hv.1 hT hin
  have gk := g_man hv.1 hT hkn
  rw [i_f (by rw [nn_le (by omega) (by omega)]; exact c2), b_rd gR, b_rd gi, b_rd (g_m0 hv.1 hin), b_rd gR, b_rd gk, b_rd (g_m0 hv.1 hkn)]
  by_cases c3n : ¬ (W (90 + i) = W (90 + k))
  · rw [i_f c3n]
    exact no (no2 (fun z => c3n z.2.2.1))
  have c3 := Decidable.not_not.mp c3n
  rw [i_t c3, b_rd gR, b_rd gi, b_rd (g_m6 hv.1 hin)]
  by_cases c4n : ¬ (W (40 + i) = 0)
  · rw [i_f c4n]
    exact no (no2 (fun z => c4n z.2.2.2.1))
  have c4 := Decidable.not_not.mp c4n
  rw [i_t c4, b_rd gR, b_rd gk, b_rd (g_m6 hv.1 hkn)]
  by_cases c5n : ¬ (W (40 + k) = 1)
  · rw [i_f c5n]
    exact no (no2 (fun z => c5n z.2.2.2.2.1))
  have c5 := Decidable.not_not.mp c5n
  rw [i_t c5, b_rd gR, b_rd gi, b_rd (g_m1 hv.1 hin), b_rd gR, b_rd gk, b_rd (g_m1 hv.1 hkn)]
  by_cases c6 : W (102 + i) ≤ W (102 + k)
  · rw [i_t c6]
    exact no (no2 (fun z => absurd z.2.2.2.2.2.1 (Int32.not_lt.mpr c6)))
  rw [i_f c6, b_rd gR, b_rd gk, b_rd (g_m5 hv.1 hkn)]
  by_cases c7 : W (28 + k) < nI c
  · rw [i_t c7]
    exact no (no2 (fun z => absurd c7 (Int32.not_lt.mpr z.2.2.2.2.2.2.2)))
  rw [i_f c7]
  have ok : sendOk W i k (nI c) := ⟨c3, c4, c5, Int32.not_le.mp c6, by rw [i_le]; exact nI_pos (by omega), Int32.not_lt.mp c7⟩
  obtain ⟨g1, m1, G1⟩ := ge_send hG hT hin hkn ok
  obtain ⟨w1, a1, a2, a3, a4, a5⟩ := b_cl (A_send _ _ _) (fun {u v u'} h => frX11_send_0 _ _ _ u h) (fun c hc => by simp; omega) hl m1
  have hv1 := Wv_cl hv a4 a1.1
  obtain ⟨w2, s1, s2, s3⟩ := Go_send hv1 hin hkn ok (by omega) (GS_ok a1 G1)
  have j1 := WJ_cl hJ a4 a1.1
  have ar1 := AR_kp hA a4 (by have := hA.2.1; show ¬ l3 < 146; omega)
  have sr := snd_r W (i := i) (k := k) (by omega) (by omega) (nI c)
  obtain ⟨w3, B', e3, I3, r3⟩ := r_acts (SL := SL) (r := r) (n := n) xs K j1 hx ar1 a1 G1 s2 sr.1 sr.2.1 sr.2.2 (Rm_e (Rm_e hR a2) s3)
  refine ⟨w3, g1, _, B', ?_, I3, r3⟩
  unfold DL_law_b578
  refine (a5 _ _).trans ?_
  rw [i_t rfl, i_f (by decide)]
  refine (s1 (fun _ => DL_law_b1082 SL xs K a l3 (nI B.length) (nI r) x.1 1)).trans ?_
  exact e3
