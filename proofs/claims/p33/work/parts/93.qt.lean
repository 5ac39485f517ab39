/-! war(), whole -/
theorem tb_16 : ∀ k, k < 32 → 16 ≤ k → tb (65535 : Int32) k = false := by decide
theorem r_war {w : Wd} {g : Mem} {n SL : Nat} (xs : Nat → Int32) (hSL : SL ≤ 260) (hl : Lw w g) (hG : GS g rW0 []) (hR : Rm w (n + 22000)) : ∃ w' g' a L' W', (DL_war SL xs 0).1 w = some (some a, w') ∧ Wv w' a L' W' ∧ Lw w' g' ∧ GS g' W' [] ∧ W' 0 = 0 ∧ Rm w' n := by
  obtain ⟨w1, g1, W1, a, o, y0, e1, v1, l1, G1, r1, s1, -⟩ := r_war1 (n := n + 19800) xs hSL hl hG (Rm_le hR (by omega))
  have z1' : ∀ k, k < 900 → k ≠ 84 → W1 k = rW0 k := fun k a b => s1 k a b
  have n1 : nmen W1 = 0 := by
    unfold nmen
    rw [z1' 78 (by omega) (by omega)]
    rfl
  have M1 : lM W1 := fun z h1 h2 => z1' z (by omega) h2
  -- the men
  obtain ⟨nm, hnm⟩ : ∃ nm, nm = btN (y0 >>> ((5 : Int32) &&& 31)) 0 12 := ⟨_, rfl⟩
  have bn := (btN_r (y0 >>> ((5 : Int32) &&& 31)) (show 0 ≤ 12 by omega)).2
  rw [← hnm] at bn
  have e2 : (DL_war_b266 SL xs 0 a y0).1 w1 = (DL_war_L281 SL xs FU 0 a y0 (nI nm) (nI 0)).1 w1 := by
    unfold DL_war_b266
    rw [b_bt _ 0 12 (by omega) (by omega) _ _ (by decide) (by decide), ← hnm]
    rfl
  obtain ⟨w3, g3, L3, W3, F3, e3, v3, l3, G3, n3, M3, r3⟩ := men_loop (m := n + 19700) xs hSL y0 bn nm 0 FU w1 g1 _ W1 (by omega) (by show _ < 10000; omega) v1 l1 G1 n1 M1 (Rm_le r1 (by omega))
  -- what is set
  obtain ⟨hA, ho, hW, hb⟩ := id v3
  have ha : 146 ≤ a := hb a RS_a
  have al : a < w3.1.length := WA_len hA
  have b13 : 146 ≤ L3.1 13 := hb _ (RS_j (by omega) (by omega))
  have s13 := (WA_s hA).1
  have na13 : a ≠ L3.1 13 := ne_sh (WA_r hA).1 s13 (by simp)
  have Ka : Kn w3 a (.inr (.inl 12)) (w3.2.1 a) (w3.2.2 a) := ⟨(WA_r hA).1, rfl, rfl⟩
  have K13 : Kn w3 (L3.1 13) (.inl 2) (w3.2.1 (L3.1 13)) (w3.2.2 (L3.1 13)) := ⟨s13, rfl, rfl⟩
  obtain ⟨y5, hy5⟩ := r_cell SL xs hSL (k := 5) (by omega) (0 + 5) (by decide)
  obtain ⟨y6, hy6⟩ := r_cell SL xs hSL (k := 6) (by omega) (0 + 6) (by decide)
  obtain ⟨y7, hy7⟩ := r_cell SL xs hSL (k := 7) (by omega) (0 + 7) (by decide)
  obtain ⟨kp, hkp⟩ : ∃ k, k = btN (y0 >>> ((6 : Int32) &&& 31)) 0 9 := ⟨_, rfl⟩
  obtain ⟨ra, hra⟩ : ∃ k, k = btN (y0 >>> ((4 : Int32) &&& 31)) 0 9 := ⟨_, rfl⟩
  obtain ⟨te, hte⟩ : ∃ k, k = btN (y0 >>> ((7 : Int32) &&& 31)) 0 6 := ⟨_, rfl⟩
  obtain ⟨u0, hu0⟩ : ∃ k, k = btN (y0 >>> ((8 + nI 0) &&& 31)) 0 4 := ⟨_, rfl⟩
  obtain ⟨u1, hu1⟩ : ∃ k, k = btN (y0 >>> ((8 + nI 1) &&& 31)) 0 4 := ⟨_, rfl⟩
  obtain ⟨h, hh⟩ : ∃ h, h = ((y5 &&& 65535) &&& (y5 >>> ((7 : Int32) &&& 31))) := ⟨_, rfl⟩
  have bk := (btN_r (y0 >>> ((6 : Int32) &&& 31)) (show 0 ≤ 9 by omega)).2
  have br := (btN_r (y0 >>> ((4 : Int32) &&& 31)) (show 0 ≤ 9 by omega)).2
  have bt' := (btN_r (y0 >>> ((7 : Int32) &&& 31)) (show 0 ≤ 6 by omega)).2
  have b0 := (btN_r (y0 >>> ((8 + nI 0) &&& 31)) (show 0 ≤ 4 by omega)).2
  have b1 := (btN_r (y0 >>> ((8 + nI 1) &&& 31)) (show 0 ≤ 4 by omega)).2
  rw [← hkp] at bk
  rw [← hra] at br
  rw [← hte] at bt'
  rw [← hu0] at b0
  rw [← hu1] at b1
  obtain ⟨P, hP⟩ : ∃ P, P = upd (upd (upd (upd (w3.2.2 a) 3 (nI kp)) 4 (nI ra)) 5 (nI te)) 8 h := ⟨_, rfl⟩
  obtain ⟨Q, hQ⟩ : ∃ Q, Q = upd (upd (w3.2.2 (L3.1 13)) 0 (nI u0)) 1 (nI u1) := ⟨_, rfl⟩
  have I0 := TI_0 Ka l3 ha
  have kA := Kp_wr w3 a P
  have I4 := TI_wr I0 P
  have K13a := Kn_kp K13 kA (fun z => na13 z.symm)
  obtain ⟨w4, hw4⟩ : ∃ w4, w4 = wr w3 a P := ⟨_, rfl⟩
  rw [← hw4] at kA I4 K13a
  have kB := Kp_wr w4 (L3.1 13) Q
  have K13b := Kn_wr K13a Q
  have Ka5 := Kn_kp I4.2.1 kB na13
  have l5 : Lw (wr w4 (L3.1 13) Q) g3 := Lw_kp I4.2.2.1 kB (by omega)
  obtain ⟨w5, hw5⟩ : ∃ w5, w5 = wr w4 (L3.1 13) Q := ⟨_, rfl⟩
  rw [← hw5] at kB K13b Ka5 l5
  have I5 := TI_0 Ka5 l5 ha
  -- the writes
  have e4 : (DL_war_b281 SL xs (DL_war_L281 SL xs F3) 0 a y0 (nI nm) (nI nm)).1 w3 = (DL_war_L615 SL xs FU 0 a y0 (nI 0)).1 w4 := by
    unfold DL_war_b281
    rw [i_t (Int32.le_refl _), b_bt _ 0 9 (by omega) (by omega) _ _ (by decide) (by decide), ← hkp, b_fld0 Ka.1, b_bt _ 0 9 (by omega) (by omega) _ _ (by decide) (by decide), ← hra, b_fld Ka.1, b_bt _ 0 6 (by omega) (by omega) _ _ (by decide) (by decide), ← hte, b_fld Ka.1, hy5, hy5, ← hh, b_fld Ka.1, ← hP, ← hw4]
    rfl
  have e5 : (DL_war_L615 SL xs FU 0 a y0 (nI 0)).1 w4 = (DL_war_L615 SL xs 9998 0 a y0 (nI 2)).1 w5 := by
    have g13 : ∀ {z : Wd}, z.2.1 a = w3.2.1 a → z.1[a]? = some (.inr (.inl 12)) → gfR a 12 13 z = some (L3.1 13) := fun {z} h1 h2 => by
      rw [gfR_s h2, h1]
      exact (WA_r hA).2.1 13 (by omega) (by omega)
    show (DL_war_b615 SL xs (DL_war_L615 SL xs 9999) 0 a y0 (nI 0)).1 w4 = _
    unfold DL_war_b615
    rw [i_f (by decide), b_rd (g13 I4.2.1.2.1 I4.2.1.1), b_bt _ 0 4 (by omega) (by omega) _ _ (by decide) (by decide), ← hu0, b_row0 K13a.1 0 (nI 0) _ rfl (by omega) (by decide)]
    show (DL_war_b615 SL xs (DL_war_L615 SL xs 9998) 0 a y0 (nI 1)).1 _ = _
    have f4 : (wr w4 (L3.1 13) (upd (w4.2.2 (L3.1 13)) 0 (nI u0))).1[a]? = some (.inr (.inl 12)) := I4.2.1.1
    unfold DL_war_b615
    rw [i_f (by decide), b_rd (g13 (z := wr w4 (L3.1 13) (upd (w4.2.2 (L3.1 13)) 0 (nI u0))) I4.2.1.2.1 f4), b_bt _ 0 4 (by omega) (by omega) _ _ (by decide) (by decide), ← hu1, b_row K13a.1 1 (nI 1) _ rfl (by omega) (by decide), K13a.2.2, ← hQ, ← hw5]
    rfl
  -- the calls
  have hT3 := hW.1
  obtain ⟨g6, m6, G6⟩ := ge_set G3 hT3 (what := 0) (who := 0) (v := kp) (by omega) (by omega) (by omega) (Or.inl ⟨rfl, by omega⟩)
  have m6 : FX12_set_146 0 0 (nI kp) g3 = some (1, g6) := m6
  have G6 : GS g6 (upd W3 79 (nI kp)) [] := G6
  obtain ⟨w6, a1, a2, a3, a4, a5⟩ := b_cl (A_set _ _ _) (fun {u v u'} h => frX11_set_0 _ _ _ u h) (fun c hc => by simp; omega) l5 m6
  have I6 := TI_cl I5 a1 a4
  have K13c := Kn_kp K13b a4 (by show ¬ L3.1 13 < 146; omega)
  obtain ⟨g7, m7, G7⟩ := ge_set G6 (GS_ok a1 G6).1 (what := 1) (who := 0) (v := ra) (by omega) (by omega) (by omega) (Or.inr (Or.inl ⟨rfl, by omega⟩))
  have m7 : FX12_set_146 1 0 (nI ra) g6 = some (1, g7) := m7
  have G7 : GS g7 (upd (upd W3 79 (nI kp)) 80 (nI ra)) [] := G7
  obtain ⟨w7, c1, c2, c3, c4, c5⟩ := b_cl (A_set _ _ _) (fun {u v u'} h => frX11_set_0 _ _ _ u h) (fun c hc => by simp; omega) a1 m7
  have I7 := TI_cl I6 c1 c4
  have K13d := Kn_kp K13c c4 (by show ¬ L3.1 13 < 146; omega)
  obtain ⟨g8, m8, G8⟩ := ge_set G7 (GS_ok c1 G7).1 (what := 2) (who := 0) (v := te) (by omega) (by omega) (by omega) (Or.inr (Or.inr (Or.inl ⟨rfl, by omega⟩)))
  have m8 : FX12_set_146 2 0 (nI te) g7 = some (1, g8) := m8
  have G8 : GS g8 (upd (upd (upd W3 79 (nI kp)) 80 (nI ra)) 81 (nI te)) [] := G8
  obtain ⟨w8, d1, d2, d3, d4, d5⟩ := b_cl (A_set _ _ _) (fun {u v u'} h => frX11_set_0 _ _ _ u h) (fun c hc => by simp; omega) c1 m8
  have I8 := TI_cl I7 d1 d4
  have K13e := Kn_kp K13d d4 (by show ¬ L3.1 13 < 146; omega)
  obtain ⟨g9, m9, G9⟩ := ge_set G8 (GS_ok d1 G8).1 (what := 3) (who := 0) (v := u0) (by omega) (by omega) (by omega) (Or.inr (Or.inr (Or.inr (Or.inl ⟨rfl, by omega, by omega⟩))))
  have m9 : FX12_set_146 3 0 (nI u0) g8 = some (1, g9) := m9
  have G9 : GS g9 (upd (upd (upd (upd W3 79 (nI kp)) 80 (nI ra)) 81 (nI te)) 82 (nI u0)) [] := G9
  obtain ⟨w9, f1, f2, f3, f4, f5⟩ := b_cl (A_set _ _ _) (fun {u v u'} h => frX11_set_0 _ _ _ u h) (fun c hc => by simp; omega) d1 m9
  have I9 := TI_cl I8 f1 f4
  have K13f := Kn_kp K13e f4 (by show ¬ L3.1 13 < 146; omega)
  obtain ⟨g10, m10, G10⟩ := ge_set G9 (GS_ok f1 G9).1 (what := 3) (who := 1) (v := u1) (by omega) (by omega) (by omega) (Or.inr (Or.inr (Or.inr (Or.inl ⟨rfl, by omega, by omega⟩))))
  have m10 : FX12_set_146 3 1 (nI u1) g9 = some (1, g10) := m10
  have G10 : GS g10 (upd (upd (upd (upd (upd W3 79 (nI kp)) 80 (nI ra)) 81 (nI te)) 82 (nI u0)) 83 (nI u1)) [] := G10
  obtain ⟨w10, j1, j2, j3, j4, j5⟩ := b_cl (A_set _ _ _) (fun {u v u'} h => frX11_set_0 _ _ _ u h) (fun c hc => by simp; omega) f1 m10
  have I10 := TI_cl I9 j1 j4
  have K13g := Kn_kp K13f j4 (by show ¬ L3.1 13 < 146; omega)
  obtain ⟨R5, hR5⟩ : ∃ R5, R5 = upd (upd (upd (upd (upd W3 79 (nI kp)) 80 (nI ra)) 81 (nI te)) 82 (nI u0)) 83 (nI u1) := ⟨_, rfl⟩
  rw [← hR5] at G10
  have h26 : ∀ i, i < 16 → R5 (126 + i) = 0 := fun i hi => by
    rw [hR5, up_ne (by omega), up_ne (by omega), up_ne (by omega), up_ne (by omega), up_ne (by omega), M3 (126 + i) (by omega) (by omega)]
    exact w0_0 (by omega) (by omega) (by omega) (by omega) (by omega)
  obtain ⟨w11, g11, R, F11, e11, I11, G11, lo11, hi11, k11, l11⟩ := hl_loop (SL := SL) (P := P) (h := h) xs (by rw [hP, up_eq]) 16 0 FU w10 g10 R5 (by omega) (by show _ < 10000; omega) I10 G10 (fun z _ => rfl) (fun i hi => by rw [if_neg (by omega)]; exact h26 i hi)
  have K13h := Kn_kp K13g k11 (by show ¬ L3.1 13 < 146; omega)
  have hWR := GS_ok I11.2.2.1 G11
  have K511 : Kp (fun c => c < 146) w5 w11 := Kp_tr a4 (Kp_tr c4 (Kp_tr d4 (Kp_tr f4 (Kp_tr j4 k11 (fun _ _ z => z)) (fun _ _ z => z)) (fun _ _ z => z)) (fun _ _ z => z)) (fun _ _ z => z)
  have K311 : Kp (fun c => c < 146 ∨ c = a ∨ c = L3.1 13) w3 w11 := Kp_tr (Kp_mono kA (fun c _ z => Or.inr (Or.inl z))) (Kp_tr (Kp_mono kB (S' := fun c => c < 146 ∨ c = a ∨ c = L3.1 13) (fun c _ z => Or.inr (Or.inr z))) K511 (fun _ _ z => Or.inl z)) (fun _ _ z => z)
  have loR : ∀ z, ¬ (79 ≤ z ∧ z ≤ 83) → ¬ (126 ≤ z ∧ z < 142) → R z = W3 z := fun z h1 h2 => by
    rw [lo11 z h2, hR5, up_ne (by omega), up_ne (by omega), up_ne (by omega), up_ne (by omega), up_ne (by omega)]
  have eh : sHills R = h := sHills_b hi11 (fun k h1 h2 => by rw [hh, tb_and, tb_and, tb_16 k h2 h1, Bool.and_false, Bool.false_and])
  have v11 : Wv w11 a L3 R := WA_set v3 I11.2.2.1.1 hWR K311 I11.2.1 ⟨K13h.1, K13h.2.2⟩ loR ⟨by rw [hP, up_ne (by decide), up_ne (by decide), up_ne (by decide), up_eq, lo11 79 (by omega), hR5, up_ne (by decide), up_ne (by decide), up_ne (by decide), up_ne (by decide), up_eq], by rw [hP, up_ne (by decide), up_ne (by decide), up_eq, lo11 80 (by omega), hR5, up_ne (by decide), up_ne (by decide), up_ne (by decide), up_eq], by rw [hP, up_ne (by decide), up_eq, lo11 81 (by omega), hR5, up_ne (by decide), up_ne (by decide), up_eq], by rw [hP, up_eq, eh], fun j j1 j2 j3 j4 => by rw [hP, up_ne j4, up_ne j3, up_ne j2, up_ne j1]⟩ (fun c hc => by
    rcases (by omega : c = 0 ∨ c = 1) with rfl | rfl
    · rw [hQ, up_ne (by decide), up_eq, lo11 82 (by omega), hR5, up_ne (by decide), up_eq]
    · rw [hQ, up_eq, lo11 83 (by omega), hR5, up_eq])
  have d0 : R 0 = nI 0 := by
    rw [loR 0 (by omega) (by omega), M3 0 (by omega) (by omega)]
    rfl
  have len11 : w11.1 = w3.1 := by rw [l11, j2, f2, d2, c2, a2, hw5]; show w4.1 = _; rw [hw4]; rfl
  have r11 : Rm w11 (n + 19500) := Rm_e (Rm_le r3 (by omega)) len11
  -- the texts
  obtain ⟨w12, g12, L12, W12, e12, l12, G12, v12, r12, s12, k12⟩ := r_texts (n := n) (day := 0) y6 v11 I11.2.2.1 G11 d0 (by omega) r11
  -- the state
  obtain ⟨g13, m13, G13⟩ := ge_state G12 y7
  have Ka12 : Kn w12 a (.inr (.inl 12)) (w12.2.1 a) (w12.2.2 a) := ⟨(WA_r v12.1).1, rfl, rfl⟩
  have kC := Kp_wr w12 a (upd (w12.2.2 a) 0 y7)
  have lC : Lw (wr w12 a (upd (w12.2.2 a) 0 y7)) g12 := Lw_kp l12 kC (by omega)
  obtain ⟨w13, q1, q2, q3, q4, q5⟩ := b_cl (A_state _) (fun {u v u'} h => frX11_state_0 _ u h) (fun c hc => by simp; omega) lC m13
  have vC := (Go_state v12 (GS_ok q1 G13)).1
  have v13 := Wv_cl vC q4 q1.1
  refine ⟨w13, g13, a, L12, _, ?_, v13, q1, G13, ?_, Rm_e r12 (by rw [q2]; rfl)⟩
  · rw [e1, e2, e3, e4, e5]
    show (DL_war_b615 SL xs (DL_war_L615 SL xs 9997) 0 a y0 (nI 2)).1 w5 = _
    unfold DL_war_b615
    rw [i_t (by decide)]
    have f3' : ∀ {z : Wd}, Kn z a (.inr (.inl 12)) (w3.2.1 a) P → gfI a 12 3 z = some (nI kp) ∧ gfI a 12 4 z = some (nI ra) ∧ gfI a 12 5 z = some (nI te) ∧ gfR a 12 13 z = some (L3.1 13) := fun {z} h => ⟨by rw [g_fi h, hP, up_ne (by decide), up_ne (by decide), up_ne (by decide), up_eq], by rw [g_fi h, hP, up_ne (by decide), up_ne (by decide), up_eq], by rw [g_fi h, hP, up_ne (by decide), up_eq], by rw [gfR_k h]; exact (WA_r hA).2.1 13 (by omega) (by omega)⟩
    have Ka5' : Kn w5 a (.inr (.inl 12)) (w3.2.1 a) P := Ka5
    rw [b_rd (f3' Ka5').1]
    refine (a5 _ _).trans ?_
    rw [i_f (by decide), b_rd (f3' I6.2.1).2.1]
    refine (c5 _ _).trans ?_
    rw [i_f (by decide), b_rd (f3' I7.2.1).2.2.1]
    refine (d5 _ _).trans ?_
    rw [i_f (by decide), b_rd (f3' I8.2.1).2.2.2, b_rd (g_ki K13e 0 0 (by decide) (by decide) (by decide)), show Q 0 = nI u0 by rw [hQ, up_ne (by decide), up_eq]]
    refine (f5 _ _).trans ?_
    rw [i_f (by decide), b_rd (f3' I9.2.1).2.2.2, b_rd (g_ki K13f 1 1 (by decide) (by decide) (by decide)), show Q 1 = nI u1 by rw [hQ, up_eq]]
    refine (j5 _ _).trans ?_
    rw [i_f (by decide)]
    refine e11.trans ?_
    unfold DL_war_b721
    rw [i_t (by decide), hy6, b_ok e12, i_f (by decide), hy7, b_fld0 Ka12.1, b_rd (g_fi (Kn_wr Ka12 (upd (w12.2.2 a) 0 y7)) 0), up_eq]
    refine (q5 _ _).trans ?_
    rw [u_rt]
  · rw [up_ne (by decide), s12 0 (by omega) (by omega) (by omega) (by omega), d0]
    rfl
