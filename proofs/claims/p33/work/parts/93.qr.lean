/-! men one after another -/
def lM (W : Wt) : Prop := ∀ z, (z < 4 ∨ (78 < z ∧ z < 90) ∨ (126 ≤ z ∧ z < 900)) → z ≠ 84 → W z = rW0 z
theorem WA_r16 {w : Wd} {a : Nat} {L : Lay} {W : Wt} (h : WA w a L W) : Kn w (L.1 16) (.inr (.inr (2, 12))) (w.2.1 (L.1 16)) (w.2.2 (L.1 16)) := ⟨(WA_s h).2.2.2.1, rfl, rfl⟩
theorem man_step {w : Wd} {a k n m SL : Nat} {g : Mem} {L : Lay} {W : Wt} (xs : Nat → Int32) (hSL : SL ≤ 260) (y0 : Int32) (F : Nat) (hv : Wv w a L W) (hl : Lw w g) (hG : GS g W []) (hk : nmen W = k) (hkn : k < n) (hn : n ≤ 12) (hM : lM W) (hR : Rm w (m + 1)) : ∃ w' g' L' W', (DL_war_b281 SL xs (DL_war_L281 SL xs F) 0 a y0 (nI n) (nI k)).1 w = (DL_war_L281 SL xs F 0 a y0 (nI n) (nI (k + 1))).1 w' ∧ Wv w' a L' W' ∧ Lw w' g' ∧ GS g' W' [] ∧ nmen W' = k + 1 ∧ lM W' ∧ Rm w' m := by
  obtain ⟨hA, ho, hW, hb⟩ := id hv
  have hT := hW.1
  have h87 : nt (W 87) = 0 := by rw [hM 87 (by omega) (by omega)]; rfl
  obtain ⟨y, hy⟩ := r_cell SL xs hSL (k := 2 + k % 3) (by omega) ((0 + 2) + nI (k % 3)) (by rw [show (0 + 2 : Int32) = nI 2 by decide, nI_add])
  obtain ⟨V, hV⟩ : ∃ V, V = y + (257 * nI k) := ⟨_, rfl⟩
  have ha : 146 ≤ a := hb a RS_a
  have al : a < w.1.length := WA_len hA
  have lw0 := OKs_len ho
  have K16 := WA_r16 hA
  have l16 : L.1 16 < w.1.length := Kn_lt K16
  have b16 : 146 ≤ L.1 16 := hb _ (RS_j (by omega) (by omega))
  have na16 : a ≠ L.1 16 := ne_sh (WA_r hA).1 K16.1 (by simp)
  -- the row
  have kq := Kp_nq (fun _ => False) w (.inl 9) (fun _ => none) (mQ V)
  have nq' := Kn_nq w (.inl 9) (fun _ => none) (mQ V)
  have rq : Rm (nq w (.inl 9) (fun _ => none) (mQ V)) m := Rm_nq1 hR (by decide)
  have e1 : ∀ (β : Type) (kk : Nat → Dm β), (dbind (dnew (nwI 9)) kk).1 w = (kk w.1.length).1 (nq w (.inl 9) (fun _ => none) (fun _ => 0)) := fun β kk => b_nw (show nwI 9 w = _ from nwI_n (n := 9) (by decide) w) (n := m) (c := 1) hR (by decide) (by decide)
  have A1 := Go_nq hv (.inl 9) (fun _ => none) (mQ V)
  have K16q := Kn_kp K16 kq (fun z => z)
  obtain ⟨z1, hz1⟩ : ∃ z1, z1 = nq w (.inl 9) (fun _ => none) (mQ V) := ⟨_, rfl⟩
  rw [← hz1] at kq nq' rq A1 K16q
  have l1 : z1.1.length = w.1.length + 1 := by rw [hz1]; exact len_nq _ _ _ _
  have kw := Kp_wo z1 (L.1 16) (oupd (w.2.1 (L.1 16)) k (some w.1.length))
  have K16w := Kn_wo K16q (oupd (w.2.1 (L.1 16)) k (some w.1.length))
  have e2 : ∀ kk : Unit → Dm (Option Nat), (dbind (dput (aast (L.1 16) (nI k) w.1.length)) kk).1 z1 = (kk ()).1 (wo z1 (L.1 16) (oupd (w.2.1 (L.1 16)) k (some w.1.length))) := fun kk => b_ps K16q (Or.inr ⟨rfl, nq'.1⟩) k _ rfl (by omega) (by decide)
  obtain ⟨z2, hz2⟩ : ∃ z2, z2 = wo z1 (L.1 16) (oupd (w.2.1 (L.1 16)) k (some w.1.length)) := ⟨_, rfl⟩
  rw [← hz2] at kw K16w
  have e2 : ∀ kk : Unit → Dm (Option Nat), (dbind (dput (aast (L.1 16) (nI k) w.1.length)) kk).1 z1 = (kk ()).1 z2 := fun kk => by rw [e2 kk, ← hz2]
  have Ka : Kn w a (.inr (.inl 12)) (w.2.1 a) (w.2.2 a) := ⟨(WA_r hA).1, rfl, rfl⟩
  have Ka2 := Kn_kp (Kn_kp Ka kq (fun z => z)) kw na16
  have Kq2 := Kn_kp nq' kw (by omega)
  have hl2 : Lw z2 g := Lw_kp (Lw_kp hl kq (fun _ _ z => z)) kw (by omega)
  have I2 := TI_0 Ka2 hl2 ha
  have g16 : ∀ {z : Wd}, Kn z a (.inr (.inl 12)) (w.2.1 a) (w.2.2 a) → gfR a 12 16 z = some (L.1 16) := fun {z} h => by rw [gfR_k h]; exact (WA_r hA).2.1 16 (by omega) (by omega)
  have r16 : aald (L.1 16) (nI k) z2 = some w.1.length := ar_k K16w k (by omega) (by decide) (ou_eq _ _ _)
  -- the man
  have bc : ((V >>> ((3 : Int32) &&& 31)) &&& 1) = 0 ∨ ((V >>> ((3 : Int32) &&& 31)) &&& 1) = 1 := b01 _
  have b4 := btN_r (V >>> ((4 : Int32) &&& 31)) (show 0 ≤ 120 by omega)
  have b6 := btN_r (V >>> ((6 : Int32) &&& 31)) (show 1 ≤ 9 by omega)
  have b5 := btN_r (V >>> ((5 : Int32) &&& 31)) (show 0 ≤ 99 by omega)
  have b7 := btN_r (V >>> ((7 : Int32) &&& 31)) (show 0 ≤ 300 by omega)
  have ok : manOk ((V >>> ((3 : Int32) &&& 31)) &&& 1) (nI (btN (V >>> ((4 : Int32) &&& 31)) 0 120)) (nI (btN (V >>> ((6 : Int32) &&& 31)) 1 9)) := ⟨bc, by rw [show (120 : Int32) = nI 120 by decide, in_k (by omega) (by omega)]; omega, by rw [show (1 : Int32) = nI 1 by decide, show (9 : Int32) = nI 9 by decide, nn_le (by omega) (by omega), nn_le (by omega) (by omega)]; omega⟩
  obtain ⟨g3, m3, G3⟩ := ge_man hG hT (by omega) ok
  rw [hk] at m3 G3
  obtain ⟨z3, a1, a2, a3, a4, a5⟩ := b_cl (A_man _ _ _) (fun {u v u'} h => frX11_man_0 _ _ _ u h) (fun c hc => by simp; omega) hl2 m3
  have I3 := TI_cl I2 a1 a4
  have Kq3 := Kn_kp Kq2 a4 (by show ¬ w.1.length < 146; omega)
  have hW3 := GS_ok a1 G3
  have n3 : nmen (mkW W k ((V >>> ((3 : Int32) &&& 31)) &&& 1) (nI (btN (V >>> ((4 : Int32) &&& 31)) 0 120)) (nI (btN (V >>> ((6 : Int32) &&& 31)) 1 9))) = k + 1 := by
    unfold nmen
    rw [mkW_at, if_pos rfl, nI_1, nt_nI (by omega)]
  -- his breath
  have w50 : (mkW W k ((V >>> ((3 : Int32) &&& 31)) &&& 1) (nI (btN (V >>> ((4 : Int32) &&& 31)) 0 120)) (nI (btN (V >>> ((6 : Int32) &&& 31)) 1 9))) (4 + k) = 50 := by
    rw [mkW_at, if_neg (by omega), if_neg (by omega), if_neg (by omega), if_neg (by omega), if_neg (by omega), if_neg (by omega), if_pos rfl]
  obtain ⟨v4, s1, s2⟩ := s_of3 a1.2 (m := k) (by rw [G3.1, n3]; omega)
  have s1 : FX11_of_0 (nI k) 3 z3.2.2 = some (50, v4) := by
    have e : ofV (g3 147) k 3 = 50 := by
      show g3 147 (4 + k) = 50
      rw [G3.1, w50]
    rw [e] at s1
    exact s1
  have k4 := Kp_cl z3 v4 (fun c hc => frX11_of_0 _ _ _ s1 c (by simp; omega))
  have hl4 : Lw (z3.1, z3.2.1, v4) g3 := ⟨Kp_OKs k4 a1.1 (fun c hc => Or.inr rfl), s2⟩
  have e4 : ∀ kk : Int32 → Dm (Option Nat), (dbind (dclW (fun u => FX11_of_0 (nI k) 3 u)) kk).1 z3 = (kk 50).1 (z3.1, z3.2.1, v4) := fun kk => b_ok (dclW_ok a1.1 s1)
  obtain ⟨z4, hz4⟩ : ∃ z4 : Wd, z4 = (z3.1, z3.2.1, v4) := ⟨_, rfl⟩
  rw [← hz4] at k4 hl4 e4
  have I4 := TI_cl I3 hl4 k4
  have Kq4 := Kn_kp Kq3 k4 (by show ¬ w.1.length < 146; omega)
  have l3 : z3.1.length = z2.1.length := by rw [a2]
  have l4 : z4.1.length = z2.1.length := by rw [hz4]; exact l3
  have l2 : z2.1.length = w.1.length + 1 := by rw [hz2]; exact l1
  -- one man more
  have I5 := TI_wr I4 (upd (w.2.2 a) 6 (nI (k + 1)))
  have k5 := Kp_wr z4 a (upd (w.2.2 a) 6 (nI (k + 1)))
  have Kq5 := Kn_kp Kq4 k5 (by omega)
  have e5 : ∀ kk : Unit → Dm (Option Nat), (dbind (dput (pfI a 12 6 (nI k + 1))) kk).1 z4 = (kk ()).1 (wr z4 a (upd (w.2.2 a) 6 (nI (k + 1)))) := fun kk => by rw [b_fi I4.2.1, nI_1]
  have f6 : gfI a 12 6 z4 = some (nI k) := by rw [g_fi I4.2.1, (WA_i hA).2.2.2.2.2.2.1, (OkT_n hT).1, hk]
  obtain ⟨z5, hz5⟩ : ∃ z5, z5 = wr z4 a (upd (w.2.2 a) 6 (nI (k + 1))) := ⟨_, rfl⟩
  rw [← hz5] at I5 k5 Kq5
  have e5 : ∀ kk : Unit → Dm (Option Nat), (dbind (dput (pfI a 12 6 (nI k + 1))) kk).1 z4 = (kk ()).1 z5 := fun kk => by rw [e5 kk, ← hz5]
  -- what he knows
  have G5 : GS g3 (upd (mkW W k ((V >>> ((3 : Int32) &&& 31)) &&& 1) (nI (btN (V >>> ((4 : Int32) &&& 31)) 0 120)) (nI (btN (V >>> ((6 : Int32) &&& 31)) 1 9))) (16 + k) 0) [] := by
    rw [upd_self (by rw [mkW_at, if_neg (by omega), if_neg (by omega), if_neg (by omega), if_neg (by omega), if_neg (by omega), if_pos rfl])]
    exact G3
  obtain ⟨z6, g6, S6, F6, e6, I6, Kq6, G6, l6, k6⟩ := tch_loop (SL := SL) (z := ((V >>> ((2 : Int32) &&& 31)) &&& 255)) xs (DL_war_L281 SL xs F) y0 (nI n) (and8 _) (show mQ V 4 = _ from rfl) n3 (by omega) (by omega) 8 0 FU z5 g3 [] 0 (by omega) (by show _ < 10000; omega) I5 Kq5 G5 (fun i hi => by rw [tb_0, decide_eq_false (by omega), Bool.and_false])
  -- his breath, his coin
  have hW6 := GS_ok I6.2.2.1 G6
  have n6 : nmen (upd (mkW W k ((V >>> ((3 : Int32) &&& 31)) &&& 1) (nI (btN (V >>> ((4 : Int32) &&& 31)) 0 120)) (nI (btN (V >>> ((6 : Int32) &&& 31)) 1 9))) (16 + k) ((V >>> ((2 : Int32) &&& 31)) &&& 255)) = k + 1 := by
    unfold nmen
    rw [up_ne (by omega)]
    exact n3
  obtain ⟨g7, m7, G7⟩ := ge_set G6 hW6.1 (what := 5) (who := k) (v := btN (V >>> ((5 : Int32) &&& 31)) 0 99) (by omega) (by omega) (by omega) (Or.inr (Or.inr (Or.inr (Or.inr (Or.inr (Or.inl ⟨rfl, by rw [n6]; omega, b5.2⟩))))))
  have m7 : FX12_set_146 5 (nI k) (nI (btN (V >>> ((5 : Int32) &&& 31)) 0 99)) g6 = some (1, g7) := m7
  have G7 : GS g7 (upd (upd (mkW W k ((V >>> ((3 : Int32) &&& 31)) &&& 1) (nI (btN (V >>> ((4 : Int32) &&& 31)) 0 120)) (nI (btN (V >>> ((6 : Int32) &&& 31)) 1 9))) (16 + k) ((V >>> ((2 : Int32) &&& 31)) &&& 255)) (4 + k) (nI (btN (V >>> ((5 : Int32) &&& 31)) 0 99))) [] := G7
  obtain ⟨z7, c1, c2, c3, c4, c5⟩ := b_cl (A_set _ _ _) (fun {u v u'} h => frX11_set_0 _ _ _ u h) (fun c hc => by simp; omega) I6.2.2.1 m7
  have I7 := TI_cl I6 c1 c4
  have Kq7 := Kn_kp Kq6 c4 (by show ¬ w.1.length < 146; omega)
  have hW7 := GS_ok c1 G7
  obtain ⟨g8, m8, G8⟩ := ge_set G7 hW7.1 (what := 6) (who := k) (v := btN (V >>> ((7 : Int32) &&& 31)) 0 300) (by omega) (by omega) (by omega) (Or.inr (Or.inr (Or.inr (Or.inr (Or.inr (Or.inr ⟨rfl, by unfold nmen; rw [up_ne (by omega)]; show k < nmen _; rw [n6]; omega, by omega⟩))))))
  have m8 : FX12_set_146 6 (nI k) (nI (btN (V >>> ((7 : Int32) &&& 31)) 0 300)) g7 = some (1, g8) := m8
  have G8 : GS g8 (mW W k V) [] := G8
  obtain ⟨z8, d1, d2, d3, d4, d5⟩ := b_cl (A_set _ _ _) (fun {u v u'} h => frX11_set_0 _ _ _ u h) (fun c hc => by simp; omega) c1 m8
  have I8 := TI_cl I7 d1 d4
  have Kq8 := Kn_kp Kq7 d4 (by show ¬ w.1.length < 146; omega)
  have hW8 := GS_ok d1 G8
  -- all together
  have K28 : Kp (fun c => c < 146 ∨ c = a) z2 z8 := I8.1
  have K02 : Kp (fun c => c = L.1 16) w z2 := Kp_tr (Kp_F kq) kw (fun _ _ z => z)
  have K08 : Kp (fun c => c < 146 ∨ c = a ∨ c = L.1 16) w z8 := Kp_tr (Kp_mono K02 (fun c _ z => Or.inr (Or.inr z))) K28 (fun c _ z => by rcases z with z | z; exact Or.inl z; exact Or.inr (Or.inl z))
  have K16e := Kn_kp K16w K28 (by omega)
  have v8 := WA_man V hv hk (by omega) h87 d1.1 hW8 K08 I8.2.1 K16e Kq8 (Nat.le_refl _)
  refine ⟨z8, g8, _, _, ?_, v8, d1, G8, by unfold nmen; rw [mW_78 W (by omega) V, nt_nI (by omega)], fun z h1 h2 => by rw [mW_lo W (by omega) V (by omega)]; exact hM z h1 h2, ?_⟩
  · unfold DL_war_b281
    rw [i_f (by rw [nn_le (by omega) (by omega)]; omega), b_lf (show rmI (nI k) 3 = some (nI (k % 3)) from rm_nn (b := 3) (by omega) (by omega) (by omega)), hy, b_rd (g16 Ka), e1, ← hV, ia_nq rfl 0 0 _ (by decide) (by decide) (by decide), b_bt _ 0 120 (by omega) (by omega) _ _ (by decide) (by decide), ia_nq rfl 1 1 _ (by decide) (by decide) (by decide), b_bt _ 1 9 (by omega) (by omega) _ _ (by decide) (by decide), ia_nq rfl 2 2 _ (by decide) (by decide) (by decide), b_bt _ 0 99 (by omega) (by omega) _ _ (by decide) (by decide), ia_nq rfl 3 3 _ (by decide) (by decide) (by decide), ia_nq rfl 4 4 _ (by decide) (by decide) (by decide), b_bt _ 0 300 (by omega) (by omega) _ _ (by decide) (by decide), ia_nq rfl 5 5 _ (by decide) (by decide) (by decide), ia_nq rfl 6 6 _ (by decide) (by decide) (by decide), ia_nq rfl 7 7 _ (by decide) (by decide) (by decide), ia_nq rfl 8 8 _ (by decide) (by decide) (by decide)]
    show (dbind (dput (aast (L.1 16) (nI k) w.1.length)) _).1 (nq w (.inl 9) (fun _ => none) (mQ V)) = _
    rw [← hz1, e2, b_rd (g16 Ka2), b_rd r16, b_rd (g_ki Kq2 0 0 (by decide) (by decide) (by decide)), b_rd (g_ki Kq2 1 1 (by decide) (by decide) (by decide)), b_rd (g_ki Kq2 2 2 (by decide) (by decide) (by decide))]
    refine (a5 _ _).trans ?_
    rw [i_t rfl]
    refine (e4 _).trans ?_
    rw [i_t rfl, b_rd f6]
    refine (e5 _).trans ?_
    refine e6.trans ?_
    unfold DL_war_b467
    rw [i_t (by decide), b_rd (g_ki Kq6 3 3 (by decide) (by decide) (by decide))]
    refine (c5 _ _).trans ?_
    rw [i_f (by decide), b_rd (g_ki Kq7 5 5 (by decide) (by decide) (by decide))]
    refine (d5 _ _).trans ?_
    rw [i_f (by decide), ← nI_succ]
  · refine Rm_e rq ?_
    rw [d2, c2, l6, hz5]
    show z4.1 = z1.1
    rw [hz4]
    show z3.1 = z1.1
    rw [a2, hz2]
    rfl
