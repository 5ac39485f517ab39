/-! a round of setting, of texts; the law's last look -/
theorem WJ_one {w : Wd} {a d D : Nat} {L : Lay} {W : Wt} (h : Wv w a L W) (hd : W 0 = nI d) (hD : d ≤ D) : WJ w W ([] ++ [(a, L, W)]) D := by
  refine ⟨fun x hx => ?_, List.pairwise_singleton _ _⟩
  have hx := List.mem_singleton.mp hx
  subst hx
  refine ⟨?_, d, hd, hD⟩
  show Wv w a L (mixR W W)
  rw [mix_self]
  exact h
theorem AR_nil {w : Wd} {l3 : Nat} {B : List WrT} (h : ArW w l3 B) : ArW w l3 [] := ⟨h.1, h.2.1, Nat.zero_le _, fun j x hx => by cases hx⟩
theorem X_kp {w w' : Wd} {g : Mem} {a l3 D : Nat} {L : Lay} {W : Wt} {B : List WrT} {x : WrT} (h : LwX w g a L W l3 B D x) (k : Kp (fun _ => False) w w') : LwX w' g a L W l3 B D x := by
  obtain ⟨h1, h2, h3, h4, h5⟩ := h
  have l1 := Lw_kp h4 k (fun _ _ z => z)
  exact ⟨WJ_kp h1 k l1.1 (fun _ _ _ _ z => z), h2, AR_kp h3 k (fun z => z), l1, h5⟩
theorem r_881 {w : Wd} {g : Mem} {a l3 D n SL r : Nat} {L : Lay} {W : Wt} {B : List WrT} {x : WrT} (xs : Nat → Int32) (K : Nat → Nat → Int32 → Int32 → Dm Int32) (h : LwX w g a L W l3 B D x) {what who v : Nat} (h8 : what < 8) (hw : who < 100) (hv : v < 10000) (t : Int32) (ht : (cSet W what who v ∧ t = 1) ∨ (¬ cSet W what who v ∧ t = 0)) (hR : Rm w (n + 1)) : ∃ w' g' W' B', (DL_law_b881 SL xs K a l3 (nI B.length) (nI r) x.1 0 (nI what) (nI who) (nI v) t).1 w = (K a l3 (nI B'.length) (nI (r + 1))).1 w' ∧ LwI w' g' a L W' l3 B' D ∧ Rm w' n := by
  obtain ⟨hV, d, hd, hd'⟩ := X_last h
  obtain ⟨hJ, hx, hA, hl, hG⟩ := id h
  have hT := hV.2.2.1.1
  unfold DL_law_b881
  rcases ht with ⟨ok, rfl⟩ | ⟨no, rfl⟩
  · obtain ⟨g1, m1, G1⟩ := ge_set hG hT h8 hw hv ok
    obtain ⟨w1, a1, a2, a3, a4, a5⟩ := b_cl (A_set _ _ _) (fun {u v u'} h => frX11_set_0 _ _ _ u h) (fun c hc => by simp; omega) hl m1
    have hv1 := Wv_cl hV a4 a1.1
    have ar1 := AR_nil (AR_kp hA a4 (by have := hA.2.1; show ¬ l3 < 146; omega))
    obtain ⟨w2, e2, v2, ar2, l2, s2⟩ := Wv_set (SL := SL) xs K (nI r) x.1 hv1 ar1 hw hv ok (GS_ok a1 G1)
    have d0 : (upd W (plc what who) (nI v)) 0 = nI d := by
      have hp : plc what who ≠ 0 := by
        unfold plc
        split
        · omega
        · split
          · omega
          · split
            · omega
            · split
              · omega
              · split
                · omega
                · split <;> omega
      rw [up_ne hp.symm]
      exact hd
    have I2 : LwI w2 g1 a L (upd W (plc what who) (nI v)) l3 [] D := ⟨WJ_one v2 d0 hd', ar2, l2 g1 a1, G1⟩
    obtain ⟨w3, e3, I3, r3⟩ := r_nop (SL := SL) (r := r) (n := n) xs K x.1 I2 (Rm_e (Rm_e hR a2) s2)
    refine ⟨w3, g1, _, [], ?_, I3, r3⟩
    refine (a5 _ _).trans ?_
    rw [i_t rfl, i_f (by decide)]
    refine e2.trans ?_
    exact e3
  · obtain ⟨w1, w', f1, f2, I, rr⟩ := r_none (SL := SL) (r := r) xs K h (A_set (nI what) (nI who) (nI v)) (fun {u v u'} h => frX11_set_0 _ _ _ u h) (fun c hc => by simp; omega) (ge_setN hG hT h8 hw hv no) hR
    refine ⟨w', g, W, B, ?_, I, rr⟩
    refine (f1 _).trans ?_
    rw [i_t rfl, i_t rfl]
    exact f2
theorem r_768 {w : Wd} {g : Mem} {a l3 D n SL r : Nat} {L : Lay} {W : Wt} {B : List WrT} {x : WrT} (xs : Nat → Int32) (K : Nat → Nat → Int32 → Int32 → Dm Int32) (h : LwX w g a L W l3 B D x) {what who hi : Nat} (h8 : what < 8) (hw : who < 100) (t0 t2 : Int32) (ht2 : t2 = nI hi) (hhi : hi ≤ 101) (hR : Rm w (n + 2)) : ∃ w' g' W' B', (DL_law_b768 SL xs K a l3 (nI B.length) (nI r) x.1 0 (nI what) (nI who) t0 0 t2).1 w = (K a l3 (nI B'.length) (nI (r + 1))).1 w' ∧ LwI w' g' a L W' l3 B' D ∧ Rm w' n := by
  subst ht2
  obtain ⟨v, hv⟩ : ∃ v, v = btN t0 0 hi := ⟨_, rfl⟩
  have bv := (btN_r t0 (show 0 ≤ hi by omega)).2
  rw [← hv] at bv
  have kq := Kp_nq (fun _ => False) w (.inl 8) (fun _ => none) mstV
  have nq' := Kn_nq w (.inl 8) (fun _ => none) mstV
  have rq : Rm (nq w (.inl 8) (fun _ => none) mstV) (n + 1) := Rm_nq1 (n := n + 1) hR (by decide)
  have e1 : ∀ (β : Type) (kk : Nat → Dm β), (dbind (dnew (nwI 8)) kk).1 w = (kk w.1.length).1 (nq w (.inl 8) (fun _ => none) (fun _ => 0)) := fun β kk => b_nw (show nwI 8 w = _ from nwI_n (n := 8) (by decide) w) (n := n + 1) (c := 1) hR (by decide) (by decide)
  have hX := X_kp h kq
  obtain ⟨w1, hw1⟩ : ∃ w1, w1 = nq w (.inl 8) (fun _ => none) mstV := ⟨_, rfl⟩
  rw [← hw1] at kq nq' rq hX
  obtain ⟨hV, d, hd, hd'⟩ := X_last hX
  have hT := hV.2.2.1.1
  obtain ⟨hn, h12⟩ := OkT_n hT
  have g6 : gfI a 12 6 w1 = some (nI (nmen W)) := by rw [g_6 hV.1, hn]
  have yes : cSet W what who v → _ := fun ok => r_881 (SL := SL) (r := r) (n := n) xs K hX h8 hw (show v < 10000 by omega) 1 (Or.inl ⟨ok, rfl⟩) rq
  have nay : ¬ cSet W what who v → _ := fun no => r_881 (SL := SL) (r := r) (n := n) xs K hX h8 hw (show v < 10000 by omega) 0 (Or.inr ⟨no, rfl⟩) rq
  unfold DL_law_b768
  rw [b_bt _ 0 hi (by omega) (by omega) _ _ (by decide) rfl, ← hv, e1, ia_nq rfl 0 0 _ (by decide) (by decide) (by decide), ia_nq rfl 1 1 _ (by decide) (by decide) (by decide), ia_nq rfl 2 2 _ (by decide) (by decide) (by decide), ia_nq rfl 3 3 _ (by decide) (by decide) (by decide), ia_nq rfl 4 4 _ (by decide) (by decide) (by decide), ia_nq rfl 5 5 _ (by decide) (by decide) (by decide), ia_nq rfl 6 6 _ (by decide) (by decide) (by decide), ia_nq rfl 7 7 _ (by decide) (by decide) (by decide)]
  show ∃ w' g' W' B', (dbind (dread (iald w.1.length (nI what))) _).1 (nq w (.inl 8) (fun _ => none) mstV) = _ ∧ _
  rw [← hw1, b_rd (g_ki nq' what _ rfl h8 (by decide))]
  by_cases c0 : mstV what < nI v
  · rw [i_t c0]
    exact nay (can_no h8 (by omega) c0)
  obtain ⟨q7, q0, q1, q2, q3, q4, q5, q6⟩ := can_le h8 (show v < 10000 by omega) c0
  rw [i_f c0]
  by_cases c1 : what < 3
  · rw [i_t (by rw [show (3 : Int32) = nI 3 by decide, nn_lt (by omega) (by omega)]; exact c1)]
    refine yes ?_
    unfold cSet
    rcases (by omega : what = 0 ∨ what = 1 ∨ what = 2) with z | z | z
    · exact Or.inl ⟨z, q0 z⟩
    · exact Or.inr (Or.inl ⟨z, q1 z⟩)
    · exact Or.inr (Or.inr (Or.inl ⟨z, q2 z⟩))
  rw [i_f (by rw [show (3 : Int32) = nI 3 by decide, nn_lt (by omega) (by omega)]; exact c1)]
  -- the last question
  have b861 : what ≠ 3 ∨ ¬ who < 2 → what ≠ 4 ∨ ¬ who < 16 → ∃ w' g' W' B', (DL_law_b861 SL xs K a l3 (nI B.length) (nI r) x.1 0 (nI what) (nI who) (nI v)).1 w1 = (K a l3 (nI B'.length) (nI (r + 1))).1 w' ∧ LwI w' g' a L W' l3 B' D ∧ Rm w' n := fun y3 y4 => by
    unfold DL_law_b861
    by_cases c4 : what ≤ 4
    · rw [i_t (by rw [show (4 : Int32) = nI 4 by decide, nn_le (by omega) (by omega)]; exact c4)]
      exact nay (fun z => by unfold cSet at z; omega)
    rw [i_f (by rw [show (4 : Int32) = nI 4 by decide, nn_le (by omega) (by omega)]; exact c4), b_rd g6]
    by_cases c5 : nmen W ≤ who
    · rw [i_t (by rw [nn_le (by omega) (by omega)]; exact c5)]
      exact nay (fun z => by unfold cSet at z; omega)
    rw [i_f (by rw [nn_le (by omega) (by omega)]; exact c5)]
    refine yes ?_
    unfold cSet
    rcases (by omega : what = 5 ∨ what = 6) with z | z
    · exact Or.inr (Or.inr (Or.inr (Or.inr (Or.inr (Or.inl ⟨z, by omega, q5 z⟩)))))
    · exact Or.inr (Or.inr (Or.inr (Or.inr (Or.inr (Or.inr ⟨z, by omega, q6 z⟩)))))
  have b848 : what ≠ 3 ∨ ¬ who < 2 → ∃ w' g' W' B', (DL_law_b848 SL xs K a l3 (nI B.length) (nI r) x.1 0 (nI what) (nI who) (nI v)).1 w1 = (K a l3 (nI B'.length) (nI (r + 1))).1 w' ∧ LwI w' g' a L W' l3 B' D ∧ Rm w' n := fun y3 => by
    unfold DL_law_b848
    by_cases c4 : what = 4
    · rw [i_t (by rw [c4]; rfl)]
      by_cases c5 : who < 16
      · rw [i_t (by rw [show (16 : Int32) = nI 16 by decide, nn_lt (by omega) (by omega)]; exact c5)]
        refine yes ?_
        unfold cSet
        exact Or.inr (Or.inr (Or.inr (Or.inr (Or.inl ⟨c4, c5, q4 c4⟩))))
      · rw [i_f (by rw [show (16 : Int32) = nI 16 by decide, nn_lt (by omega) (by omega)]; exact c5)]
        exact b861 y3 (Or.inr c5)
    · rw [i_f (by rw [show (4 : Int32) = nI 4 by decide, nn_eq (by omega) (by omega)]; exact c4)]
      exact b861 y3 (Or.inl c4)
  by_cases c3 : what = 3
  · rw [i_t (by rw [c3]; rfl)]
    by_cases c5 : who < 2
    · rw [i_t (by rw [show (2 : Int32) = nI 2 by decide, nn_lt (by omega) (by omega)]; exact c5)]
      refine yes ?_
      unfold cSet
      exact Or.inr (Or.inr (Or.inr (Or.inl ⟨c3, c5, q3 c3⟩)))
    · rw [i_f (by rw [show (2 : Int32) = nI 2 by decide, nn_lt (by omega) (by omega)]; exact c5)]
      exact b848 (Or.inr c5)
  · rw [i_f (by rw [show (3 : Int32) = nI 3 by decide, nn_eq (by omega) (by omega)]; exact c3)]
    exact b848 (Or.inl c3)
theorem r_748 {w : Wd} {g : Mem} {a l3 D n SL r : Nat} {L : Lay} {W : Wt} {B : List WrT} {x : WrT} (xs : Nat → Int32) (K : Nat → Nat → Int32 → Int32 → Dm Int32) (h : LwX w g a L W l3 B D x) {what who : Nat} (h8 : what < 8) (hw : who < 100) (l6 : Int32) (hR : Rm w (n + 2)) : ∃ w' g' W' B', (DL_law_b748 SL xs K a l3 (nI B.length) (nI r) l6 x.1 0 (nI what) (nI who)).1 w = (K a l3 (nI B'.length) (nI (r + 1))).1 w' ∧ LwI w' g' a L W' l3 B' D ∧ Rm w' n := by
  unfold DL_law_b748
  by_cases c4 : what = 4
  · rw [i_t (by rw [c4]; rfl)]
    exact r_768 (hi := 1) xs K h h8 hw _ 1 (by decide) (by omega) hR
  · rw [i_f (by rw [show (4 : Int32) = nI 4 by decide, nn_eq (by omega) (by omega)]; exact c4)]
    exact r_768 (hi := 101) xs K h h8 hw _ 101 (by decide) (by omega) hR
/-- texts anew -/
theorem r_txt9 {w : Wd} {g : Mem} {a l3 D n SL r : Nat} {L : Lay} {W : Wt} {B : List WrT} {x : WrT} (xs : Nat → Int32) (K : Nat → Nat → Int32 → Int32 → Dm Int32) (h : LwX w g a L W l3 B D x) (hD : D ≤ 500) (y : Int32) (hR : Rm w (n + 19501)) : ∃ w' g' L' W' B', (dbind (DL_texts a y) fun x62 => (if x62 = 0 then (dret 0) else (DL_law_b1082 SL xs K a l3 0 (nI r) x.1 0))).1 w = (K a l3 (nI B'.length) (nI (r + 1))).1 w' ∧ LwI w' g' a L' W' l3 B' D ∧ Rm w' n := by
  obtain ⟨hV, d, hd, hd'⟩ := X_last h
  obtain ⟨hJ, hx, hA, hl, hG⟩ := id h
  obtain ⟨w1, g1, L1, W1, e1, l1, G1, v1, r1, s1, k1⟩ := r_texts (n := n + 1) (day := d) y hV hl hG hd (by omega) (Rm_le hR (by omega))
  have na : l3 ≠ a := (RS_l3 hV.1 hA.1 RS_a).symm
  have ar1 := AR_nil (AR_kp hA k1 (by have := hA.2.1; show ¬ (l3 < 146 ∨ l3 = a); omega))
  have d0 : W1 0 = nI d := by rw [s1 0 (by omega) (by omega) (by omega) (by omega)]; exact hd
  have I1 : LwI w1 g1 a L1 W1 l3 [] D := ⟨WJ_one v1 d0 hd', ar1, l1, G1⟩
  obtain ⟨w3, e3, I3, r3⟩ := r_nop (SL := SL) (r := r) (n := n) xs K x.1 I1 r1
  refine ⟨w3, g1, L1, W1, [], ?_, I3, r3⟩
  rw [b_ok e1, i_f (by decide)]
  exact e3
/-- a call at the end -/
theorem f_cl {w : Wd} {g : Mem} {a l3 D : Nat} {L : Lay} {W : Wt} {B : List WrT} (h : LwI w g a L W l3 B D) {f gg : Mem → Option (Int32 × Mem)} {L0 : List Nat} (hA : A2 f gg) (fr : ∀ {u : Mem} {v : Int32} {u' : Mem}, f u = some (v, u') → FrL L0 u u') (h0 : ∀ c, 146 ≤ c → L0.contains c = false) {r : Int32} (hg : gg g = some (r, g)) : ∃ w1, (∀ k : Int32 → Dm Int32, (dbind (dclW f) k).1 w = (k r).1 w1) ∧ LwI w1 g a L W l3 B D ∧ w1.1 = w.1 := by
  obtain ⟨w1, c1, c2, c3, c4, c5⟩ := b_cl hA fr h0 h.2.2.1 hg
  exact ⟨w1, fun k => c5 _ k, ⟨WJ_cl h.1 c4 c1.1, AR_kp h.2.1 c4 (by have := h.2.1.2.1; show ¬ l3 < 146; omega), c1, h.2.2.2⟩, c2⟩
theorem f_r1 {w : Wd} {g : Mem} {f gg : Mem → Option Int32} {r : Int32} (hl : Lw w g) (hA : A1 f gg) (hg : gg g = some r) : f w.2.2 = some r := by
  obtain ⟨r', e1, e2⟩ := hA _ _ hl.2
  rw [hg] at e2
  cases e2
  exact e1
theorem r_fin {w : Wd} {g : Mem} {a l3 D n SL : Nat} {L : Lay} {W : Wt} {B : List WrT} (xs : Nat → Int32) (K : Nat → Nat → Int32 → Int32 → Dm Int32) (h : LwI w g a L W l3 B D) (hR : Rm w (n + 1)) : ∃ w', (DL_law_b41 SL xs K a l3 (nI B.length) (nI 20)).1 w = some (1, w') := by
  obtain ⟨hV, d, hd, hd'⟩ := WJ_last h.1
  have hT := hV.2.2.1.1
  obtain ⟨hn, h12⟩ := OkT_n hT
  have hG := h.2.2.2
  obtain ⟨w1, e1, h1, q1⟩ := f_cl h (A_days 0) (fun {u v u'} h => frX11_days_0 _ u h) (fun c hc => by simp; omega) (ge_daysN (p := 0) (by decide))
  obtain ⟨w2, e2, h2, q2⟩ := f_cl h1 (A_days 61) (fun {u v u'} h => frX11_days_0 _ u h) (fun c hc => by simp; omega) (ge_daysN (p := 61) (by decide))
  obtain ⟨w3, e3, h3, q3⟩ := f_cl h2 (A_man 2 0 1) (fun {u v u'} h => frX11_man_0 _ _ _ u h) (fun c hc => by simp; omega) (ge_manN (by unfold manOk; decide))
  obtain ⟨w4, e4, h4, q4⟩ := f_cl h3 (A_man 0 121 1) (fun {u v u'} h => frX11_man_0 _ _ _ u h) (fun c hc => by simp; omega) (ge_manN (by unfold manOk; decide))
  obtain ⟨w5, e5, h5, q5⟩ := f_cl h4 (A_man 0 0 0) (fun {u v u'} h => frX11_man_0 _ _ _ u h) (fun c hc => by simp; omega) (ge_manN (by unfold manOk; decide))
  obtain ⟨w6, e6, h6, q6⟩ := f_cl h5 (A_man 0 0 10) (fun {u v u'} h => frX11_man_0 _ _ _ u h) (fun c hc => by simp; omega) (ge_manN (by unfold manOk; decide))
  have s1 : FX12_set_146 0 0 100 g = some (0, g) := ge_setN hG hT (what := 0) (who := 0) (v := 100) (by omega) (by omega) (by omega) (by unfold cSet; omega)
  have s2 : FX12_set_146 1 0 10 g = some (0, g) := ge_setN hG hT (what := 1) (who := 0) (v := 10) (by omega) (by omega) (by omega) (by unfold cSet; omega)
  have s3 : FX12_set_146 3 2 0 g = some (0, g) := ge_setN hG hT (what := 3) (who := 2) (v := 0) (by omega) (by omega) (by omega) (by unfold cSet; omega)
  have s4 : FX12_set_146 4 16 0 g = some (0, g) := ge_setN hG hT (what := 4) (who := 16) (v := 0) (by omega) (by omega) (by omega) (by unfold cSet; omega)
  have s5 : FX12_set_146 5 (nI (nmen W)) 0 g = some (0, g) := ge_setN hG hT (what := 5) (who := nmen W) (v := 0) (by omega) (by omega) (by omega) (by unfold cSet; omega)
  obtain ⟨w7, e7, h7, q7⟩ := f_cl h6 (A_set 0 0 100) (fun {u v u'} h => frX11_set_0 _ _ _ u h) (fun c hc => by simp; omega) s1
  obtain ⟨w8, e8, h8, q8⟩ := f_cl h7 (A_set 1 0 10) (fun {u v u'} h => frX11_set_0 _ _ _ u h) (fun c hc => by simp; omega) s2
  obtain ⟨w9, e9, h9, q9⟩ := f_cl h8 (A_set 3 2 0) (fun {u v u'} h => frX11_set_0 _ _ _ u h) (fun c hc => by simp; omega) s3
  obtain ⟨w10, e10, h10, q10⟩ := f_cl h9 (A_set 4 16 0) (fun {u v u'} h => frX11_set_0 _ _ _ u h) (fun c hc => by simp; omega) s4
  obtain ⟨w11, e11, h11, q11⟩ := f_cl h10 (A_set 5 (nI (nmen W)) 0) (fun {u v u'} h => frX11_set_0 _ _ _ u h) (fun c hc => by simp; omega) s5
  obtain ⟨w12, e12, h12', q12⟩ := f_cl h11 (A_teach (-1) 0) (fun {u v u'} h => frX11_teach_0 _ _ u h) (fun c hc => by simp; omega) (ge_teachN hG hT (by
    rintro ⟨m, i, z1, z2, z3, z4, z5⟩
    exact absurd z3.symm (nI_m1 (by omega))))
  obtain ⟨w13, e13, h13, q13⟩ := f_cl h12' (A_teach 0 (-1)) (fun {u v u'} h => frX11_teach_0 _ _ u h) (fun c hc => by simp; omega) (ge_teachN hG hT (by
    rintro ⟨m, i, z1, z2, z3, z4, z5⟩
    exact absurd z4.symm (nI_m1 (by omega))))
  obtain ⟨w14, e14, h14, q14⟩ := f_cl h13 (A_send 0 0 0) (fun {u v u'} h => frX11_send_0 _ _ _ u h) (fun c hc => by simp; omega) (ge_sendN hG hT (by
    rintro ⟨i, k, z1, z2, z3, z4, z5⟩
    have e : i = k := by
      rw [z3] at z4
      rw [nn_eq (by omega) (by omega)] at z4
      exact z4
    subst e
    obtain ⟨o1, o2, o3, -⟩ := z5
    rw [o2] at o3
    exact absurd o3 (by decide)))
  have t1 : FX12_weight_146 8 g = some (-1) := by
    unfold FX12_weight_146
    rw [m_in, b_some, if_pos (by decide)]
  have t2 : FX12_country_146 2 0 g = some (-1) := by
    unfold FX12_country_146
    rw [m_co, b_some, if_pos (by decide)]
  have t3 : FX12_country_146 0 5 g = some (-1) := by
    unfold FX12_country_146
    rw [m_co, b_some, if_pos (Or.inl rfl), if_neg (by decide), if_neg (by decide), if_neg (by decide), if_neg (by decide), if_neg (by decide), if_neg (by decide)]
  have t4 : FX12_book_146 0 4 g = some (-2) := by
    unfold FX12_book_146
    rw [m_in, b_some]
    by_cases c : (0 : Int32) ≤ 0 ∧ (0 : Int32) ≤ g 147 3 - 1
    · rw [if_pos c, if_neg (by decide), m_in, b_some, if_pos (by decide)]
    · rw [if_neg c, if_pos rfl]
  have t5 : FX12_look_146 15 g = some (-1) := by
    unfold FX12_look_146
    rw [if_neg (by decide), if_neg (by decide), if_neg (by decide), if_neg (by decide), if_neg (by decide), if_neg (by decide), if_neg (by decide), if_neg (by decide), if_neg (by decide), if_neg (by decide), if_neg (by decide), if_neg (by decide), if_neg (by decide), if_neg (by decide), if_neg (by decide)]
  have hl14 := h14.2.2.1
  have r14 : Rm w14 (n + 1) := by
    have e : w14.1 = w.1 := by rw [q14, q13, q12, q11, q10, q9, q8, q7, q6, q5, q4, q3, q2, q1]
    exact Rm_e hR e
  obtain ⟨w', e15, h15, r15⟩ := LI_same h14 r14
  have g6 : gfI a 12 6 w10 = some (nI (nmen W)) := by
    have v := (WJ_last h10.1).1
    rw [g_6 v.1, hn]
  have ia : isC a 12 w14 = some () := isC_s (WA_r (WJ_last h14.1).1.1).1
  refine ⟨w', ?_⟩
  unfold DL_law_b41
  rw [i_t (by decide)]
  refine (e1 _).trans ?_
  rw [i_t rfl]
  refine (e2 _).trans ?_
  rw [i_t rfl]
  refine (e3 _).trans ?_
  rw [i_t rfl]
  refine (e4 _).trans ?_
  rw [i_t rfl]
  refine (e5 _).trans ?_
  rw [i_t rfl]
  refine (e6 _).trans ?_
  rw [i_t rfl]
  refine (e7 _).trans ?_
  rw [i_t rfl]
  refine (e8 _).trans ?_
  rw [i_t rfl]
  refine (e9 _).trans ?_
  rw [i_t rfl]
  refine (e10 _).trans ?_
  rw [i_t rfl, b_rd g6]
  refine (e11 _).trans ?_
  rw [i_t rfl]
  refine (e12 _).trans ?_
  rw [i_t rfl]
  refine (e13 _).trans ?_
  rw [i_t rfl]
  refine (e14 _).trans ?_
  rw [i_t rfl, b_R hl14.1 (f_r1 hl14 (A_weight 8) t1), i_t rfl, b_R hl14.1 (f_r1 hl14 (A_country 2 0) t2), i_t rfl, b_R hl14.1 (f_r1 hl14 (A_country 0 5) t3), i_t rfl, b_R hl14.1 (f_r1 hl14 (A_book 0 4) t4), i_t rfl, b_R hl14.1 (f_r1 hl14 (A_look 15) t5), i_t rfl, b_rd ia, b_ok e15, i_f (by decide), u_rt]
