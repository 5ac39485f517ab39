/-! a War set, told, begun -/
theorem men_loop {a n m SL : Nat} (xs : Nat → Int32) (hSL : SL ≤ 260) (y0 : Int32) (hn : n ≤ 12) : ∀ (d k F : Nat) (w : Wd) (g : Mem) (L : Lay) (W : Wt), k + d = n → d < F → Wv w a L W → Lw w g → GS g W [] → nmen W = k → lM W → Rm w (m + d) → ∃ w' g' L' W' F', (DL_war_L281 SL xs F 0 a y0 (nI n) (nI k)).1 w = (DL_war_b281 SL xs (DL_war_L281 SL xs F') 0 a y0 (nI n) (nI n)).1 w' ∧ Wv w' a L' W' ∧ Lw w' g' ∧ GS g' W' [] ∧ nmen W' = n ∧ lM W' ∧ Rm w' m := by
  intro d
  induction d with
  | zero =>
    intro k F w g L W hk hF hv hl hG hW hM hR
    obtain ⟨F, rfl⟩ : ∃ F', F = F' + 1 := ⟨F - 1, by omega⟩
    have e : k = n := by omega
    subst e
    exact ⟨w, g, L, W, F, rfl, hv, hl, hG, hW, hM, hR⟩
  | succ d ih =>
    intro k F w g L W hk hF hv hl hG hW hM hR
    obtain ⟨F, rfl⟩ : ∃ F', F = F' + 1 := ⟨F - 1, by omega⟩
    obtain ⟨w1, g1, L1, W1, e1, a1, a2, a3, a4, a5, a6⟩ := man_step (m := m + d) xs hSL y0 F hv hl hG hW (by omega) hn hM hR
    obtain ⟨w', g', L', W', F', q1, q2⟩ := ih (k + 1) F w1 g1 L1 W1 (by omega) (by omega) a1 a2 a3 a4 a5 a6
    exact ⟨w', g', L', W', F', e1.trans q1, q2⟩
/-- what is set of a War but its men -/
theorem WA_set {w w' : Wd} {a : Nat} {L : Lay} {W R P Q : Wt} (hv : Wv w a L W) (ho : OKs w') (hR : WO R) (K : Kp (fun c => c < 146 ∨ c = a ∨ c = L.1 13) w w') (hA' : Kn w' a (.inr (.inl 12)) (w.2.1 a) P) (h13' : w'.1[L.1 13]? = some (.inl 2) ∧ w'.2.2 (L.1 13) = Q) (lo : ∀ z, ¬ (79 ≤ z ∧ z ≤ 83) → ¬ (126 ≤ z ∧ z < 142) → R z = W z) (hP : P 3 = R 79 ∧ P 4 = R 80 ∧ P 5 = R 81 ∧ P 8 = sHills R ∧ ∀ j, j ≠ 3 → j ≠ 4 → j ≠ 5 → j ≠ 8 → P j = w.2.2 a j) (hQ : ∀ c, c < 2 → Q c = R (82 + c)) : Wv w' a L R := by
  obtain ⟨hA, ho0, hW, hb⟩ := hv
  have lw0 := OKs_len ho0
  have h12 := (OkT_n hW.1).2
  obtain ⟨s13, s14, s15, s16, s17, s18⟩ := WA_s hA
  have lo3 := lo 3 (by omega) (by omega)
  have lo87 := lo 87 (by omega) (by omega)
  have en : nmen R = nmen W := by
    unfold nmen
    rw [lo 78 (by omega) (by omega)]
  have agA : ∀ {c : Nat} {s : Shp}, RS a L W c → w.1[c]? = some s → s ≠ .inr (.inl 12) → s ≠ .inl 2 → agr w w' c := fun {c s} hc hs hd hd2 => Kp_agr K (sh_len hs) (fun z => by
    rcases z with z | z | z
    · have := hb c hc; omega
    · exact absurd z (ne_sh hs (WA_r hA).1 hd)
    · exact absurd z (ne_sh hs s13 hd2))
  have ag14 := agA (RS_j (L := L) (show 13 ≤ 14 by omega) (by omega)) s14 (by simp) (by simp)
  have ag15 := agA (RS_j (L := L) (show 13 ≤ 15 by omega) (by omega)) s15 (by simp) (by simp)
  have ag16 := agA (RS_j (L := L) (show 13 ≤ 16 by omega) (by omega)) s16 (by simp) (by simp)
  have ag17 := agA (RS_j (L := L) (show 13 ≤ 17 by omega) (by omega)) s17 (by simp) (by simp)
  have ag18 := agA (RS_j (L := L) (show 13 ≤ 18 by omega) (by omega)) s18 (by simp) (by simp)
  have es : sTold R = sTold W := by
    funext m
    have h := (OkT_tn hW.1).2
    refine fo_n (by rw [lo 85 (by omega) (by omega)]) (fun i z hi => ?_)
    rw [lo _ (by omega) (by omega), lo _ (by omega) (by omega)]
  have ew : sWt1 R = sWt1 W := by
    funext m
    have h := (OkT_wn hW.1).2
    refine fo_n (by rw [lo 86 (by omega) (by omega)]) (fun i z hi => ?_)
    rw [lo _ (by omega) (by omega), lo _ (by omega) (by omega)]
  obtain ⟨i0, i1, i2, i3, i4, i5, i6, i7, i8, i9, i10, i11⟩ := WA_i hA
  obtain ⟨p3, p4, p5, p8, pj⟩ := hP
  refine ⟨⟨?_, ?_, ?_, ?_, ?_, ?_, ?_, ?_⟩, ho, hR, ?_⟩
  · unfold WAi
    rw [hA'.2.2, p3, p4, p5, p8, pj 0 (by omega) (by omega) (by omega) (by omega), pj 1 (by omega) (by omega) (by omega) (by omega), pj 2 (by omega) (by omega) (by omega) (by omega), pj 6 (by omega) (by omega) (by omega) (by omega), pj 7 (by omega) (by omega) (by omega) (by omega), pj 9 (by omega) (by omega) (by omega) (by omega), pj 10 (by omega) (by omega) (by omega) (by omega), pj 11 (by omega) (by omega) (by omega) (by omega), lo3, lo87, lo 0 (by omega) (by omega), lo 1 (by omega) (by omega), lo 2 (by omega) (by omega), lo 78 (by omega) (by omega), lo 85 (by omega) (by omega)]
    exact ⟨i0, i1, i2, rfl, rfl, rfl, i6, i7, rfl, i9, i10, i11⟩
  · exact ⟨hA'.1, fun j j1 j2 => by rw [hA'.2.1]; exact (WA_r hA).2.1 j j1 j2, by rw [hA'.2.1]; exact (WA_r hA).2.2⟩
  · unfold WAs
    rw [h13'.1, ag14.1, ag15.1, ag16.1, ag17.1, ag18.1, lo87]
    exact ⟨rfl, s14, s15, s16, s17, s18⟩
  · unfold WAv
    rw [h13'.2, ag14.2.2, ag15.2.2, es, ew]
    exact ⟨hQ, (WA_v hA).2.1, (WA_v hA).2.2⟩
  · refine ⟨fun m hm => ?_, fun m j hm hj e => (WA_m hA).2 m j (by omega) (by omega) e⟩
    rw [en] at hm
    have z := (WA_m hA).1 m (by omega)
    have agm := agA (RS_m (a := a) (L := L) (W := W) (m := m) (by omega)) z.2.1 (by simp) (by simp)
    unfold WA1
    rw [ag16.2.1, agm.1, agm.2.2, lo (90 + m) (by omega) (by omega), lo (102 + m) (by omega) (by omega), lo (114 + m) (by omega) (by omega), lo (4 + m) (by omega) (by omega), lo (16 + m) (by omega) (by omega), lo (28 + m) (by omega) (by omega), lo (40 + m) (by omega) (by omega), lo (52 + m) (by omega) (by omega), lo (64 + m) (by omega) (by omega)]
    exact z
  · intro i hi
    rw [lo3] at hi
    have z := (WA_l hA) i hi
    have agl := agA (RS_l (a := a) (L := L) hi) z.2.1 (by simp) (by simp)
    rw [ag17.2.1, agl.1, agl.2.2]
    refine ⟨z.1, z.2.1, fun k' hk' => ?_⟩
    rw [lo (300 + 4 * i + k') (by omega) (by omega)]
    exact z.2.2 k' hk'
  · intro i hi
    rw [lo87] at hi
    have z := (WA_o hA) i hi
    have h16 := (OkT_on hW.1).2
    have ago := agA (RS_o (a := a) (L := L) hi) z.2.1 (by simp) (by simp)
    rw [ag18.2.1, ago.1, ago.2.2, lo (222 + 3 * i) (by omega) (by omega), lo (222 + 3 * i + 1) (by omega) (by omega), lo (222 + 3 * i + 2) (by omega) (by omega)]
    exact z
  · have hLq : ∀ {d : Option (Nat → Int32)}, Lq d W → Lq d R := fun hq V' e hV wd m hwd hm => hq V' (fun j hj => by
      rw [e j hj]
      exact lo j (by omega) (by omega)) hV wd m hwd hm
    have h8 := WA_d hA
    unfold WAd at h8 ⊢
    cases eq : L.2.2.2.2 with
    | none =>
      rw [eq] at h8
      exact hLq h8
    | some q =>
      rw [eq] at h8
      have agq := agA (RS_d (a := a) (W := W) eq) h8.1 (by simp) (by simp)
      show w'.1[q]? = _ ∧ Lq (some (w'.2.2 q)) R
      rw [agq.1, agq.2.2]
      exact ⟨h8.1, hLq h8.2⟩
  · exact WAb_W hb en lo3 lo87
/-- hills from bits -/
theorem sHills_b {R : Wt} {h : Int32} (h16 : ∀ c, c < 16 → R (126 + c) = if tb h c = true then 1 else 0) (hh : ∀ k, 16 ≤ k → k < 32 → tb h k = false) : sHills R = h := by
  have key : ∀ c, c < 16 → ∀ i, i < 32 → (tb ((if tb h c = true then (1 : Int32) else 0) <<< (nI c &&& 31)) i = (decide (i = c) && tb h c)) := fun c hc i hi => by
    rw [show nI c &&& 31 = nI c by have key : ∀ f, f < 16 → (nI f &&& 31 : Int32) = nI f := by decide
                                   exact key c hc]
    cases e : tb h c with
    | true => rw [if_pos rfl, tb_1s (by omega) hi, Bool.and_true]
    | false =>
      rw [if_neg (by decide), Bool.and_false]
      have k0 : ∀ c, c < 16 → (0 : Int32) <<< nI c = 0 := by decide
      rw [k0 c hc, tb_0]
  have inv : ∀ n, n ≤ 16 → ∀ i, i < 32 → tb (fo n (fun c s => s ||| (R (126 + c) <<< (nI c &&& 31))) 0) i = (decide (i < n) && tb h i) := by
    intro n
    induction n with
    | zero =>
      intro _ i _
      rw [fo_0, tb_0, decide_eq_false (by omega), Bool.false_and]
    | succ n ih =>
      intro hn i hi
      rw [fo_s, tb_or, ih (by omega) i hi, h16 n (by omega), key n (by omega) i hi]
      by_cases c : i = n
      · subst c
        rw [decide_eq_false (Nat.lt_irrefl i), decide_eq_true rfl, decide_eq_true (Nat.lt_succ_self i), Bool.false_and, Bool.false_or]
      · rw [decide_eq_false c, Bool.false_and, Bool.or_false]
        congr 1
        exact decide_eq_decide.mpr (by omega)
  apply tb_ext
  intro i hi
  show tb (fo 16 _ 0) i = _
  rw [inv 16 (Nat.le_refl _) i hi]
  by_cases c : i < 16
  · rw [decide_eq_true c, Bool.true_and]
  · rw [decide_eq_false c, Bool.false_and, hh i (by omega) hi]
theorem hl_loop {w0 : Wd} {a SL : Nat} {ρ : Nat → Option Nat} {P R0 : Wt} (xs : Nat → Int32) {h : Int32} (h8 : P 8 = h) : ∀ (d c F : Nat) (w : Wd) (g : Mem) (R : Wt), c + d = 16 → d < F → TI w0 w a g ρ P → GS g R [] → (∀ z, ¬ (126 ≤ z ∧ z < 142) → R z = R0 z) → (∀ i, i < 16 → R (126 + i) = if i < c ∧ tb h i = true then 1 else 0) → ∃ w' g' R' F', (DL_war_L721 SL xs F 0 a (nI c)).1 w = (DL_war_b721 SL xs (DL_war_L721 SL xs F') 0 a 16).1 w' ∧ TI w0 w' a g' ρ P ∧ GS g' R' [] ∧ (∀ z, ¬ (126 ≤ z ∧ z < 142) → R' z = R0 z) ∧ (∀ i, i < 16 → R' (126 + i) = if tb h i = true then 1 else 0) ∧ Kp CL w w' ∧ w'.1 = w.1 := by
  intro d
  induction d with
  | zero =>
    intro c F w g R hc hF hI hG hz hi
    obtain ⟨F, rfl⟩ : ∃ F', F = F' + 1 := ⟨F - 1, by omega⟩
    have e : c = 16 := by omega
    subst e
    refine ⟨w, g, R, F, rfl, hI, hG, hz, fun i h16 => ?_, Kp_rf _ _, rfl⟩
    rw [hi i h16]
    by_cases z : tb h i = true
    · rw [if_pos ⟨h16, z⟩, if_pos z]
    · rw [if_neg (fun y => z y.2), if_neg z]
  | succ d ih =>
    intro c F w g R hc hF hI hG hz hi
    obtain ⟨F, rfl⟩ : ∃ F', F = F' + 1 := ⟨F - 1, by omega⟩
    have g8 : gfI a 12 8 w = some h := by rw [g_fi hI.2.1, h8]
    show ∃ w' g' R' F', (DL_war_b721 SL xs (DL_war_L721 SL xs F) 0 a (nI c)).1 w = _ ∧ _
    by_cases cb : tb h c = true
    · have hT := (GS_ok hI.2.2.1 hG).1
      obtain ⟨g1, m1, G1⟩ := ge_set hG hT (what := 4) (who := c) (v := 1) (by omega) (by omega) (by omega) (Or.inr (Or.inr (Or.inr (Or.inr (Or.inl ⟨rfl, by omega, by omega⟩)))))
      have m1 : FX12_set_146 4 (nI c) 1 g = some (1, g1) := m1
      have G1 : GS g1 (upd R (126 + c) (nI 1)) [] := G1
      obtain ⟨w1, c1, c2, c3, c4, c5⟩ := b_cl (A_set _ _ _) (fun {u v u'} h => frX11_set_0 _ _ _ u h) (fun c hc => by simp; omega) hI.2.2.1 m1
      obtain ⟨w', g', R', F', q1, q2, q3, q4, q5, q6, q7⟩ := ih (c + 1) F w1 g1 _ (by omega) (by omega) (TI_cl hI c1 c4) G1 (fun z hz' => by rw [up_ne (by omega)]; exact hz z hz') (fun i h16 => by
        by_cases e : i = c
        · subst e
          rw [up_eq, if_pos ⟨by omega, cb⟩]
          rfl
        · rw [up_ne (by omega), hi i h16]
          by_cases z : i < c ∧ tb h i = true
          · rw [if_pos z, if_pos ⟨by omega, z.2⟩]
          · rw [if_neg z, if_neg (fun y => z ⟨by omega, y.2⟩)])
      refine ⟨w', g', R', F', ?_, q2, q3, q4, q5, K_tr c4 q6, q7.trans c2⟩
      unfold DL_war_b721
      rw [i_f (by rw [show (16 : Int32) = nI 16 by decide, nn_le (by decide) (by omega)]; omega), b_rd g8, i_t (by rw [bit_1 h (by omega)]; exact cb)]
      refine (c5 _ _).trans ?_
      rw [i_f (by decide)]
      unfold DL_war_b754
      rw [← nI_succ]
      exact q1
    · obtain ⟨w', g', R', F', q1, q2⟩ := ih (c + 1) F w g R (by omega) (by omega) hI hG hz (fun i h16 => by
        rw [hi i h16]
        by_cases e : i = c
        · subst e
          rw [if_neg (fun y => cb y.2), if_neg (fun y => cb y.2)]
        · by_cases z : i < c ∧ tb h i = true
          · rw [if_pos z, if_pos ⟨by omega, z.2⟩]
          · rw [if_neg z, if_neg (fun y => z ⟨by omega, y.2⟩)])
      refine ⟨w', g', R', F', ?_, q2⟩
      unfold DL_war_b721
      rw [i_f (by rw [show (16 : Int32) = nI 16 by decide, nn_le (by decide) (by omega)]; omega), b_rd g8, i_f (by rw [bit_1 h (by omega)]; exact cb)]
      unfold DL_war_b754
      rw [← nI_succ]
      exact q1
