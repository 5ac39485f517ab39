/-! stands: the class, whole -/
def goI (W : Wt) (c : Int32) (v2 : Mem) (i : Nat) (s : Int32 × Int32 × Int32 × Mem) : Prop := SG W c s.2.2.2 ∧ TB W c 0 (s.2.2.2 113) ∧ ∃ m U, m ≤ nmen W ∧ sdN (sdY W c) m = i ∧ U < 2 ^ sdN (sdO W c) (nmen W) ∧ s.1 = nI U ∧ sdB (sdO W c) U = sdS (sdY W c) (sdO W c) (sdG W) (nmen W) m ∧ s.2.1 = nI (sdA (sdY W c) (sdO W c) (sdG W) (nmen W) m).1 ∧ s.2.2.1 = nI (sdA (sdY W c) (sdO W c) (sdG W) (nmen W) m).2 ∧ (∀ x, x < m → sdY W c x = true → s.2.2.2 112 (sdN (sdY W c) x) = ovO (sdP (sdY W c) (sdO W c) (sdG W) (nmen W) x (sdS (sdY W c) (sdO W c) (sdG W) (nmen W) x))) ∧ ∀ x, i ≤ x → x < 12 → s.2.2.2 112 x = -1
theorem fill112 (v : Mem) : ∃ v', FJ7_fill_53178_112 (-1) v = some v' ∧ (∀ i, i < 12 → v' 112 i = -1) ∧ ∀ x, x ≠ 112 → v' x = v x := by
  have hh := lp_r (fun F i u => FJ7_fill_53178_112_L5 F (-1) i 12 u) 12 (fun i u => (∀ k, k < i → u 112 k = -1) ∧ ∀ x, x ≠ 112 → u x = v x) (fun o => ∃ v', o = some v' ∧ (∀ i, i < 12 → v' 112 i = -1) ∧ ∀ x, x ≠ 112 → v' x = v x) (fun i u hi h => Or.inl ⟨mupd u 112 i (-1), ⟨fun k hk => by
    rw [m_eq]
    by_cases e : k = i
    · rw [e, up_eq]
    · rw [up_ne e]; exact h.1 k (by omega), fun x hx => by rw [m_ne hx]; exact h.2 x hx⟩, fun F => by
    show FJ7_fill_53178_112_b5 _ _ _ _ _ = _
    unfold FJ7_fill_53178_112_b5
    rw [if_neg (by rw [li_le (by decide) (by omega)]; show ¬ 12 ≤ i; omega), wb (by omega) (by omega), nI_1]⟩) (fun u h F => by
    refine ⟨u, ?_, h⟩
    show FJ7_fill_53178_112_b5 _ _ _ _ _ = _
    unfold FJ7_fill_53178_112_b5
    rw [if_pos (by decide)]) FU 0 v (by omega) (by decide) ⟨fun k hk => by omega, fun x hx => rfl⟩
  rw [nI_0] at hh; exact hh
def gfR (W : Wt) (c : Int32) (p : Int32) : Int32 := if p = 0 then nI (sdA (sdY W c) (sdO W c) (sdG W) (nmen W) (nmen W)).1 else if p = 1 then nI (sdA (sdY W c) (sdO W c) (sdG W) (nmen W) (nmen W)).2 else if ∃ M, M < nmen W ∧ p - 10 = nI M then ovO (sdP (sdY W c) (sdO W c) (sdG W) (nmen W) (nt (p - 10)) (sdS (sdY W c) (sdO W c) (sdG W) (nmen W) (nt (p - 10)))) else -1
theorem c_goer {W : Wt} {c : Int32} {u : Mem} (hS : SG W c u) (hT : OkT W) (hg : ∀ x, x < nmen W → sdY W c x = true → u 112 (sdN (sdY W c) x) = ovO (sdP (sdY W c) (sdO W c) (sdG W) (nmen W) x (sdS (sdY W c) (sdO W c) (sdG W) (nmen W) x))) (q : Int32) : FX7_goerFor_106 q u = some (if ∃ M, M < nmen W ∧ q = nI M then ovO (sdP (sdY W c) (sdO W c) (sdG W) (nmen W) (nt q) (sdS (sdY W c) (sdO W c) (sdG W) (nmen W) (nt q))) else -1) := by
  obtain ⟨hn, hn12⟩ := OkT_n hT
  have y14 := sdN_le (sdY W c) (nmen W)
  unfold FX7_goerFor_106
  have hh := lp_r (fun F i (s : Unit) => FX7_goerFor_106_L2 F q i u) (sdN (sdY W c) (nmen W)) (fun i _ => ∀ x, x < nmen W → sdY W c x = true → sdN (sdY W c) x < i → ¬ q = nI x) (fun o => o = some (if ∃ M, M < nmen W ∧ q = nI M then ovO (sdP (sdY W c) (sdO W c) (sdG W) (nmen W) (nt q) (sdS (sdY W c) (sdO W c) (sdG W) (nmen W) (nt q))) else -1)) (fun i s hi h => ?_) (fun s h F => ?_) FU 0 () (by omega) (by show _ < 10000; omega) (fun x _ _ h => by omega)
  · rw [nI_0] at hh; exact hh
  · obtain ⟨m, hm, hY, em⟩ := sdN_ex (sdY W c) (nmen W) hi
    have start : ∀ F, FX7_goerFor_106_L2 (F + 1) q (nI i) u = (if nI m = q then some (u 112 i) else FX7_goerFor_106_L2 F q (nI (i + 1)) u) := by
      intro F
      show FX7_goerFor_106_b2 _ _ _ _ = _
      unfold FX7_goerFor_106_b2
      have e110 := hS.2.2.2.1 m hm hY
      rw [em] at e110
      rw [hS.2.1, if_neg (nle hi (by omega)), if_neg (by rw [li_le (by decide) (by omega)]; show ¬ 12 ≤ i; omega), rb (by omega) (by omega), e110, rb (by omega) (by omega), nI_1]
    by_cases e : nI m = q
    · refine Or.inr (fun F => ?_)
      have eg := hg m hm hY
      rw [em] at eg
      show FX7_goerFor_106_L2 (F + 1) q (nI i) u = _
      rw [start, if_pos e, if_pos ⟨m, hm, e.symm⟩, eg, ← e, nt_nI (by omega)]
    · refine Or.inl ⟨(), fun x hx hy hlt => ?_, fun F => by rw [start, if_neg e]⟩
      by_cases e2 : sdN (sdY W c) x = i
      · have := sdN_inj hy hY (e2.trans em.symm)
        rw [this]; exact fun h => e h.symm
      · exact h x hx hy (by omega)
  · show FX7_goerFor_106_b2 _ _ _ _ = _
    unfold FX7_goerFor_106_b2
    rw [hS.2.1, if_pos (yle (by omega))]
    by_cases c0 : ∃ M, M < nmen W ∧ q = nI M
    · rw [if_pos c0]
      obtain ⟨M, hM, rfl⟩ := c0
      rw [nt_nI (by omega)]
      unfold sdP
      by_cases hy : sdY W c M = true
      · exact absurd rfl (h M hM hy (sdN_lt hM hy))
      · rw [if_neg hy]; rfl
    · rw [if_neg c0]
theorem c_choose {W : Wt} {c : Int32} {u : Mem} (hS : SG W c u) (hT : OkT W) (hB : TB W c 0 (u 113)) (p : Int32) : ∃ u', FX7_chooseGoers_106 p u = some (gfR W c p, u') := by
  obtain ⟨hn, hn12⟩ := OkT_n hT
  have y14 := sdN_le (sdY W c) (nmen W)
  have o12 := sdN_le (sdO W c) (nmen W)
  unfold FX7_chooseGoers_106
  obtain ⟨u2, g1, g2, g3⟩ := fill112 u
  rw [g1, b_some]
  -- rows 106, 110, 111, 113 stand
  have hS2 : SG W c u2 := SG_cg (fun x hx => g3 x (by omega)) hS
  have hB2 : TB W c 0 (u2 113) := by rw [g3 113 (by decide)]; exact hB
  have hh := lp_r (S := Int32 × Int32 × Int32 × Mem) (fun F i s => FX7_chooseGoers_106_L18 F p s.1 s.2.1 s.2.2.1 i s.2.2.2) (sdN (sdY W c) (nmen W)) (goI W c u2) (fun o => ∃ u', o = some (gfR W c p, u')) (fun i s hi h => ?_) (fun s h F => ?_) FU 0 (0, 0, 0, u2) (by omega) (by show _ < 10000; omega) ⟨hS2, hB2, 0, 0, by omega, rfl, Nat.two_pow_pos _, nI_0.symm, sdB_0 _, nI_0.symm, nI_0.symm, fun x hx => by omega, fun x _ hx => g2 x hx⟩
  · rw [nI_0] at hh; exact hh
  · obtain ⟨us, pr, co, v⟩ := s
    obtain ⟨a, b, m0, U, q1, q2, q3, q4, q5, q6, q7, q8, q9⟩ := h
    dsimp only at a b q4 q6 q7 q8 q9
    obtain ⟨m, hm, hY, em⟩ := sdN_ex (sdY W c) (nmen W) hi
    have hle : m0 ≤ m := by
      rcases Nat.lt_or_ge m m0 with hl | hl
      · have := sdN_lt hl hY; omega
      · exact hl
    obtain ⟨s1, s2⟩ := sd_adv (Y := sdY W c) (O := sdO W c) (ag := sdG W) (n := nmen W) (m - m0) m0 (by rw [show m0 + (m - m0) = m by omega]; omega)
    rw [show m0 + (m - m0) = m by omega] at s1 s2
    rw [← s1] at q5
    rw [← s2] at q6 q7
    subst q4
    subst q6
    subst q7
    have q8' : ∀ x, x < m → sdY W c x = true → v 112 (sdN (sdY W c) x) = ovO (sdP (sdY W c) (sdO W c) (sdG W) (nmen W) x (sdS (sdY W c) (sdO W c) (sdG W) (nmen W) x)) := fun x hx hy => by
      rcases Nat.lt_or_ge x m0 with hl | hl
      · exact q8 x hl hy
      · have h1 := sdN_mono (sdY W c) hl
        have h2 := sdN_lt hx hy
        omega
    have hc : ∀ F, FX7_chooseGoers_106_L18 (F + 1) p (nI U) (nI (sdA (sdY W c) (sdO W c) (sdG W) (nmen W) m).1) (nI (sdA (sdY W c) (sdO W c) (sdG W) (nmen W) m).2) (nI i) v = wyR (FX7_chooseGoers_106_L18 F) p U i (sdA (sdY W c) (sdO W c) (sdG W) (nmen W) m).1 (sdA (sdY W c) (sdO W c) (sdG W) (nmen W) m).2 v (fun j => sdW (sdG W) m (wyO v j)) ((sdP (sdY W c) (sdO W c) (sdG W) (nmen W) m (sdS (sdY W c) (sdO W c) (sdG W) (nmen W) m)).map (sdN (sdO W c))) := by
      intro F
      show FX7_chooseGoers_106_b18 _ _ _ _ _ _ _ = _
      unfold FX7_chooseGoers_106_b18
      rw [a.2.1, if_neg (nle hi (by omega)), if_neg (by rw [li_le (by decide) (by omega)]; show ¬ 12 ≤ i; omega)]
      have h1 := c_ch1 a hT b (U := U) (pr := (sdA (sdY W c) (sdO W c) (sdG W) (nmen W) m).1) (co := (sdA (sdY W c) (sdO W c) (sdG W) (nmen W) m).2) hm hY q3 p (FX7_chooseGoers_106_L18 F) (sdN (sdO W c) (nmen W)) 0 FU (by omega) (by show _ < 10000; omega)
      have h2 := sdF_old (p := wyQ W c m U) (wyO_o a hn12) (nmen W) 0 (by omega)
      have h3 : sdN (sdO W c) 0 = 0 := rfl
      rw [h3, Nat.sub_zero, wyQ_P hm hY, q5] at h2
      rw [nI_0, em, h2] at h1
      exact h1
    refine Or.inl ?_
    cases hp : sdP (sdY W c) (sdO W c) (sdG W) (nmen W) m (sdS (sdY W c) (sdO W c) (sdG W) (nmen W) m) with
    | none =>
      refine ⟨(nI U, nI (sdA (sdY W c) (sdO W c) (sdG W) (nmen W) m).1, nI (sdA (sdY W c) (sdO W c) (sdG W) (nmen W) m).2, v), ⟨a, b, m + 1, U, by omega, by rw [sdN_y hY, em], q3, rfl, ?_, ?_, ?_, fun x hx hy => ?_, fun x h1 h2 => q9 x (by omega) h2⟩, fun F => ?_⟩
      · show _ = sdX (sdS (sdY W c) (sdO W c) (sdG W) (nmen W) m) (sdP (sdY W c) (sdO W c) (sdG W) (nmen W) m (sdS (sdY W c) (sdO W c) (sdG W) (nmen W) m))
        rw [hp]; exact q5
      · show _ = nI (sdD (sdG W) m (sdA (sdY W c) (sdO W c) (sdG W) (nmen W) m) (sdP (sdY W c) (sdO W c) (sdG W) (nmen W) m (sdS (sdY W c) (sdO W c) (sdG W) (nmen W) m))).1
        rw [hp]; rfl
      · show _ = nI (sdD (sdG W) m (sdA (sdY W c) (sdO W c) (sdG W) (nmen W) m) (sdP (sdY W c) (sdO W c) (sdG W) (nmen W) m (sdS (sdY W c) (sdO W c) (sdG W) (nmen W) m))).2
        rw [hp]; rfl
      · by_cases e : x = m
        · rw [e, hp, em]; exact q9 i (Nat.le_refl _) (by omega)
        · exact q8' x (by omega) hy
      · show FX7_chooseGoers_106_L18 (F + 1) p (nI U) (nI (sdA (sdY W c) (sdO W c) (sdG W) (nmen W) m).1) (nI (sdA (sdY W c) (sdO W c) (sdG W) (nmen W) m).2) (nI i) v = _
        rw [hc, hp]; rfl
    | some o =>
      have hp1 := hp
      unfold sdP at hp1
      rw [if_pos hY] at hp1
      obtain ⟨o1, o2⟩ := sdF_some _ _ _ hp1
      unfold sdQ sdC at o2
      rw [Bool.and_eq_true, Bool.and_eq_true, Bool.and_eq_true, decide_eq_true_eq] at o2
      have hO := o2.1.1
      have hag := o2.1.2.2
      have ho : o < nmen W := by omega
      have o13 := sdN_lt ho hO
      have ewo : wyO v (sdN (sdO W c) o) = o := wyO_o a hn12 o ho hO
      have e111 := a.2.2.2.2 o ho hO
      have g120 := (sdG_n hT (show o < 12 by omega)).2
      refine ⟨(nI (U ||| 2 ^ sdN (sdO W c) o), nI ((sdA (sdY W c) (sdO W c) (sdG W) (nmen W) m).1 + 1), nI ((sdA (sdY W c) (sdO W c) (sdG W) (nmen W) m).2 + (sdG W o - sdG W m)), mupd v 112 i (nI o)), ⟨SG_cg (fun x hx => m_ne (by omega)) a, by show TB W c 0 (mupd v 112 i (nI o) 113); rw [m_ne (by decide)]; exact b, m + 1, U ||| 2 ^ sdN (sdO W c) o, by omega, by rw [sdN_y hY, em], Nat.or_lt_two_pow q3 (Nat.pow_lt_pow_right (by omega) o13), rfl, ?_, ?_, ?_, fun x hx hy => ?_, fun x h1 h2 => ?_⟩, fun F => ?_⟩
      · show _ = sdX (sdS (sdY W c) (sdO W c) (sdG W) (nmen W) m) (sdP (sdY W c) (sdO W c) (sdG W) (nmen W) m (sdS (sdY W c) (sdO W c) (sdG W) (nmen W) m))
        rw [hp, sdB_u hO, q5]; rfl
      · show _ = nI (sdD (sdG W) m (sdA (sdY W c) (sdO W c) (sdG W) (nmen W) m) (sdP (sdY W c) (sdO W c) (sdG W) (nmen W) m (sdS (sdY W c) (sdO W c) (sdG W) (nmen W) m))).1
        rw [hp]; rfl
      · show _ = nI (sdD (sdG W) m (sdA (sdY W c) (sdO W c) (sdG W) (nmen W) m) (sdP (sdY W c) (sdO W c) (sdG W) (nmen W) m (sdS (sdY W c) (sdO W c) (sdG W) (nmen W) m))).2
        rw [hp]; rfl
      · show mupd v 112 i (nI o) 112 _ = _
        rw [m_eq]
        by_cases e : x = m
        · rw [e, hp, em, up_eq]; rfl
        · have := sdN_lt (show x < m by omega) hy
          rw [up_ne (by omega)]; exact q8' x (by omega) hy
      · show mupd v 112 i (nI o) 112 x = _
        rw [m_eq, up_ne (by omega)]; exact q9 x (by omega) h2
      · show FX7_chooseGoers_106_L18 (F + 1) p (nI U) (nI (sdA (sdY W c) (sdO W c) (sdG W) (nmen W) m).1) (nI (sdA (sdY W c) (sdO W c) (sdG W) (nmen W) m).2) (nI i) v = _
        rw [hc, hp]
        show FX7_chooseGoers_106_L18 F p _ _ (nI ((sdA (sdY W c) (sdO W c) (sdG W) (nmen W) m).2 + (10000 - sdW (sdG W) m (wyO v (sdN (sdO W c) o))))) _ (mupd v 112 i (v 111 (sdN (sdO W c) o))) = _
        have ew : 10000 - sdW (sdG W) m o = sdG W o - sdG W m := by unfold sdW; omega
        rw [ewo, e111, ew]
  · obtain ⟨us, pr, co, v⟩ := s
    obtain ⟨a, b, m0, U, q1, q2, q3, q4, q5, q6, q7, q8, q9⟩ := h
    dsimp only at a b q4 q6 q7 q8 q9
    obtain ⟨s1, s2⟩ := sd_adv (Y := sdY W c) (O := sdO W c) (ag := sdG W) (n := nmen W) (nmen W - m0) m0 (by rw [show m0 + (nmen W - m0) = nmen W by omega]; omega)
    rw [show m0 + (nmen W - m0) = nmen W by omega] at s1 s2
    rw [← s2] at q6 q7
    have q8' : ∀ x, x < nmen W → sdY W c x = true → v 112 (sdN (sdY W c) x) = ovO (sdP (sdY W c) (sdO W c) (sdG W) (nmen W) x (sdS (sdY W c) (sdO W c) (sdG W) (nmen W) x)) := fun x hx hy => by
      rcases Nat.lt_or_ge x m0 with hl | hl
      · exact q8 x hl hy
      · have h1 := sdN_mono (sdY W c) hl
        have h2 := sdN_lt hx hy
        omega
    have hx : FX7_chooseGoers_106_L18 (F + 1) p us pr co (nI (sdN (sdY W c) (nmen W))) v = FX7_chooseGoers_106_b158 p pr co v := by
      show FX7_chooseGoers_106_b18 _ _ _ _ _ _ _ = _
      unfold FX7_chooseGoers_106_b18
      rw [a.2.1, if_pos (yle (by omega))]
    show ∃ u', FX7_chooseGoers_106_L18 (F + 1) p us pr co (nI (sdN (sdY W c) (nmen W))) v = _
    rw [hx, q6, q7]
    unfold FX7_chooseGoers_106_b158 gfR
    by_cases p0 : p = 0
    · rw [if_pos p0, if_pos p0]; exact ⟨_, rfl⟩
    · rw [if_neg p0, if_neg p0]
      by_cases p1 : p = 1
      · rw [if_pos p1, if_pos p1]; exact ⟨_, rfl⟩
      · rw [if_neg p1, if_neg p1, c_goer a hT q8', b_some]; exact ⟨_, rfl⟩
theorem c_stands {W : Wt} {c : Int32} {u : Mem} (hC : CR 23 u W) (hT : OkT W) (p : Int32) : ∃ u', FX7_standIns_106 c p u = some (gfR W c p, u') := by
  unfold FX7_standIns_106
  obtain ⟨u1, e1, h1⟩ := c_gather hC hT c
  have y14 := sdN_le (sdY W c) (nmen W)
  have hn12 := (OkT_n hT).2
  obtain ⟨u2, e2, h2, h3⟩ := c_weigh hT (sdN (sdY W c) (nmen W)) FU u1 (Nat.le_refl _) (by show _ < 10000; omega) h1 (fun m hm hy hle => by have := sdN_lt hm hy; omega)
  obtain ⟨u3, e3⟩ := c_choose h2 hT h3 p
  have e2' : FX7_weighWays_106 u1 = some u2 := by unfold FX7_weighWays_106; rw [h1.2.1]; exact e2
  rw [e1, b_some, e2', b_some, e3, b2_some]
  exact ⟨_, rfl⟩
