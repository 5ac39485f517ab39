/-! soonest, from -/
/-- the class's search for a lesser one, beside what it truly is -/
def Best (v : Mem) (best least : Int32) : Prop := (best = -1 ∧ v 96 4 = -1 ∧ v 96 5 = 100 ∧ least = 1000000) ∨ (∃ k q, k < 1000 ∧ best = nI k ∧ v 96 4 = nI k ∧ v 96 5 = nI q ∧ least = nI q ∧ q ≤ 99)
theorem take_at {fa : Int32} {B : Wt} {v : Mem} {s : Wt × Int32} (hX : XR_104 fa s.2 B v s.1) (hW : WO s.1) {best least : Int32} (hb : Best v best least) {k : Nat} (hk : k < 1000) : ∃ v' best' least', (∀ K : Mem → Option Mem, (bnd2 (FX2_until_96 ((v 96 5) - 1) v) fun x12 u13 => (FX2_take_96 (nI k) x12 u13).bind fun u15 => K u15) = K v') ∧ Ag v v' ∧ v' 104 3 = 0 ∧ Best v' best' least' ∧ ((lasts fa s < least ∧ best' = nI k ∧ least' = lasts fa s) ∨ (¬ lasts fa s < least ∧ best' = best ∧ least' = least)) := by
  have main : ∀ M, M ≤ 99 → v 96 5 = nI (M + 1) → (least = 1000000 ∧ M = 99 ∨ least = nI (M + 1)) → ∃ v' best' least', (∀ K : Mem → Option Mem, (bnd2 (FX2_until_96 ((v 96 5) - 1) v) fun x12 u13 => (FX2_take_96 (nI k) x12 u13).bind fun u15 => K u15) = K v') ∧ Ag v v' ∧ v' 104 3 = 0 ∧ Best v' best' least' ∧ ((lasts fa s < least ∧ best' = nI k ∧ least' = lasts fa s) ∨ (¬ lasts fa s < least ∧ best' = best ∧ least' = least)) := by
    intro M hM h5 hl
    obtain ⟨v1, g1, x1, ag, e96⟩ := c_until (fa := fa) (B := B) (M := M) (by omega) M 0 FU v s (by omega) (by show _ < 10000; omega) hX hW
    rw [Nat.zero_add, nI_0] at g1
    have e5 : v 96 5 - 1 = nI M := by rw [h5]; exact nI_pred M
    have g2 : FX2_until_96 ((v 96 5) - 1) v = some (if (ru fa M s).1 1 = 0 then nI (du fa M s) else -1, v1) := by rw [e5]; exact g1
    obtain ⟨j, hj⟩ : ∃ j, 99 = M + j := ⟨99 - M, by omega⟩
    have dl := du_le fa M s
    rcases ru_war (fa := fa) (f := M) hW with z | z
    · obtain ⟨p1, p2⟩ := ru_stop fa j M s (by rw [z]; decide)
      have el : lasts fa s = nI (du fa M s) := by
        unfold lasts; rw [hj, p1, p2, if_pos z]
      have lt : lasts fa s < least := by
        rw [el]
        rcases hl with ⟨h1, h2⟩ | h1
        · rw [h1, lt_li (by decide) (by omega)]; show du fa M s < 1000000; omega
        · rw [h1, nn_lt (by omega) (by omega)]; omega
      refine ⟨mupd (mupd v1 96 4 (nI k)) 96 5 (nI (du fa M s)), nI k, nI (du fa M s), fun K => ?_, fun c h1 h2 h3 => by rw [m_ne h2, m_ne h2]; exact ag c h1 h2 h3, by rw [m_ne (by decide), m_ne (by decide)]; exact x1.2.1, Or.inr ⟨k, du fa M s, hk, rfl, by rw [m_eq, up_ne (by omega), m_eq, up_eq], by rw [m_eq, up_eq], rfl, by omega⟩, Or.inl ⟨lt, rfl, el.symm⟩⟩
      rw [g2, if_pos z, b2_some]
      unfold FX2_take_96
      rw [if_neg (nI_m1 (by omega)), e96, h5, if_neg (by rw [nn_le (by omega) (by omega)]; omega), b_some, b_some, b_some]
    · have nlt : ¬ lasts fa s < least := by
        unfold lasts
        obtain ⟨p1, p2⟩ := ru_add fa j M s z
        rw [hj, p1, p2]
        have dj := du_le fa j (ru fa M s)
        rcases hl with ⟨h1, h2⟩ | h1
        · have j0 : j = 0 := by omega
          subst j0
          have : (ru fa 0 (ru fa M s)).1 1 = 1 := z
          rw [if_neg (by rw [this]; decide), h1]; decide
        · rw [h1]
          split
          · rename_i c0
            have j1 : 1 ≤ du fa j (ru fa M s) := by
              cases j with
              | zero =>
                have : (ru fa 0 (ru fa M s)).1 1 = 1 := z
                rw [this] at c0; exact absurd c0 (by decide)
              | succ j =>
                have : du fa (j + 1) (ru fa M s) = du fa j (dDay fa 0 (ru fa M s)) + 1 := if_pos z
                omega
            rw [nn_lt (by omega) (by omega)]; omega
          · rw [li_lt (by decide) (by omega)]; show ¬ 1000000 < M + 1; omega
      refine ⟨v1, best, least, fun K => ?_, ag, x1.2.1, ?_, Or.inr ⟨nlt, rfl, rfl⟩⟩
      · rw [g2, if_neg (by rw [z]; decide), b2_some]
        unfold FX2_take_96
        rw [if_pos rfl, b_some]
      · unfold Best; rw [e96]; exact hb
  rcases id hb with ⟨b1, b2, b3, b4⟩ | ⟨kk, q, q0, q1, q2, q3, q4, q5⟩
  · exact main 99 (by omega) b3 (Or.inl ⟨b4, rfl⟩)
  · by_cases z : q = 0
    · subst z
      have g2 : FX2_until_96 ((v 96 5) - 1) v = some (if s.1 1 = 0 then 0 else -1, v) := by
        rw [q3]
        show FX2_until_96_b2 (FX2_until_96_L2 9999) (nI 0 - 1) 0 v = _
        unfold FX2_until_96_b2 FX2_until_96_b31
        rw [if_pos (by decide), gwar_97 hX.1]
        split <;> rfl
      refine ⟨v, best, least, fun K => ?_, fun c _ _ _ => rfl, hX.2.1, hb, Or.inr ⟨?_, rfl, rfl⟩⟩
      · rw [g2, b2_some]
        unfold FX2_take_96
        by_cases y : s.1 1 = 0
        · rw [if_pos y, if_neg (by decide), q3, if_pos (by decide), b_some]
        · rw [if_neg y, if_pos rfl, b_some]
      · rw [q4]
        rcases lasts_n fa s with e | ⟨j, hj, e⟩
        · rw [e]; decide
        · rw [e, nn_lt (by omega) (by omega)]; omega
    · obtain ⟨M, hM⟩ : ∃ M, q = M + 1 := ⟨q - 1, by omega⟩
      rw [hM] at q3 q4
      exact main M (by omega) q3 (Or.inr q4)
theorem Best_ag {v v' : Mem} {best least : Int32} (e : v' 96 = v 96) (h : Best v best least) : Best v' best least := by unfold Best; rw [e]; exact h
theorem SP_104 {v w : Mem} (h : SP v w) : v 104 3 = 0 := h.2.2.1
/-- the answers -/
theorem ans_at {v : Mem} {best least : Int32} (hb : Best v best least) (p : Int32) : FX2_answer_96 p v = some (if p = 0 then best else if best = -1 then best else least) := by
  unfold FX2_answer_96 FX2_answer_96_b12
  rcases hb with ⟨b1, b2, b3, b4⟩ | ⟨k, q, q0, q1, q2, q3, q4, q5⟩
  · rw [b2, b1]
    split
    · rfl
    · rw [if_pos rfl, if_pos rfl]
  · rw [q2, q1, q3, q4, if_neg (nI_m1 (by omega)), if_neg (nI_m1 (by omega))]
    split <;> rfl
set_option maxHeartbeats 1000000 in
theorem A_soonest (p q : Int32) : A2 (FX11_soonest_0 p q) (FX12_soonest_146 p q) := by
  intro v w h
  obtain ⟨a, b, -⟩ := id h
  obtain ⟨hn, hn12⟩ := OkT_n a.1
  unfold FX11_soonest_0 FX12_soonest_146
  rw [c_co, m_co, b_some, b_some, m_in, b_some]
  by_cases c1 : p = 0 ∨ p = 1
  · rw [if_pos c1, if_neg z1, if_neg z1]
    by_cases c2 : 0 ≤ q ∧ q ≤ 1
    · rw [if_neg (by rw [Int32.not_lt]; exact c2.1), if_pos c2.2, if_pos c2, if_neg z1]
      unfold FX2_chooseMan_96
      rw [b_some, b_some]
      have h0 : SP (mupd (mupd v 96 4 (-1)) 96 5 100) w := SP_v (fun c hc => by rw [m_ne (by omega), m_ne (by omega)]) h
      have hb0 : Best (mupd (mupd v 96 4 (-1)) 96 5 100) (-1) 1000000 := Or.inl ⟨rfl, by rw [m_eq, up_ne (by omega), m_eq, up_eq], by rw [m_eq, up_eq], rfl⟩
      generalize mupd (mupd v 96 4 (-1)) 96 5 100 = v0 at h0 hb0
      have hh := lp_2 (S := Mem) (T := (Int32 × Int32) × Mem) (fun F i s => FX2_chooseMan_96_L13 F p i s) (fun F i t => FX12_soonest_146_L28 F p q t.1.1 t.1.2 i t.2) (nmen (w 147)) (fun i s t => SP s t.2 ∧ t.2 147 = w 147 ∧ Best s t.1.1 t.1.2) (fun o o' => ∃ v' w' best least, o = some v' ∧ o' = some (if q = 0 then best else if best = -1 then best else least, w') ∧ SP v' w' ∧ Best v' best least) (fun i s t hi hI => ?_) (fun s t hI F F' => ?_) FU FU 0 v0 ((-1, 1000000), w) (by omega) (by show _ < 10000; omega) (by show _ < 10000; omega) ⟨h0, rfl, hb0⟩
      · rw [nI_0] at hh
        obtain ⟨v', w', best, least, g1, g2, g3, g4⟩ := hh
        rw [g1, b_some, ans_at g4, b_some, g2]
        exact ⟨_, v', w', rfl, rfl, g3⟩
      · obtain ⟨⟨best, least⟩, w1⟩ := t
        obtain ⟨i1, i2, i3⟩ := hI
        have i1 : SP s w1 := i1
        have i2 : w1 147 = w 147 := i2
        have i3 : Best s best least := i3
        have hi12 : i < 12 := by omega
        have ga := i1.1
        rw [i2] at ga
        have gb := i1.2.1
        rw [i2] at gb
        have hs : s 1 0 = nI (nmen (w 147)) := (gmen gb.1).trans hn
        refine Or.inl ?_
        have startc : ∀ F, FX2_chooseMan_96_L13 (F + 1) p (nI i) s = (if w 147 (90 + i) = p then (if w 147 (40 + i) = 0 then ((FX2_imagine_96 0 s).bind fun u8 => (wrA u8 101 12 (nI i) 1).bind fun u9 => (wrA u9 102 12 (nI i) (dEnd p)).bind fun u11 => bnd2 (FX2_until_96 ((u11 96 5) - 1) u11) fun x12 u13 => (FX2_take_96 (nI i) x12 u13).bind fun u15 => FX2_chooseMan_96_L13 F p (nI (i + 1)) u15) else FX2_chooseMan_96_L13 F p (nI (i + 1)) s) else FX2_chooseMan_96_L13 F p (nI (i + 1)) s) := by
          intro F
          show FX2_chooseMan_96_b13 _ _ _ _ = _
          unfold FX2_chooseMan_96_b13 FX2_chooseMan_96_b101
          rw [if_neg (n12 hi12), hs, if_neg (nle hi (by omega)), rb hi12 (by omega), gco gb.1 hi12, rb hi12 (by omega), gwh_23 gb.1 hi12, c_end, nI_1]
          rfl
        have startm : ∀ F, FX12_soonest_146_L28 (F + 1) p q best least (nI i) w1 = (if (if w 147 (90 + i) = p ∧ w 147 (40 + i) = 0 then (1 : Int32) else 0) = 0 then FX12_soonest_146_L28 F p q best least (nI (i + 1)) w1 else (bnd2 (FX12_lastsWith_146 (nI i) 0 w1) fun x6 u7 => (if x6 < least then (FX12_soonest_146_L28 F p q (nI i) x6 (nI (i + 1)) u7) else (FX12_soonest_146_L28 F p q best least (nI (i + 1)) u7)))) := by
          intro F
          show FX12_soonest_146_b28 _ _ _ _ _ _ _ = _
          unfold FX12_soonest_146_b28 FX12_soonest_146_b80
          rw [i2, hn, if_neg (nle hi (by omega)), m_isOf i2 hi12, b_some, nI_1]
        by_cases e1 : w 147 (90 + i) = p ∧ w 147 (40 + i) = 0
        · obtain ⟨w2, k1, k2, k3, -⟩ := m_lasts i1 (first := nI i) (Or.inr ⟨i, by rw [i2]; exact hi, rfl⟩) 0
          rw [i2] at k1 k3
          have es : st0 (w 147) (nI i) = upd (upd (w 147) (40 + i) 1) (52 + i) (dEnd p) := by
            unfold st0; rw [if_neg (nI_m1 (by omega)), nt_nI (by omega), e1.1]
          rw [es] at k1
          obtain ⟨v1, m1, x1, ag1, e96⟩ := c_imag gb (SP_104 i1) 0
          have hW1 : WO (upd (w 147) (40 + i) 1) := WO_u a (s78_u (by omega)) (OkD_uwh a.2.1 hi12 ⟨1, by omega, rfl⟩ (Or.inl hi))
          have x2 := XR_u104 (XR_u104 x1 a.1 (j := 3) (by omega) hi12 1) hW1.1 (j := 4) (by omega) hi12 (dEnd p)
          have hW2 : WO (upd (upd (w 147) (40 + i) 1) (52 + i) (dEnd p)) := WO_u hW1 (s78_u (by omega)) (OkD_uce hW1.2.1 hi12 (dEnd_n p))
          have hb2 : Best (mupd (mupd v1 (97 + 1 + 3) i 1) (97 + 1 + 4) i (dEnd p)) best least := Best_ag (by rw [m_ne (by decide), m_ne (by decide)]; exact e96) i3
          obtain ⟨v3, best', least', t1, t2, t3, t4, t5⟩ := take_at (s := (upd (upd (w 147) (40 + i) 1) (52 + i) (dEnd p), 0)) x2 hW2 hb2 (k := i) (by omega)
          have agall : Ag s v3 := Ag_t ag1 (Ag_t (fun c h1 h2 h3 => by rw [m_ne (by omega), m_ne (by omega)]) t2)
          refine ⟨v3, ((best', least'), w2), ⟨SP_ag k2 agall t3, k3, t4⟩, fun F => ?_, fun F => ?_⟩
          · rw [startc, if_pos e1.1, if_pos e1.2, m1, b_some, wb hi12 (by omega), wb hi12 (by omega)]
            exact t1 _
          · rw [startm, if_pos e1, if_neg z1, k1, b2_some]
            rcases t5 with ⟨y1, y2, y3⟩ | ⟨y1, y2, y3⟩
            · rw [if_pos y1, ← y2, ← y3]
            · rw [if_neg y1, y2, y3]
        · refine ⟨s, ((best, least), w1), ⟨i1, i2, i3⟩, fun F => ?_, fun F => by rw [startm, if_neg e1, if_pos rfl]⟩
          rw [startc]
          by_cases e2 : w 147 (90 + i) = p
          · rw [if_pos e2, if_neg (fun e3 => e1 ⟨e2, e3⟩)]
          · rw [if_neg e2]
      · obtain ⟨⟨best, least⟩, w1⟩ := t
        obtain ⟨i1, i2, i3⟩ := hI
        have i1 : SP s w1 := i1
        have i2 : w1 147 = w 147 := i2
        have i3 : Best s best least := i3
        have gb := i1.2.1
        rw [i2] at gb
        refine ⟨s, w1, best, least, ?_, ?_, i1, i3⟩
        · show FX2_chooseMan_96_b13 _ _ _ _ = _
          unfold FX2_chooseMan_96_b13
          rw [gmen gb.1, hn, two_ends _ _ (yle (by omega))]
        · show FX12_soonest_146_b28 (FX12_soonest_146_L28 F') p q best least (nI (nmen (w 147))) w1 = _
          unfold FX12_soonest_146_b28 FX12_soonest_146_b95
          rw [i2, hn, if_pos (yle (by omega))]
          by_cases y1 : best = -1
          · rw [if_pos y1, if_pos y1, ite_self]
          · rw [if_neg y1, if_neg y1]
            split <;> rfl
    · rw [if_neg c2, if_pos rfl]
      refine ⟨-1, v, w, ?_, rfl, h⟩
      rcases not_in c2 with c3 | ⟨c3, c4⟩
      · rw [if_pos c3]
      · rw [if_neg c3, if_neg c4]
  · rw [if_neg c1, if_pos rfl, if_pos rfl]
    exact ⟨-1, v, w, rfl, rfl, h⟩
theorem ten_dn {j : Nat} (h : j ≤ 12) : nI (10 * (j + 1)) + (-10) = nI (10 * j) := by
  have : ∀ j, j ≤ 12 → nI (10 * (j + 1)) + (-10) = nI (10 * j) := by decide +kernel
  exact this j h
theorem from_lp (q : Int32) : ∀ (j : Nat), j ≤ 13 → ∀ (F F' : Nat) (s w : Mem) (best least : Int32), j < F → j < F' → SP s w → Best s best least → ∃ v' w' best' least', FX2_chooseAge_96_L14 F (if j = 0 then -10 else nI (10 * (j - 1))) s = some v' ∧ FX12_from_146_L21 F' q best least (if j = 0 then -10 else nI (10 * (j - 1))) w = some (if q = 0 then best' else if best' = -1 then best' else least', w') ∧ SP v' w' ∧ Best v' best' least' := by
  intro j
  induction j with
  | zero =>
    intro _ F F' s w best least hF hF' hs hb
    obtain ⟨F, rfl⟩ : ∃ G, F = G + 1 := ⟨F - 1, by omega⟩
    obtain ⟨F', rfl⟩ : ∃ G, F' = G + 1 := ⟨F' - 1, by omega⟩
    rw [if_pos rfl]
    refine ⟨s, w, best, least, ?_, ?_, hs, hb⟩
    · show FX2_chooseAge_96_b14 _ _ _ = _
      unfold FX2_chooseAge_96_b14
      rw [if_pos (by decide)]
    · show FX12_from_146_b21 _ _ _ _ _ _ = _
      unfold FX12_from_146_b21 FX12_from_146_b65
      rw [if_pos (by decide)]
      by_cases y1 : best = -1
      · rw [if_pos y1, if_pos y1, ite_self]
      · rw [if_neg y1, if_neg y1]
        split <;> rfl
  | succ j ih =>
    intro hj F F' s w best least hF hF' hs hb
    obtain ⟨F, rfl⟩ : ∃ G, F = G + 1 := ⟨F - 1, by omega⟩
    obtain ⟨F', rfl⟩ : ∃ G, F' = G + 1 := ⟨F' - 1, by omega⟩
    rw [if_neg (by omega), Nat.add_sub_cancel]
    have nx : nI (10 * j) + (-10) = (if j = 0 then -10 else nI (10 * (j - 1))) := by
      by_cases z : j = 0
      · rw [if_pos z, z]; decide
      · rw [if_neg z]
        obtain ⟨i, hi⟩ : ∃ i, j = i + 1 := ⟨j - 1, by omega⟩
        rw [hi, ten_dn (by omega), Nat.add_sub_cancel]
    obtain ⟨w2, k1, k2, k3, -⟩ := m_lasts hs (first := -1) (Or.inl rfl) (nI (10 * j))
    have e0 : st0 (w 147) (-1) = w 147 := if_pos rfl
    rw [e0] at k1
    obtain ⟨v1, m1, x1, ag1, e96⟩ := c_imag hs.2.1 (SP_104 hs) (nI (10 * j))
    obtain ⟨v3, best', least', t1, t2, t3, t4, t5⟩ := take_at (s := (w 147, 0)) x1 hs.1 (Best_ag e96 hb) (k := 10 * j) (by omega)
    obtain ⟨v', w', b', l', r1, r2, r3, r4⟩ := ih (by omega) F F' v3 w2 best' least' (by omega) (by omega) (SP_ag k2 (Ag_t ag1 t2) t3) t4
    refine ⟨v', w', b', l', ?_, ?_, r3, r4⟩
    · show FX2_chooseAge_96_b14 _ _ _ = _
      unfold FX2_chooseAge_96_b14
      rw [if_neg (nI_pos (by omega)), m1, b_some, nx]
      exact (t1 _).trans r1
    · show FX12_from_146_b21 _ _ _ _ _ _ = _
      unfold FX12_from_146_b21 FX12_from_146_b50
      rw [if_neg (nI_pos (by omega)), k1, b2_some, nx]
      rcases t5 with ⟨y1, y2, y3⟩ | ⟨y1, y2, y3⟩
      · rw [if_pos y1, ← y3, ← y2]; exact r2
      · rw [if_neg y1]; rw [y2, y3] at r2; exact r2
theorem A_from (p : Int32) : A2 (FX11_from_0 p) (FX12_from_146 p) := by
  intro v w h
  unfold FX11_from_0 FX12_from_146
  rw [m_in, b_some]
  by_cases c2 : 0 ≤ p ∧ p ≤ 1
  · rw [if_neg (by rw [Int32.not_lt]; exact c2.1), if_pos c2.2, if_pos c2, if_neg z1]
    unfold FX2_chooseAge_96
    rw [b_some, b_some]
    have h0 : SP (mupd (mupd v 96 4 (-1)) 96 5 100) w := SP_v (fun c hc => by rw [m_ne (by omega), m_ne (by omega)]) h
    have hb0 : Best (mupd (mupd v 96 4 (-1)) 96 5 100) (-1) 1000000 := Or.inl ⟨rfl, by rw [m_eq, up_ne (by omega), m_eq, up_eq], by rw [m_eq, up_eq], rfl⟩
    obtain ⟨v', w', b', l', r1, r2, r3, r4⟩ := from_lp p 13 (by omega) FU FU _ w (-1) 1000000 (by decide) (by decide) h0 hb0
    rw [if_neg (by omega)] at r1 r2
    have e : nI (10 * (13 - 1)) = 120 := by decide
    rw [e] at r1 r2
    rw [r1, b_some, ans_at r4, b_some, r2]
    exact ⟨_, v', w', rfl, rfl, r3⟩
  · rw [if_neg c2, if_pos rfl]
    refine ⟨-1, v, w, ?_, rfl, h⟩
    rcases not_in c2 with c3 | ⟨c3, c4⟩
    · rw [if_pos c3]
    · rw [if_neg c3, if_neg c4]
